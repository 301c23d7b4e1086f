theorem dX0_goBy_0 : decode cX0_goBy 0 = .ok (.iconst 0, 1) := by decide +kernel
theorem dX0_goBy_1 : decode cX0_goBy 1 = .ok (.istore_n 2, 1) := by decide +kernel
theorem dX0_goBy_2 : decode cX0_goBy 2 = .ok (.iload_n 2, 1) := by decide +kernel
theorem dX0_goBy_3 : decode cX0_goBy 3 = .ok (.iload_n 1, 1) := by decide +kernel
theorem dX0_goBy_4 : decode cX0_goBy 4 = .ok (.if_icmp .ge 39, 3) := by decide +kernel
theorem dX0_goBy_7 : decode cX0_goBy 7 = .ok (.aload_n 0, 1) := by decide +kernel
theorem dX0_goBy_8 : decode cX0_goBy 8 = .ok (.invokestatic 9, 3) := by decide +kernel
theorem dX0_goBy_11 : decode cX0_goBy 11 = .ok (.aload_n 0, 1) := by decide +kernel
theorem dX0_goBy_12 : decode cX0_goBy 12 = .ok (.invokestatic 15, 3) := by decide +kernel
theorem dX0_goBy_15 : decode cX0_goBy 15 = .ok (.aload_n 0, 1) := by decide +kernel
theorem dX0_goBy_16 : decode cX0_goBy 16 = .ok (.invokestatic 18, 3) := by decide +kernel
theorem dX0_goBy_19 : decode cX0_goBy 19 = .ok (.aload_n 0, 1) := by decide +kernel
theorem dX0_goBy_20 : decode cX0_goBy 20 = .ok (.invokestatic 21, 3) := by decide +kernel
theorem dX0_goBy_23 : decode cX0_goBy 23 = .ok (.aload_n 0, 1) := by decide +kernel
theorem dX0_goBy_24 : decode cX0_goBy 24 = .ok (.invokestatic 24, 3) := by decide +kernel
theorem dX0_goBy_27 : decode cX0_goBy 27 = .ok (.aload_n 0, 1) := by decide +kernel
theorem dX0_goBy_28 : decode cX0_goBy 28 = .ok (.dup, 1) := by decide +kernel
theorem dX0_goBy_29 : decode cX0_goBy 29 = .ok (.getfield 27, 3) := by decide +kernel
theorem dX0_goBy_32 : decode cX0_goBy 32 = .ok (.iconst 1, 1) := by decide +kernel
theorem dX0_goBy_33 : decode cX0_goBy 33 = .ok (.iadd, 1) := by decide +kernel
theorem dX0_goBy_34 : decode cX0_goBy 34 = .ok (.putfield 27, 3) := by decide +kernel
theorem dX0_goBy_37 : decode cX0_goBy 37 = .ok (.iinc 2 1, 3) := by decide +kernel
theorem dX0_goBy_40 : decode cX0_goBy 40 = .ok (.goto (-38), 3) := by decide +kernel
theorem dX0_goBy_43 : decode cX0_goBy 43 = .ok (.return_, 1) := by decide +kernel
theorem dX0_nameAll_0 : decode cX0_nameAll 0 = .ok (.iconst 0, 1) := by decide +kernel
theorem dX0_nameAll_1 : decode cX0_nameAll 1 = .ok (.istore_n 1, 1) := by decide +kernel
theorem dX0_nameAll_2 : decode cX0_nameAll 2 = .ok (.iload_n 1, 1) := by decide +kernel
theorem dX0_nameAll_3 : decode cX0_nameAll 3 = .ok (.aload_n 0, 1) := by decide +kernel
theorem dX0_nameAll_4 : decode cX0_nameAll 4 = .ok (.getfield 33, 3) := by decide +kernel
theorem dX0_nameAll_7 : decode cX0_nameAll 7 = .ok (.invokevirtual 37, 3) := by decide +kernel
theorem dX0_nameAll_10 : decode cX0_nameAll 10 = .ok (.if_icmp .ge 25, 3) := by decide +kernel
theorem dX0_nameAll_13 : decode cX0_nameAll 13 = .ok (.aload_n 0, 1) := by decide +kernel
theorem dX0_nameAll_14 : decode cX0_nameAll 14 = .ok (.getfield 33, 3) := by decide +kernel
theorem dX0_nameAll_17 : decode cX0_nameAll 17 = .ok (.getfield 43, 3) := by decide +kernel
theorem dX0_nameAll_20 : decode cX0_nameAll 20 = .ok (.iload_n 1, 1) := by decide +kernel
theorem dX0_nameAll_21 : decode cX0_nameAll 21 = .ok (.aload_n 0, 1) := by decide +kernel
theorem dX0_nameAll_22 : decode cX0_nameAll 22 = .ok (.iload_n 1, 1) := by decide +kernel
theorem dX0_nameAll_23 : decode cX0_nameAll 23 = .ok (.invokevirtual 47, 3) := by decide +kernel
theorem dX0_nameAll_26 : decode cX0_nameAll 26 = .ok (.invokevirtual 51, 3) := by decide +kernel
theorem dX0_nameAll_29 : decode cX0_nameAll 29 = .ok (.iinc 1 1, 3) := by decide +kernel
theorem dX0_nameAll_32 : decode cX0_nameAll 32 = .ok (.goto (-30), 3) := by decide +kernel
theorem dX0_nameAll_35 : decode cX0_nameAll 35 = .ok (.return_, 1) := by decide +kernel
theorem dX0_payAll_0 : decode cX0_payAll 0 = .ok (.iconst 0, 1) := by decide +kernel
theorem dX0_payAll_1 : decode cX0_payAll 1 = .ok (.istore_n 1, 1) := by decide +kernel
theorem dX0_payAll_2 : decode cX0_payAll 2 = .ok (.iload_n 1, 1) := by decide +kernel
theorem dX0_payAll_3 : decode cX0_payAll 3 = .ok (.aload_n 0, 1) := by decide +kernel
theorem dX0_payAll_4 : decode cX0_payAll 4 = .ok (.getfield 33, 3) := by decide +kernel
theorem dX0_payAll_7 : decode cX0_payAll 7 = .ok (.invokevirtual 37, 3) := by decide +kernel
theorem dX0_payAll_10 : decode cX0_payAll 10 = .ok (.if_icmp .ge 88, 3) := by decide +kernel
theorem dX0_payAll_13 : decode cX0_payAll 13 = .ok (.aload_n 0, 1) := by decide +kernel
theorem dX0_payAll_14 : decode cX0_payAll 14 = .ok (.getfield 33, 3) := by decide +kernel
theorem dX0_payAll_17 : decode cX0_payAll 17 = .ok (.getfield 57, 3) := by decide +kernel
theorem dX0_payAll_20 : decode cX0_payAll 20 = .ok (.iload_n 1, 1) := by decide +kernel
theorem dX0_payAll_21 : decode cX0_payAll 21 = .ok (.invokevirtual 60, 3) := by decide +kernel
theorem dX0_payAll_24 : decode cX0_payAll 24 = .ok (.istore_n 2, 1) := by decide +kernel
theorem dX0_payAll_25 : decode cX0_payAll 25 = .ok (.aload_n 0, 1) := by decide +kernel
theorem dX0_payAll_26 : decode cX0_payAll 26 = .ok (.getfield 63, 3) := by decide +kernel
theorem dX0_payAll_29 : decode cX0_payAll 29 = .ok (.iconst 0, 1) := by decide +kernel
theorem dX0_payAll_30 : decode cX0_payAll 30 = .ok (.invokevirtual 60, 3) := by decide +kernel
theorem dX0_payAll_33 : decode cX0_payAll 33 = .ok (.aload_n 0, 1) := by decide +kernel
theorem dX0_payAll_34 : decode cX0_payAll 34 = .ok (.getfield 33, 3) := by decide +kernel
theorem dX0_payAll_37 : decode cX0_payAll 37 = .ok (.getfield 43, 3) := by decide +kernel
theorem dX0_payAll_40 : decode cX0_payAll 40 = .ok (.iload_n 1, 1) := by decide +kernel
theorem dX0_payAll_41 : decode cX0_payAll 41 = .ok (.invokevirtual 60, 3) := by decide +kernel
theorem dX0_payAll_44 : decode cX0_payAll 44 = .ok (.imul, 1) := by decide +kernel
theorem dX0_payAll_45 : decode cX0_payAll 45 = .ok (.bipush 100, 2) := by decide +kernel
theorem dX0_payAll_47 : decode cX0_payAll 47 = .ok (.idiv, 1) := by decide +kernel
theorem dX0_payAll_48 : decode cX0_payAll 48 = .ok (.istore_n 3, 1) := by decide +kernel
theorem dX0_payAll_49 : decode cX0_payAll 49 = .ok (.iload_n 3, 1) := by decide +kernel
theorem dX0_payAll_50 : decode cX0_payAll 50 = .ok (.aload_n 0, 1) := by decide +kernel
theorem dX0_payAll_51 : decode cX0_payAll 51 = .ok (.getfield 66, 3) := by decide +kernel
theorem dX0_payAll_54 : decode cX0_payAll 54 = .ok (.getfield 70, 3) := by decide +kernel
theorem dX0_payAll_57 : decode cX0_payAll 57 = .ok (.iload_n 2, 1) := by decide +kernel
theorem dX0_payAll_58 : decode cX0_payAll 58 = .ok (.invokevirtual 60, 3) := by decide +kernel
theorem dX0_payAll_61 : decode cX0_payAll 61 = .ok (.invokestatic 75, 3) := by decide +kernel
theorem dX0_payAll_64 : decode cX0_payAll 64 = .ok (.istore 4, 2) := by decide +kernel
theorem dX0_payAll_66 : decode cX0_payAll 66 = .ok (.aload_n 0, 1) := by decide +kernel
theorem dX0_payAll_67 : decode cX0_payAll 67 = .ok (.getfield 66, 3) := by decide +kernel
theorem dX0_payAll_70 : decode cX0_payAll 70 = .ok (.iload_n 2, 1) := by decide +kernel
theorem dX0_payAll_71 : decode cX0_payAll 71 = .ok (.iload 4, 2) := by decide +kernel
theorem dX0_payAll_73 : decode cX0_payAll 73 = .ok (.invokevirtual 81, 3) := by decide +kernel
theorem dX0_payAll_76 : decode cX0_payAll 76 = .ok (.aload_n 0, 1) := by decide +kernel
theorem dX0_payAll_77 : decode cX0_payAll 77 = .ok (.aload_n 0, 1) := by decide +kernel
theorem dX0_payAll_78 : decode cX0_payAll 78 = .ok (.getfield 84, 3) := by decide +kernel
theorem dX0_payAll_81 : decode cX0_payAll 81 = .ok (.iload 4, 2) := by decide +kernel
theorem dX0_payAll_83 : decode cX0_payAll 83 = .ok (.iadd, 1) := by decide +kernel
theorem dX0_payAll_84 : decode cX0_payAll 84 = .ok (.ldc 87, 2) := by decide +kernel
theorem dX0_payAll_86 : decode cX0_payAll 86 = .ok (.invokestatic 75, 3) := by decide +kernel
theorem dX0_payAll_89 : decode cX0_payAll 89 = .ok (.putfield 84, 3) := by decide +kernel
theorem dX0_payAll_92 : decode cX0_payAll 92 = .ok (.iinc 1 1, 3) := by decide +kernel
theorem dX0_payAll_95 : decode cX0_payAll 95 = .ok (.goto (-93), 3) := by decide +kernel
theorem dX0_payAll_98 : decode cX0_payAll 98 = .ok (.return_, 1) := by decide +kernel
theorem dX0_sellAll_0 : decode cX0_sellAll 0 = .ok (.iconst 0, 1) := by decide +kernel
theorem dX0_sellAll_1 : decode cX0_sellAll 1 = .ok (.istore_n 1, 1) := by decide +kernel
theorem dX0_sellAll_2 : decode cX0_sellAll 2 = .ok (.iload_n 1, 1) := by decide +kernel
theorem dX0_sellAll_3 : decode cX0_sellAll 3 = .ok (.aload_n 0, 1) := by decide +kernel
theorem dX0_sellAll_4 : decode cX0_sellAll 4 = .ok (.getfield 33, 3) := by decide +kernel
theorem dX0_sellAll_7 : decode cX0_sellAll 7 = .ok (.invokevirtual 37, 3) := by decide +kernel
theorem dX0_sellAll_10 : decode cX0_sellAll 10 = .ok (.if_icmp .ge 28, 3) := by decide +kernel
theorem dX0_sellAll_13 : decode cX0_sellAll 13 = .ok (.aload_n 0, 1) := by decide +kernel
theorem dX0_sellAll_14 : decode cX0_sellAll 14 = .ok (.getfield 33, 3) := by decide +kernel
theorem dX0_sellAll_17 : decode cX0_sellAll 17 = .ok (.getfield 88, 3) := by decide +kernel
theorem dX0_sellAll_20 : decode cX0_sellAll 20 = .ok (.iload_n 1, 1) := by decide +kernel
theorem dX0_sellAll_21 : decode cX0_sellAll 21 = .ok (.invokevirtual 60, 3) := by decide +kernel
theorem dX0_sellAll_24 : decode cX0_sellAll 24 = .ok (.ifCond .ne 8, 3) := by decide +kernel
theorem dX0_sellAll_27 : decode cX0_sellAll 27 = .ok (.aload_n 0, 1) := by decide +kernel
theorem dX0_sellAll_28 : decode cX0_sellAll 28 = .ok (.iload_n 1, 1) := by decide +kernel
theorem dX0_sellAll_29 : decode cX0_sellAll 29 = .ok (.invokestatic 91, 3) := by decide +kernel
theorem dX0_sellAll_32 : decode cX0_sellAll 32 = .ok (.iinc 1 1, 3) := by decide +kernel
theorem dX0_sellAll_35 : decode cX0_sellAll 35 = .ok (.goto (-33), 3) := by decide +kernel
theorem dX0_sellAll_38 : decode cX0_sellAll 38 = .ok (.return_, 1) := by decide +kernel
theorem dX0_offer_0 : decode cX0_offer 0 = .ok (.aload_n 0, 1) := by decide +kernel
theorem dX0_offer_1 : decode cX0_offer 1 = .ok (.getfield 33, 3) := by decide +kernel
theorem dX0_offer_4 : decode cX0_offer 4 = .ok (.getfield 57, 3) := by decide +kernel
theorem dX0_offer_7 : decode cX0_offer 7 = .ok (.iload_n 1, 1) := by decide +kernel
theorem dX0_offer_8 : decode cX0_offer 8 = .ok (.invokevirtual 60, 3) := by decide +kernel
theorem dX0_offer_11 : decode cX0_offer 11 = .ok (.istore_n 2, 1) := by decide +kernel
theorem dX0_offer_12 : decode cX0_offer 12 = .ok (.aload_n 0, 1) := by decide +kernel
theorem dX0_offer_13 : decode cX0_offer 13 = .ok (.getfield 33, 3) := by decide +kernel
theorem dX0_offer_16 : decode cX0_offer 16 = .ok (.getfield 43, 3) := by decide +kernel
theorem dX0_offer_19 : decode cX0_offer 19 = .ok (.iload_n 1, 1) := by decide +kernel
theorem dX0_offer_20 : decode cX0_offer 20 = .ok (.invokevirtual 60, 3) := by decide +kernel
theorem dX0_offer_23 : decode cX0_offer 23 = .ok (.istore_n 3, 1) := by decide +kernel
theorem dX0_offer_24 : decode cX0_offer 24 = .ok (.iconst 0, 1) := by decide +kernel
theorem dX0_offer_25 : decode cX0_offer 25 = .ok (.istore 4, 2) := by decide +kernel
theorem dX0_offer_27 : decode cX0_offer 27 = .ok (.iload 4, 2) := by decide +kernel
theorem dX0_offer_29 : decode cX0_offer 29 = .ok (.aload_n 0, 1) := by decide +kernel
theorem dX0_offer_30 : decode cX0_offer 30 = .ok (.getfield 66, 3) := by decide +kernel
theorem dX0_offer_33 : decode cX0_offer 33 = .ok (.invokevirtual 95, 3) := by decide +kernel
theorem dX0_offer_36 : decode cX0_offer 36 = .ok (.if_icmp .ge 74, 3) := by decide +kernel
theorem dX0_offer_39 : decode cX0_offer 39 = .ok (.iload 4, 2) := by decide +kernel
theorem dX0_offer_41 : decode cX0_offer 41 = .ok (.iload_n 2, 1) := by decide +kernel
theorem dX0_offer_42 : decode cX0_offer 42 = .ok (.if_icmp .eq 46, 3) := by decide +kernel
theorem dX0_offer_45 : decode cX0_offer 45 = .ok (.aload_n 0, 1) := by decide +kernel
theorem dX0_offer_46 : decode cX0_offer 46 = .ok (.iload 4, 2) := by decide +kernel
theorem dX0_offer_48 : decode cX0_offer 48 = .ok (.invokevirtual 96, 3) := by decide +kernel
theorem dX0_offer_51 : decode cX0_offer 51 = .ok (.ifCond .eq 37, 3) := by decide +kernel
theorem dX0_offer_54 : decode cX0_offer 54 = .ok (.aload_n 0, 1) := by decide +kernel
theorem dX0_offer_55 : decode cX0_offer 55 = .ok (.getfield 33, 3) := by decide +kernel
theorem dX0_offer_58 : decode cX0_offer 58 = .ok (.iload 4, 2) := by decide +kernel
theorem dX0_offer_60 : decode cX0_offer 60 = .ok (.iload_n 1, 1) := by decide +kernel
theorem dX0_offer_61 : decode cX0_offer 61 = .ok (.invokevirtual 100, 3) := by decide +kernel
theorem dX0_offer_64 : decode cX0_offer 64 = .ok (.iload_n 3, 1) := by decide +kernel
theorem dX0_offer_65 : decode cX0_offer 65 = .ok (.if_icmp .le 23, 3) := by decide +kernel
theorem dX0_offer_68 : decode cX0_offer 68 = .ok (.aload_n 0, 1) := by decide +kernel
theorem dX0_offer_69 : decode cX0_offer 69 = .ok (.getfield 66, 3) := by decide +kernel
theorem dX0_offer_72 : decode cX0_offer 72 = .ok (.getfield 70, 3) := by decide +kernel
theorem dX0_offer_75 : decode cX0_offer 75 = .ok (.iload 4, 2) := by decide +kernel
theorem dX0_offer_77 : decode cX0_offer 77 = .ok (.invokevirtual 60, 3) := by decide +kernel
theorem dX0_offer_80 : decode cX0_offer 80 = .ok (.iload_n 3, 1) := by decide +kernel
theorem dX0_offer_81 : decode cX0_offer 81 = .ok (.if_icmp .lt 7, 3) := by decide +kernel
theorem dX0_offer_84 : decode cX0_offer 84 = .ok (.iconst 1, 1) := by decide +kernel
theorem dX0_offer_85 : decode cX0_offer 85 = .ok (.goto 4, 3) := by decide +kernel
theorem dX0_offer_88 : decode cX0_offer 88 = .ok (.iconst 0, 1) := by decide +kernel
theorem dX0_offer_89 : decode cX0_offer 89 = .ok (.istore 5, 2) := by decide +kernel
theorem dX0_offer_91 : decode cX0_offer 91 = .ok (.iload 5, 2) := by decide +kernel
theorem dX0_offer_93 : decode cX0_offer 93 = .ok (.ifCond .eq 11, 3) := by decide +kernel
theorem dX0_offer_96 : decode cX0_offer 96 = .ok (.aload_n 0, 1) := by decide +kernel
theorem dX0_offer_97 : decode cX0_offer 97 = .ok (.iload_n 1, 1) := by decide +kernel
theorem dX0_offer_98 : decode cX0_offer 98 = .ok (.iload 4, 2) := by decide +kernel
theorem dX0_offer_100 : decode cX0_offer 100 = .ok (.invokestatic 103, 3) := by decide +kernel
theorem dX0_offer_103 : decode cX0_offer 103 = .ok (.return_, 1) := by decide +kernel
theorem dX0_offer_104 : decode cX0_offer 104 = .ok (.iinc 4 1, 3) := by decide +kernel
theorem dX0_offer_107 : decode cX0_offer 107 = .ok (.goto (-80), 3) := by decide +kernel
theorem dX0_offer_110 : decode cX0_offer 110 = .ok (.return_, 1) := by decide +kernel
theorem dX0_sell_0 : decode cX0_sell 0 = .ok (.aload_n 0, 1) := by decide +kernel
theorem dX0_sell_1 : decode cX0_sell 1 = .ok (.getfield 33, 3) := by decide +kernel
theorem dX0_sell_4 : decode cX0_sell 4 = .ok (.getfield 43, 3) := by decide +kernel
theorem dX0_sell_7 : decode cX0_sell 7 = .ok (.iload_n 1, 1) := by decide +kernel
theorem dX0_sell_8 : decode cX0_sell 8 = .ok (.invokevirtual 60, 3) := by decide +kernel
theorem dX0_sell_11 : decode cX0_sell 11 = .ok (.istore_n 3, 1) := by decide +kernel
theorem dX0_sell_12 : decode cX0_sell 12 = .ok (.aload_n 0, 1) := by decide +kernel
theorem dX0_sell_13 : decode cX0_sell 13 = .ok (.getfield 66, 3) := by decide +kernel
theorem dX0_sell_16 : decode cX0_sell 16 = .ok (.aload_n 0, 1) := by decide +kernel
theorem dX0_sell_17 : decode cX0_sell 17 = .ok (.getfield 33, 3) := by decide +kernel
theorem dX0_sell_20 : decode cX0_sell 20 = .ok (.getfield 57, 3) := by decide +kernel
theorem dX0_sell_23 : decode cX0_sell 23 = .ok (.iload_n 1, 1) := by decide +kernel
theorem dX0_sell_24 : decode cX0_sell 24 = .ok (.invokevirtual 60, 3) := by decide +kernel
theorem dX0_sell_27 : decode cX0_sell 27 = .ok (.iload_n 3, 1) := by decide +kernel
theorem dX0_sell_28 : decode cX0_sell 28 = .ok (.invokevirtual 107, 3) := by decide +kernel
theorem dX0_sell_31 : decode cX0_sell 31 = .ok (.aload_n 0, 1) := by decide +kernel
theorem dX0_sell_32 : decode cX0_sell 32 = .ok (.getfield 66, 3) := by decide +kernel
theorem dX0_sell_35 : decode cX0_sell 35 = .ok (.iload_n 2, 1) := by decide +kernel
theorem dX0_sell_36 : decode cX0_sell 36 = .ok (.iload_n 3, 1) := by decide +kernel
theorem dX0_sell_37 : decode cX0_sell 37 = .ok (.invokevirtual 81, 3) := by decide +kernel
theorem dX0_sell_40 : decode cX0_sell 40 = .ok (.aload_n 0, 1) := by decide +kernel
theorem dX0_sell_41 : decode cX0_sell 41 = .ok (.getfield 33, 3) := by decide +kernel
theorem dX0_sell_44 : decode cX0_sell 44 = .ok (.getfield 57, 3) := by decide +kernel
theorem dX0_sell_47 : decode cX0_sell 47 = .ok (.iload_n 1, 1) := by decide +kernel
theorem dX0_sell_48 : decode cX0_sell 48 = .ok (.iload_n 2, 1) := by decide +kernel
theorem dX0_sell_49 : decode cX0_sell 49 = .ok (.invokevirtual 51, 3) := by decide +kernel
theorem dX0_sell_52 : decode cX0_sell 52 = .ok (.aload_n 0, 1) := by decide +kernel
theorem dX0_sell_53 : decode cX0_sell 53 = .ok (.dup, 1) := by decide +kernel
theorem dX0_sell_54 : decode cX0_sell 54 = .ok (.getfield 110, 3) := by decide +kernel
theorem dX0_sell_57 : decode cX0_sell 57 = .ok (.iconst 1, 1) := by decide +kernel
theorem dX0_sell_58 : decode cX0_sell 58 = .ok (.iadd, 1) := by decide +kernel
theorem dX0_sell_59 : decode cX0_sell 59 = .ok (.putfield 110, 3) := by decide +kernel
theorem dX0_sell_62 : decode cX0_sell 62 = .ok (.aload_n 0, 1) := by decide +kernel
theorem dX0_sell_63 : decode cX0_sell 63 = .ok (.getfield 33, 3) := by decide +kernel
theorem dX0_sell_66 : decode cX0_sell 66 = .ok (.getfield 113, 3) := by decide +kernel
theorem dX0_sell_69 : decode cX0_sell 69 = .ok (.iload_n 1, 1) := by decide +kernel
theorem dX0_sell_70 : decode cX0_sell 70 = .ok (.invokevirtual 60, 3) := by decide +kernel
theorem dX0_sell_73 : decode cX0_sell 73 = .ok (.aload_n 0, 1) := by decide +kernel
theorem dX0_sell_74 : decode cX0_sell 74 = .ok (.getfield 63, 3) := by decide +kernel
theorem dX0_sell_77 : decode cX0_sell 77 = .ok (.iconst 1, 1) := by decide +kernel
theorem dX0_sell_78 : decode cX0_sell 78 = .ok (.invokevirtual 60, 3) := by decide +kernel
theorem dX0_sell_81 : decode cX0_sell 81 = .ok (.isub, 1) := by decide +kernel
theorem dX0_sell_82 : decode cX0_sell 82 = .ok (.istore 4, 2) := by decide +kernel
theorem dX0_sell_84 : decode cX0_sell 84 = .ok (.aload_n 0, 1) := by decide +kernel
theorem dX0_sell_85 : decode cX0_sell 85 = .ok (.getfield 33, 3) := by decide +kernel
theorem dX0_sell_88 : decode cX0_sell 88 = .ok (.getfield 113, 3) := by decide +kernel
theorem dX0_sell_91 : decode cX0_sell 91 = .ok (.iload_n 1, 1) := by decide +kernel
theorem dX0_sell_92 : decode cX0_sell 92 = .ok (.iload 4, 2) := by decide +kernel
theorem dX0_sell_94 : decode cX0_sell 94 = .ok (.iconst 0, 1) := by decide +kernel
theorem dX0_sell_95 : decode cX0_sell 95 = .ok (.invokestatic 116, 3) := by decide +kernel
theorem dX0_sell_98 : decode cX0_sell 98 = .ok (.invokevirtual 51, 3) := by decide +kernel
theorem dX0_sell_101 : decode cX0_sell 101 = .ok (.return_, 1) := by decide +kernel
theorem dX0_mendAll_0 : decode cX0_mendAll 0 = .ok (.iconst 0, 1) := by decide +kernel
theorem dX0_mendAll_1 : decode cX0_mendAll 1 = .ok (.istore_n 1, 1) := by decide +kernel
theorem dX0_mendAll_2 : decode cX0_mendAll 2 = .ok (.iload_n 1, 1) := by decide +kernel
theorem dX0_mendAll_3 : decode cX0_mendAll 3 = .ok (.aload_n 0, 1) := by decide +kernel
theorem dX0_mendAll_4 : decode cX0_mendAll 4 = .ok (.getfield 33, 3) := by decide +kernel
theorem dX0_mendAll_7 : decode cX0_mendAll 7 = .ok (.invokevirtual 37, 3) := by decide +kernel
theorem dX0_mendAll_10 : decode cX0_mendAll 10 = .ok (.if_icmp .ge 75, 3) := by decide +kernel
theorem dX0_mendAll_13 : decode cX0_mendAll 13 = .ok (.aload_n 0, 1) := by decide +kernel
theorem dX0_mendAll_14 : decode cX0_mendAll 14 = .ok (.iload_n 1, 1) := by decide +kernel
theorem dX0_mendAll_15 : decode cX0_mendAll 15 = .ok (.invokevirtual 119, 3) := by decide +kernel
theorem dX0_mendAll_18 : decode cX0_mendAll 18 = .ok (.ifCond .eq 61, 3) := by decide +kernel
theorem dX0_mendAll_21 : decode cX0_mendAll 21 = .ok (.aload_n 0, 1) := by decide +kernel
theorem dX0_mendAll_22 : decode cX0_mendAll 22 = .ok (.getfield 66, 3) := by decide +kernel
theorem dX0_mendAll_25 : decode cX0_mendAll 25 = .ok (.aload_n 0, 1) := by decide +kernel
theorem dX0_mendAll_26 : decode cX0_mendAll 26 = .ok (.getfield 33, 3) := by decide +kernel
theorem dX0_mendAll_29 : decode cX0_mendAll 29 = .ok (.getfield 57, 3) := by decide +kernel
theorem dX0_mendAll_32 : decode cX0_mendAll 32 = .ok (.iload_n 1, 1) := by decide +kernel
theorem dX0_mendAll_33 : decode cX0_mendAll 33 = .ok (.invokevirtual 60, 3) := by decide +kernel
theorem dX0_mendAll_36 : decode cX0_mendAll 36 = .ok (.aload_n 0, 1) := by decide +kernel
theorem dX0_mendAll_37 : decode cX0_mendAll 37 = .ok (.getfield 63, 3) := by decide +kernel
theorem dX0_mendAll_40 : decode cX0_mendAll 40 = .ok (.iconst 4, 1) := by decide +kernel
theorem dX0_mendAll_41 : decode cX0_mendAll 41 = .ok (.invokevirtual 60, 3) := by decide +kernel
theorem dX0_mendAll_44 : decode cX0_mendAll 44 = .ok (.invokevirtual 81, 3) := by decide +kernel
theorem dX0_mendAll_47 : decode cX0_mendAll 47 = .ok (.aload_n 0, 1) := by decide +kernel
theorem dX0_mendAll_48 : decode cX0_mendAll 48 = .ok (.getfield 33, 3) := by decide +kernel
theorem dX0_mendAll_51 : decode cX0_mendAll 51 = .ok (.getfield 113, 3) := by decide +kernel
theorem dX0_mendAll_54 : decode cX0_mendAll 54 = .ok (.iload_n 1, 1) := by decide +kernel
theorem dX0_mendAll_55 : decode cX0_mendAll 55 = .ok (.invokevirtual 60, 3) := by decide +kernel
theorem dX0_mendAll_58 : decode cX0_mendAll 58 = .ok (.bipush 10, 2) := by decide +kernel
theorem dX0_mendAll_60 : decode cX0_mendAll 60 = .ok (.iadd, 1) := by decide +kernel
theorem dX0_mendAll_61 : decode cX0_mendAll 61 = .ok (.istore_n 2, 1) := by decide +kernel
theorem dX0_mendAll_62 : decode cX0_mendAll 62 = .ok (.aload_n 0, 1) := by decide +kernel
theorem dX0_mendAll_63 : decode cX0_mendAll 63 = .ok (.getfield 33, 3) := by decide +kernel
theorem dX0_mendAll_66 : decode cX0_mendAll 66 = .ok (.getfield 113, 3) := by decide +kernel
theorem dX0_mendAll_69 : decode cX0_mendAll 69 = .ok (.iload_n 1, 1) := by decide +kernel
theorem dX0_mendAll_70 : decode cX0_mendAll 70 = .ok (.iload_n 2, 1) := by decide +kernel
theorem dX0_mendAll_71 : decode cX0_mendAll 71 = .ok (.bipush 100, 2) := by decide +kernel
theorem dX0_mendAll_73 : decode cX0_mendAll 73 = .ok (.invokestatic 75, 3) := by decide +kernel
theorem dX0_mendAll_76 : decode cX0_mendAll 76 = .ok (.invokevirtual 51, 3) := by decide +kernel
theorem dX0_mendAll_79 : decode cX0_mendAll 79 = .ok (.iinc 1 1, 3) := by decide +kernel
theorem dX0_mendAll_82 : decode cX0_mendAll 82 = .ok (.goto (-80), 3) := by decide +kernel
theorem dX0_mendAll_85 : decode cX0_mendAll 85 = .ok (.return_, 1) := by decide +kernel
theorem dX0_sharePot_0 : decode cX0_sharePot 0 = .ok (.aload_n 0, 1) := by decide +kernel
theorem dX0_sharePot_1 : decode cX0_sharePot 1 = .ok (.getfield 66, 3) := by decide +kernel
theorem dX0_sharePot_4 : decode cX0_sharePot 4 = .ok (.invokevirtual 95, 3) := by decide +kernel
theorem dX0_sharePot_7 : decode cX0_sharePot 7 = .ok (.istore_n 1, 1) := by decide +kernel
theorem dX0_sharePot_8 : decode cX0_sharePot 8 = .ok (.iload_n 1, 1) := by decide +kernel
theorem dX0_sharePot_9 : decode cX0_sharePot 9 = .ok (.ifCond .le 56, 3) := by decide +kernel
theorem dX0_sharePot_12 : decode cX0_sharePot 12 = .ok (.aload_n 0, 1) := by decide +kernel
theorem dX0_sharePot_13 : decode cX0_sharePot 13 = .ok (.getfield 63, 3) := by decide +kernel
theorem dX0_sharePot_16 : decode cX0_sharePot 16 = .ok (.iconst 2, 1) := by decide +kernel
theorem dX0_sharePot_17 : decode cX0_sharePot 17 = .ok (.invokevirtual 60, 3) := by decide +kernel
theorem dX0_sharePot_20 : decode cX0_sharePot 20 = .ok (.iconst 1, 1) := by decide +kernel
theorem dX0_sharePot_21 : decode cX0_sharePot 21 = .ok (.if_icmp .ne 44, 3) := by decide +kernel
theorem dX0_sharePot_24 : decode cX0_sharePot 24 = .ok (.aload_n 0, 1) := by decide +kernel
theorem dX0_sharePot_25 : decode cX0_sharePot 25 = .ok (.getfield 84, 3) := by decide +kernel
theorem dX0_sharePot_28 : decode cX0_sharePot 28 = .ok (.iload_n 1, 1) := by decide +kernel
theorem dX0_sharePot_29 : decode cX0_sharePot 29 = .ok (.idiv, 1) := by decide +kernel
theorem dX0_sharePot_30 : decode cX0_sharePot 30 = .ok (.istore_n 2, 1) := by decide +kernel
theorem dX0_sharePot_31 : decode cX0_sharePot 31 = .ok (.iconst 0, 1) := by decide +kernel
theorem dX0_sharePot_32 : decode cX0_sharePot 32 = .ok (.istore_n 3, 1) := by decide +kernel
theorem dX0_sharePot_33 : decode cX0_sharePot 33 = .ok (.iload_n 3, 1) := by decide +kernel
theorem dX0_sharePot_34 : decode cX0_sharePot 34 = .ok (.iload_n 1, 1) := by decide +kernel
theorem dX0_sharePot_35 : decode cX0_sharePot 35 = .ok (.if_icmp .ge 18, 3) := by decide +kernel
theorem dX0_sharePot_38 : decode cX0_sharePot 38 = .ok (.aload_n 0, 1) := by decide +kernel
theorem dX0_sharePot_39 : decode cX0_sharePot 39 = .ok (.getfield 66, 3) := by decide +kernel
theorem dX0_sharePot_42 : decode cX0_sharePot 42 = .ok (.iload_n 3, 1) := by decide +kernel
theorem dX0_sharePot_43 : decode cX0_sharePot 43 = .ok (.iload_n 2, 1) := by decide +kernel
theorem dX0_sharePot_44 : decode cX0_sharePot 44 = .ok (.invokevirtual 107, 3) := by decide +kernel
theorem dX0_sharePot_47 : decode cX0_sharePot 47 = .ok (.iinc 3 1, 3) := by decide +kernel
theorem dX0_sharePot_50 : decode cX0_sharePot 50 = .ok (.goto (-17), 3) := by decide +kernel
theorem dX0_sharePot_53 : decode cX0_sharePot 53 = .ok (.aload_n 0, 1) := by decide +kernel
theorem dX0_sharePot_54 : decode cX0_sharePot 54 = .ok (.dup, 1) := by decide +kernel
theorem dX0_sharePot_55 : decode cX0_sharePot 55 = .ok (.getfield 84, 3) := by decide +kernel
theorem dX0_sharePot_58 : decode cX0_sharePot 58 = .ok (.iload_n 2, 1) := by decide +kernel
theorem dX0_sharePot_59 : decode cX0_sharePot 59 = .ok (.iload_n 1, 1) := by decide +kernel
theorem dX0_sharePot_60 : decode cX0_sharePot 60 = .ok (.imul, 1) := by decide +kernel
theorem dX0_sharePot_61 : decode cX0_sharePot 61 = .ok (.isub, 1) := by decide +kernel
theorem dX0_sharePot_62 : decode cX0_sharePot 62 = .ok (.putfield 84, 3) := by decide +kernel
theorem dX0_sharePot_65 : decode cX0_sharePot 65 = .ok (.iload_n 1, 1) := by decide +kernel
theorem dX0_sharePot_66 : decode cX0_sharePot 66 = .ok (.ifCond .le 38, 3) := by decide +kernel
theorem dX0_sharePot_69 : decode cX0_sharePot 69 = .ok (.aload_n 0, 1) := by decide +kernel
theorem dX0_sharePot_70 : decode cX0_sharePot 70 = .ok (.getfield 63, 3) := by decide +kernel
theorem dX0_sharePot_73 : decode cX0_sharePot 73 = .ok (.iconst 2, 1) := by decide +kernel
theorem dX0_sharePot_74 : decode cX0_sharePot 74 = .ok (.invokevirtual 60, 3) := by decide +kernel
theorem dX0_sharePot_77 : decode cX0_sharePot 77 = .ok (.iconst 2, 1) := by decide +kernel
theorem dX0_sharePot_78 : decode cX0_sharePot 78 = .ok (.if_icmp .ne 26, 3) := by decide +kernel
theorem dX0_sharePot_81 : decode cX0_sharePot 81 = .ok (.aload_n 0, 1) := by decide +kernel
theorem dX0_sharePot_82 : decode cX0_sharePot 82 = .ok (.getfield 66, 3) := by decide +kernel
theorem dX0_sharePot_85 : decode cX0_sharePot 85 = .ok (.aload_n 0, 1) := by decide +kernel
theorem dX0_sharePot_86 : decode cX0_sharePot 86 = .ok (.getfield 66, 3) := by decide +kernel
theorem dX0_sharePot_89 : decode cX0_sharePot 89 = .ok (.invokevirtual 122, 3) := by decide +kernel
theorem dX0_sharePot_92 : decode cX0_sharePot 92 = .ok (.aload_n 0, 1) := by decide +kernel
theorem dX0_sharePot_93 : decode cX0_sharePot 93 = .ok (.getfield 84, 3) := by decide +kernel
theorem dX0_sharePot_96 : decode cX0_sharePot 96 = .ok (.invokevirtual 107, 3) := by decide +kernel
theorem dX0_sharePot_99 : decode cX0_sharePot 99 = .ok (.aload_n 0, 1) := by decide +kernel
theorem dX0_sharePot_100 : decode cX0_sharePot 100 = .ok (.iconst 0, 1) := by decide +kernel
theorem dX0_sharePot_101 : decode cX0_sharePot 101 = .ok (.putfield 84, 3) := by decide +kernel
theorem dX0_sharePot_104 : decode cX0_sharePot 104 = .ok (.return_, 1) := by decide +kernel
theorem dX1_isOne_0 : decode cX1_isOne 0 = .ok (.iload_n 0, 1) := by decide +kernel
theorem dX1_isOne_1 : decode cX1_isOne 1 = .ok (.ifCond .lt 15, 3) := by decide +kernel
theorem dX1_isOne_4 : decode cX1_isOne 4 = .ok (.iload_n 0, 1) := by decide +kernel
theorem dX1_isOne_5 : decode cX1_isOne 5 = .ok (.getstatic 7, 3) := by decide +kernel
theorem dX1_isOne_8 : decode cX1_isOne 8 = .ok (.arraylength, 1) := by decide +kernel
theorem dX1_isOne_9 : decode cX1_isOne 9 = .ok (.if_icmp .ge 7, 3) := by decide +kernel
theorem dX1_isOne_12 : decode cX1_isOne 12 = .ok (.iconst 1, 1) := by decide +kernel
theorem dX1_isOne_13 : decode cX1_isOne 13 = .ok (.goto 4, 3) := by decide +kernel
theorem dX1_isOne_16 : decode cX1_isOne 16 = .ok (.iconst 0, 1) := by decide +kernel
theorem dX1_isOne_17 : decode cX1_isOne 17 = .ok (.ireturn, 1) := by decide +kernel
theorem dX1_above_0 : decode cX1_above 0 = .ok (.iload_n 0, 1) := by decide +kernel
theorem dX1_above_1 : decode cX1_above 1 = .ok (.ifCond .lt 19, 3) := by decide +kernel
theorem dX1_above_4 : decode cX1_above 4 = .ok (.iload_n 0, 1) := by decide +kernel
theorem dX1_above_5 : decode cX1_above 5 = .ok (.getstatic 7, 3) := by decide +kernel
theorem dX1_above_8 : decode cX1_above 8 = .ok (.arraylength, 1) := by decide +kernel
theorem dX1_above_9 : decode cX1_above 9 = .ok (.if_icmp .ge 11, 3) := by decide +kernel
theorem dX1_above_12 : decode cX1_above 12 = .ok (.getstatic 7, 3) := by decide +kernel
theorem dX1_above_15 : decode cX1_above 15 = .ok (.iload_n 0, 1) := by decide +kernel
theorem dX1_above_16 : decode cX1_above 16 = .ok (.iaload, 1) := by decide +kernel
theorem dX1_above_17 : decode cX1_above 17 = .ok (.goto 4, 3) := by decide +kernel
theorem dX1_above_20 : decode cX1_above 20 = .ok (.iconst (-1), 1) := by decide +kernel
theorem dX1_above_21 : decode cX1_above 21 = .ok (.ireturn, 1) := by decide +kernel
theorem dX1_isUnder_0 : decode cX1_isUnder 0 = .ok (.iload_n 0, 1) := by decide +kernel
theorem dX1_isUnder_1 : decode cX1_isUnder 1 = .ok (.istore_n 2, 1) := by decide +kernel
theorem dX1_isUnder_2 : decode cX1_isUnder 2 = .ok (.iconst 0, 1) := by decide +kernel
theorem dX1_isUnder_3 : decode cX1_isUnder 3 = .ok (.istore_n 3, 1) := by decide +kernel
theorem dX1_isUnder_4 : decode cX1_isUnder 4 = .ok (.iload_n 3, 1) := by decide +kernel
theorem dX1_isUnder_5 : decode cX1_isUnder 5 = .ok (.iconst 3, 1) := by decide +kernel
theorem dX1_isUnder_6 : decode cX1_isUnder 6 = .ok (.if_icmp .ge 21, 3) := by decide +kernel
theorem dX1_isUnder_9 : decode cX1_isUnder 9 = .ok (.iload_n 2, 1) := by decide +kernel
theorem dX1_isUnder_10 : decode cX1_isUnder 10 = .ok (.iload_n 1, 1) := by decide +kernel
theorem dX1_isUnder_11 : decode cX1_isUnder 11 = .ok (.if_icmp .ne 5, 3) := by decide +kernel
theorem dX1_isUnder_14 : decode cX1_isUnder 14 = .ok (.iconst 1, 1) := by decide +kernel
theorem dX1_isUnder_15 : decode cX1_isUnder 15 = .ok (.ireturn, 1) := by decide +kernel
theorem dX1_isUnder_16 : decode cX1_isUnder 16 = .ok (.iload_n 2, 1) := by decide +kernel
theorem dX1_isUnder_17 : decode cX1_isUnder 17 = .ok (.invokestatic 13, 3) := by decide +kernel
theorem dX1_isUnder_20 : decode cX1_isUnder 20 = .ok (.istore_n 2, 1) := by decide +kernel
theorem dX1_isUnder_21 : decode cX1_isUnder 21 = .ok (.iinc 3 1, 3) := by decide +kernel
theorem dX1_isUnder_24 : decode cX1_isUnder 24 = .ok (.goto (-20), 3) := by decide +kernel
theorem dX1_isUnder_27 : decode cX1_isUnder 27 = .ok (.iconst 0, 1) := by decide +kernel
theorem dX1_isUnder_28 : decode cX1_isUnder 28 = .ok (.ireturn, 1) := by decide +kernel
theorem dX2_init_0 : decode cX2_init 0 = .ok (.aload_n 0, 1) := by decide +kernel
theorem dX2_init_1 : decode cX2_init 1 = .ok (.invokespecial 3, 3) := by decide +kernel
theorem dX2_init_4 : decode cX2_init 4 = .ok (.aload_n 0, 1) := by decide +kernel
theorem dX2_init_5 : decode cX2_init 5 = .ok (.new 9, 3) := by decide +kernel
theorem dX2_init_8 : decode cX2_init 8 = .ok (.dup, 1) := by decide +kernel
theorem dX2_init_9 : decode cX2_init 9 = .ok (.bipush 6, 2) := by decide +kernel
theorem dX2_init_11 : decode cX2_init 11 = .ok (.invokespecial 11, 3) := by decide +kernel
theorem dX2_init_14 : decode cX2_init 14 = .ok (.putfield 14, 3) := by decide +kernel
theorem dX2_init_17 : decode cX2_init 17 = .ok (.aload_n 0, 1) := by decide +kernel
theorem dX2_init_18 : decode cX2_init 18 = .ok (.new 9, 3) := by decide +kernel
theorem dX2_init_21 : decode cX2_init 21 = .ok (.dup, 1) := by decide +kernel
theorem dX2_init_22 : decode cX2_init 22 = .ok (.bipush 6, 2) := by decide +kernel
theorem dX2_init_24 : decode cX2_init 24 = .ok (.invokespecial 11, 3) := by decide +kernel
theorem dX2_init_27 : decode cX2_init 27 = .ok (.putfield 20, 3) := by decide +kernel
theorem dX2_init_30 : decode cX2_init 30 = .ok (.aload_n 0, 1) := by decide +kernel
theorem dX2_init_31 : decode cX2_init 31 = .ok (.new 9, 3) := by decide +kernel
theorem dX2_init_34 : decode cX2_init 34 = .ok (.dup, 1) := by decide +kernel
theorem dX2_init_35 : decode cX2_init 35 = .ok (.bipush 6, 2) := by decide +kernel
theorem dX2_init_37 : decode cX2_init 37 = .ok (.invokespecial 11, 3) := by decide +kernel
theorem dX2_init_40 : decode cX2_init 40 = .ok (.putfield 23, 3) := by decide +kernel
theorem dX2_init_43 : decode cX2_init 43 = .ok (.return_, 1) := by decide +kernel
theorem dX2_look_0 : decode cX2_look 0 = .ok (.aload_n 1, 1) := by decide +kernel
theorem dX2_look_1 : decode cX2_look 1 = .ok (.getfield 26, 3) := by decide +kernel
theorem dX2_look_4 : decode cX2_look 4 = .ok (.getfield 32, 3) := by decide +kernel
theorem dX2_look_7 : decode cX2_look 7 = .ok (.iload_n 2, 1) := by decide +kernel
theorem dX2_look_8 : decode cX2_look 8 = .ok (.invokevirtual 37, 3) := by decide +kernel
theorem dX2_look_11 : decode cX2_look 11 = .ok (.istore_n 3, 1) := by decide +kernel
theorem dX2_look_12 : decode cX2_look 12 = .ok (.aload_n 0, 1) := by decide +kernel
theorem dX2_look_13 : decode cX2_look 13 = .ok (.aload_n 1, 1) := by decide +kernel
theorem dX2_look_14 : decode cX2_look 14 = .ok (.getfield 26, 3) := by decide +kernel
theorem dX2_look_17 : decode cX2_look 17 = .ok (.iload_n 3, 1) := by decide +kernel
theorem dX2_look_18 : decode cX2_look 18 = .ok (.iload_n 2, 1) := by decide +kernel
theorem dX2_look_19 : decode cX2_look 19 = .ok (.invokevirtual 41, 3) := by decide +kernel
theorem dX2_look_22 : decode cX2_look 22 = .ok (.putfield 45, 3) := by decide +kernel
theorem dX2_look_25 : decode cX2_look 25 = .ok (.aload_n 0, 1) := by decide +kernel
theorem dX2_look_26 : decode cX2_look 26 = .ok (.lconst 1, 1) := by decide +kernel
theorem dX2_look_27 : decode cX2_look 27 = .ok (.putfield 49, 3) := by decide +kernel
theorem dX2_look_30 : decode cX2_look 30 = .ok (.aload_n 0, 1) := by decide +kernel
theorem dX2_look_31 : decode cX2_look 31 = .ok (.getfield 14, 3) := by decide +kernel
theorem dX2_look_34 : decode cX2_look 34 = .ok (.iconst 0, 1) := by decide +kernel
theorem dX2_look_35 : decode cX2_look 35 = .ok (.invokevirtual 53, 3) := by decide +kernel
theorem dX2_look_38 : decode cX2_look 38 = .ok (.aload_n 0, 1) := by decide +kernel
theorem dX2_look_39 : decode cX2_look 39 = .ok (.getfield 20, 3) := by decide +kernel
theorem dX2_look_42 : decode cX2_look 42 = .ok (.iconst 0, 1) := by decide +kernel
theorem dX2_look_43 : decode cX2_look 43 = .ok (.invokevirtual 53, 3) := by decide +kernel
theorem dX2_look_46 : decode cX2_look 46 = .ok (.aload_n 0, 1) := by decide +kernel
theorem dX2_look_47 : decode cX2_look 47 = .ok (.getfield 23, 3) := by decide +kernel
theorem dX2_look_50 : decode cX2_look 50 = .ok (.iconst 0, 1) := by decide +kernel
theorem dX2_look_51 : decode cX2_look 51 = .ok (.invokevirtual 53, 3) := by decide +kernel
theorem dX2_look_54 : decode cX2_look 54 = .ok (.iconst 0, 1) := by decide +kernel
theorem dX2_look_55 : decode cX2_look 55 = .ok (.istore 4, 2) := by decide +kernel
theorem dX2_look_57 : decode cX2_look 57 = .ok (.iload 4, 2) := by decide +kernel
theorem dX2_look_59 : decode cX2_look 59 = .ok (.aload_n 1, 1) := by decide +kernel
theorem dX2_look_60 : decode cX2_look 60 = .ok (.getfield 56, 3) := by decide +kernel
theorem dX2_look_63 : decode cX2_look 63 = .ok (.invokevirtual 60, 3) := by decide +kernel
theorem dX2_look_66 : decode cX2_look 66 = .ok (.if_icmp .ge 89, 3) := by decide +kernel
theorem dX2_look_69 : decode cX2_look 69 = .ok (.iload 4, 2) := by decide +kernel
theorem dX2_look_71 : decode cX2_look 71 = .ok (.iload_n 3, 1) := by decide +kernel
theorem dX2_look_72 : decode cX2_look 72 = .ok (.if_icmp .eq 77, 3) := by decide +kernel
theorem dX2_look_75 : decode cX2_look 75 = .ok (.aload_n 1, 1) := by decide +kernel
theorem dX2_look_76 : decode cX2_look 76 = .ok (.getfield 56, 3) := by decide +kernel
theorem dX2_look_79 : decode cX2_look 79 = .ok (.getfield 66, 3) := by decide +kernel
theorem dX2_look_82 : decode cX2_look 82 = .ok (.iload 4, 2) := by decide +kernel
theorem dX2_look_84 : decode cX2_look 84 = .ok (.invokevirtual 37, 3) := by decide +kernel
theorem dX2_look_87 : decode cX2_look 87 = .ok (.istore 5, 2) := by decide +kernel
theorem dX2_look_89 : decode cX2_look 89 = .ok (.aload_n 0, 1) := by decide +kernel
theorem dX2_look_90 : decode cX2_look 90 = .ok (.getfield 14, 3) := by decide +kernel
theorem dX2_look_93 : decode cX2_look 93 = .ok (.aload_n 1, 1) := by decide +kernel
theorem dX2_look_94 : decode cX2_look 94 = .ok (.getfield 26, 3) := by decide +kernel
theorem dX2_look_97 : decode cX2_look 97 = .ok (.iload 4, 2) := by decide +kernel
theorem dX2_look_99 : decode cX2_look 99 = .ok (.iload_n 2, 1) := by decide +kernel
theorem dX2_look_100 : decode cX2_look 100 = .ok (.invokevirtual 41, 3) := by decide +kernel
theorem dX2_look_103 : decode cX2_look 103 = .ok (.invokevirtual 67, 3) := by decide +kernel
theorem dX2_look_106 : decode cX2_look 106 = .ok (.aload_n 0, 1) := by decide +kernel
theorem dX2_look_107 : decode cX2_look 107 = .ok (.getfield 20, 3) := by decide +kernel
theorem dX2_look_110 : decode cX2_look 110 = .ok (.iload 5, 2) := by decide +kernel
theorem dX2_look_112 : decode cX2_look 112 = .ok (.aload_n 1, 1) := by decide +kernel
theorem dX2_look_113 : decode cX2_look 113 = .ok (.getfield 56, 3) := by decide +kernel
theorem dX2_look_116 : decode cX2_look 116 = .ok (.getfield 70, 3) := by decide +kernel
theorem dX2_look_119 : decode cX2_look 119 = .ok (.iload 4, 2) := by decide +kernel
theorem dX2_look_121 : decode cX2_look 121 = .ok (.invokevirtual 37, 3) := by decide +kernel
theorem dX2_look_124 : decode cX2_look 124 = .ok (.isub, 1) := by decide +kernel
theorem dX2_look_125 : decode cX2_look 125 = .ok (.invokevirtual 67, 3) := by decide +kernel
theorem dX2_look_128 : decode cX2_look 128 = .ok (.aload_n 0, 1) := by decide +kernel
theorem dX2_look_129 : decode cX2_look 129 = .ok (.getfield 23, 3) := by decide +kernel
theorem dX2_look_132 : decode cX2_look 132 = .ok (.iload 5, 2) := by decide +kernel
theorem dX2_look_134 : decode cX2_look 134 = .ok (.invokevirtual 67, 3) := by decide +kernel
theorem dX2_look_137 : decode cX2_look 137 = .ok (.aload_n 0, 1) := by decide +kernel
theorem dX2_look_138 : decode cX2_look 138 = .ok (.dup, 1) := by decide +kernel
theorem dX2_look_139 : decode cX2_look 139 = .ok (.getfield 49, 3) := by decide +kernel
theorem dX2_look_142 : decode cX2_look 142 = .ok (.iload 5, 2) := by decide +kernel
theorem dX2_look_144 : decode cX2_look 144 = .ok (.i2l, 1) := by decide +kernel
theorem dX2_look_145 : decode cX2_look 145 = .ok (.lmul, 1) := by decide +kernel
theorem dX2_look_146 : decode cX2_look 146 = .ok (.putfield 49, 3) := by decide +kernel
theorem dX2_look_149 : decode cX2_look 149 = .ok (.iinc 4 1, 3) := by decide +kernel
theorem dX2_look_152 : decode cX2_look 152 = .ok (.goto (-95), 3) := by decide +kernel
theorem dX2_look_155 : decode cX2_look 155 = .ok (.return_, 1) := by decide +kernel
theorem dX2_leftAt_0 : decode cX2_leftAt 0 = .ok (.lconst 1, 1) := by decide +kernel
theorem dX2_leftAt_1 : decode cX2_leftAt 1 = .ok (.lstore_n 2, 1) := by decide +kernel
theorem dX2_leftAt_2 : decode cX2_leftAt 2 = .ok (.iconst 0, 1) := by decide +kernel
theorem dX2_leftAt_3 : decode cX2_leftAt 3 = .ok (.istore 4, 2) := by decide +kernel
theorem dX2_leftAt_5 : decode cX2_leftAt 5 = .ok (.iload 4, 2) := by decide +kernel
theorem dX2_leftAt_7 : decode cX2_leftAt 7 = .ok (.aload_n 0, 1) := by decide +kernel
theorem dX2_leftAt_8 : decode cX2_leftAt 8 = .ok (.getfield 14, 3) := by decide +kernel
theorem dX2_leftAt_11 : decode cX2_leftAt 11 = .ok (.invokevirtual 73, 3) := by decide +kernel
theorem dX2_leftAt_14 : decode cX2_leftAt 14 = .ok (.if_icmp .ge 48, 3) := by decide +kernel
theorem dX2_leftAt_17 : decode cX2_leftAt 17 = .ok (.lload_n 2, 1) := by decide +kernel
theorem dX2_leftAt_18 : decode cX2_leftAt 18 = .ok (.aload_n 0, 1) := by decide +kernel
theorem dX2_leftAt_19 : decode cX2_leftAt 19 = .ok (.getfield 14, 3) := by decide +kernel
theorem dX2_leftAt_22 : decode cX2_leftAt 22 = .ok (.iload 4, 2) := by decide +kernel
theorem dX2_leftAt_24 : decode cX2_leftAt 24 = .ok (.invokevirtual 37, 3) := by decide +kernel
theorem dX2_leftAt_27 : decode cX2_leftAt 27 = .ok (.iload_n 1, 1) := by decide +kernel
theorem dX2_leftAt_28 : decode cX2_leftAt 28 = .ok (.if_icmp .le 16, 3) := by decide +kernel
theorem dX2_leftAt_31 : decode cX2_leftAt 31 = .ok (.aload_n 0, 1) := by decide +kernel
theorem dX2_leftAt_32 : decode cX2_leftAt 32 = .ok (.getfield 20, 3) := by decide +kernel
theorem dX2_leftAt_35 : decode cX2_leftAt 35 = .ok (.iload 4, 2) := by decide +kernel
theorem dX2_leftAt_37 : decode cX2_leftAt 37 = .ok (.invokevirtual 37, 3) := by decide +kernel
theorem dX2_leftAt_40 : decode cX2_leftAt 40 = .ok (.i2l, 1) := by decide +kernel
theorem dX2_leftAt_41 : decode cX2_leftAt 41 = .ok (.goto 13, 3) := by decide +kernel
theorem dX2_leftAt_44 : decode cX2_leftAt 44 = .ok (.aload_n 0, 1) := by decide +kernel
theorem dX2_leftAt_45 : decode cX2_leftAt 45 = .ok (.getfield 23, 3) := by decide +kernel
theorem dX2_leftAt_48 : decode cX2_leftAt 48 = .ok (.iload 4, 2) := by decide +kernel
theorem dX2_leftAt_50 : decode cX2_leftAt 50 = .ok (.invokevirtual 37, 3) := by decide +kernel
theorem dX2_leftAt_53 : decode cX2_leftAt 53 = .ok (.i2l, 1) := by decide +kernel
theorem dX2_leftAt_54 : decode cX2_leftAt 54 = .ok (.lmul, 1) := by decide +kernel
theorem dX2_leftAt_55 : decode cX2_leftAt 55 = .ok (.lstore_n 2, 1) := by decide +kernel
theorem dX2_leftAt_56 : decode cX2_leftAt 56 = .ok (.iinc 4 1, 3) := by decide +kernel
theorem dX2_leftAt_59 : decode cX2_leftAt 59 = .ok (.goto (-54), 3) := by decide +kernel
theorem dX2_leftAt_62 : decode cX2_leftAt 62 = .ok (.lload_n 2, 1) := by decide +kernel
theorem dX2_leftAt_63 : decode cX2_leftAt 63 = .ok (.lreturn, 1) := by decide +kernel
theorem dX2_gainAt_0 : decode cX2_gainAt 0 = .ok (.aload_n 0, 1) := by decide +kernel
theorem dX2_gainAt_1 : decode cX2_gainAt 1 = .ok (.iload_n 1, 1) := by decide +kernel
theorem dX2_gainAt_2 : decode cX2_gainAt 2 = .ok (.invokevirtual 74, 3) := by decide +kernel
theorem dX2_gainAt_5 : decode cX2_gainAt 5 = .ok (.lstore_n 3, 1) := by decide +kernel
theorem dX2_gainAt_6 : decode cX2_gainAt 6 = .ok (.ldc2_w 78, 3) := by decide +kernel
theorem dX2_gainAt_9 : decode cX2_gainAt 9 = .ok (.aload_n 0, 1) := by decide +kernel
theorem dX2_gainAt_10 : decode cX2_gainAt 10 = .ok (.getfield 49, 3) := by decide +kernel
theorem dX2_gainAt_13 : decode cX2_gainAt 13 = .ok (.lload_n 3, 1) := by decide +kernel
theorem dX2_gainAt_14 : decode cX2_gainAt 14 = .ok (.lsub, 1) := by decide +kernel
theorem dX2_gainAt_15 : decode cX2_gainAt 15 = .ok (.iload_n 1, 1) := by decide +kernel
theorem dX2_gainAt_16 : decode cX2_gainAt 16 = .ok (.i2l, 1) := by decide +kernel
theorem dX2_gainAt_17 : decode cX2_gainAt 17 = .ok (.lmul, 1) := by decide +kernel
theorem dX2_gainAt_18 : decode cX2_gainAt 18 = .ok (.lload_n 3, 1) := by decide +kernel
theorem dX2_gainAt_19 : decode cX2_gainAt 19 = .ok (.aload_n 0, 1) := by decide +kernel
theorem dX2_gainAt_20 : decode cX2_gainAt 20 = .ok (.getfield 45, 3) := by decide +kernel
theorem dX2_gainAt_23 : decode cX2_gainAt 23 = .ok (.i2l, 1) := by decide +kernel
theorem dX2_gainAt_24 : decode cX2_gainAt 24 = .ok (.lmul, 1) := by decide +kernel
theorem dX2_gainAt_25 : decode cX2_gainAt 25 = .ok (.ladd, 1) := by decide +kernel
theorem dX2_gainAt_26 : decode cX2_gainAt 26 = .ok (.lmul, 1) := by decide +kernel
theorem dX2_gainAt_27 : decode cX2_gainAt 27 = .ok (.aload_n 0, 1) := by decide +kernel
theorem dX2_gainAt_28 : decode cX2_gainAt 28 = .ok (.getfield 49, 3) := by decide +kernel
theorem dX2_gainAt_31 : decode cX2_gainAt 31 = .ok (.iload_n 2, 1) := by decide +kernel
theorem dX2_gainAt_32 : decode cX2_gainAt 32 = .ok (.i2l, 1) := by decide +kernel
theorem dX2_gainAt_33 : decode cX2_gainAt 33 = .ok (.lmul, 1) := by decide +kernel
theorem dX2_gainAt_34 : decode cX2_gainAt 34 = .ok (.iload_n 1, 1) := by decide +kernel
theorem dX2_gainAt_35 : decode cX2_gainAt 35 = .ok (.i2l, 1) := by decide +kernel
theorem dX2_gainAt_36 : decode cX2_gainAt 36 = .ok (.lmul, 1) := by decide +kernel
theorem dX2_gainAt_37 : decode cX2_gainAt 37 = .ok (.lsub, 1) := by decide +kernel
theorem dX2_gainAt_38 : decode cX2_gainAt 38 = .ok (.lreturn, 1) := by decide +kernel
theorem dX2_bestPrice_0 : decode cX2_bestPrice 0 = .ok (.iconst 0, 1) := by decide +kernel
theorem dX2_bestPrice_1 : decode cX2_bestPrice 1 = .ok (.istore_n 2, 1) := by decide +kernel
theorem dX2_bestPrice_2 : decode cX2_bestPrice 2 = .ok (.aload_n 0, 1) := by decide +kernel
theorem dX2_bestPrice_3 : decode cX2_bestPrice 3 = .ok (.iconst 0, 1) := by decide +kernel
theorem dX2_bestPrice_4 : decode cX2_bestPrice 4 = .ok (.iload_n 1, 1) := by decide +kernel
theorem dX2_bestPrice_5 : decode cX2_bestPrice 5 = .ok (.invokevirtual 80, 3) := by decide +kernel
theorem dX2_bestPrice_8 : decode cX2_bestPrice 8 = .ok (.lstore_n 3, 1) := by decide +kernel
theorem dX2_bestPrice_9 : decode cX2_bestPrice 9 = .ok (.iconst 0, 1) := by decide +kernel
theorem dX2_bestPrice_10 : decode cX2_bestPrice 10 = .ok (.istore 5, 2) := by decide +kernel
theorem dX2_bestPrice_12 : decode cX2_bestPrice 12 = .ok (.iload 5, 2) := by decide +kernel
theorem dX2_bestPrice_14 : decode cX2_bestPrice 14 = .ok (.aload_n 0, 1) := by decide +kernel
theorem dX2_bestPrice_15 : decode cX2_bestPrice 15 = .ok (.getfield 14, 3) := by decide +kernel
theorem dX2_bestPrice_18 : decode cX2_bestPrice 18 = .ok (.invokevirtual 73, 3) := by decide +kernel
theorem dX2_bestPrice_21 : decode cX2_bestPrice 21 = .ok (.iconst 2, 1) := by decide +kernel
theorem dX2_bestPrice_22 : decode cX2_bestPrice 22 = .ok (.imul, 1) := by decide +kernel
theorem dX2_bestPrice_23 : decode cX2_bestPrice 23 = .ok (.if_icmp .gt 63, 3) := by decide +kernel
theorem dX2_bestPrice_26 : decode cX2_bestPrice 26 = .ok (.aload_n 0, 1) := by decide +kernel
theorem dX2_bestPrice_27 : decode cX2_bestPrice 27 = .ok (.iload 5, 2) := by decide +kernel
theorem dX2_bestPrice_29 : decode cX2_bestPrice 29 = .ok (.invokevirtual 84, 3) := by decide +kernel
theorem dX2_bestPrice_32 : decode cX2_bestPrice 32 = .ok (.istore 6, 2) := by decide +kernel
theorem dX2_bestPrice_34 : decode cX2_bestPrice 34 = .ok (.iload 6, 2) := by decide +kernel
theorem dX2_bestPrice_36 : decode cX2_bestPrice 36 = .ok (.ifCond .ge 9, 3) := by decide +kernel
theorem dX2_bestPrice_39 : decode cX2_bestPrice 39 = .ok (.lload_n 3, 1) := by decide +kernel
theorem dX2_bestPrice_40 : decode cX2_bestPrice 40 = .ok (.lconst 1, 1) := by decide +kernel
theorem dX2_bestPrice_41 : decode cX2_bestPrice 41 = .ok (.lsub, 1) := by decide +kernel
theorem dX2_bestPrice_42 : decode cX2_bestPrice 42 = .ok (.goto 10, 3) := by decide +kernel
theorem dX2_bestPrice_45 : decode cX2_bestPrice 45 = .ok (.aload_n 0, 1) := by decide +kernel
theorem dX2_bestPrice_46 : decode cX2_bestPrice 46 = .ok (.iload 6, 2) := by decide +kernel
theorem dX2_bestPrice_48 : decode cX2_bestPrice 48 = .ok (.iload_n 1, 1) := by decide +kernel
theorem dX2_bestPrice_49 : decode cX2_bestPrice 49 = .ok (.invokevirtual 80, 3) := by decide +kernel
theorem dX2_bestPrice_52 : decode cX2_bestPrice 52 = .ok (.lstore 7, 2) := by decide +kernel
theorem dX2_bestPrice_54 : decode cX2_bestPrice 54 = .ok (.lload 7, 2) := by decide +kernel
theorem dX2_bestPrice_56 : decode cX2_bestPrice 56 = .ok (.lload_n 3, 1) := by decide +kernel
theorem dX2_bestPrice_57 : decode cX2_bestPrice 57 = .ok (.lcmp, 1) := by decide +kernel
theorem dX2_bestPrice_58 : decode cX2_bestPrice 58 = .ok (.ifCond .gt 16, 3) := by decide +kernel
theorem dX2_bestPrice_61 : decode cX2_bestPrice 61 = .ok (.lload 7, 2) := by decide +kernel
theorem dX2_bestPrice_63 : decode cX2_bestPrice 63 = .ok (.lload_n 3, 1) := by decide +kernel
theorem dX2_bestPrice_64 : decode cX2_bestPrice 64 = .ok (.lcmp, 1) := by decide +kernel
theorem dX2_bestPrice_65 : decode cX2_bestPrice 65 = .ok (.ifCond .ne 15, 3) := by decide +kernel
theorem dX2_bestPrice_68 : decode cX2_bestPrice 68 = .ok (.iload 6, 2) := by decide +kernel
theorem dX2_bestPrice_70 : decode cX2_bestPrice 70 = .ok (.iload_n 2, 1) := by decide +kernel
theorem dX2_bestPrice_71 : decode cX2_bestPrice 71 = .ok (.if_icmp .ge 9, 3) := by decide +kernel
theorem dX2_bestPrice_74 : decode cX2_bestPrice 74 = .ok (.iload 6, 2) := by decide +kernel
theorem dX2_bestPrice_76 : decode cX2_bestPrice 76 = .ok (.istore_n 2, 1) := by decide +kernel
theorem dX2_bestPrice_77 : decode cX2_bestPrice 77 = .ok (.lload 7, 2) := by decide +kernel
theorem dX2_bestPrice_79 : decode cX2_bestPrice 79 = .ok (.lstore_n 3, 1) := by decide +kernel
theorem dX2_bestPrice_80 : decode cX2_bestPrice 80 = .ok (.iinc 5 1, 3) := by decide +kernel
theorem dX2_bestPrice_83 : decode cX2_bestPrice 83 = .ok (.goto (-71), 3) := by decide +kernel
theorem dX2_bestPrice_86 : decode cX2_bestPrice 86 = .ok (.iload_n 2, 1) := by decide +kernel
theorem dX2_bestPrice_87 : decode cX2_bestPrice 87 = .ok (.ireturn, 1) := by decide +kernel
theorem dX2_candidate_0 : decode cX2_candidate 0 = .ok (.iload_n 1, 1) := by decide +kernel
theorem dX2_candidate_1 : decode cX2_candidate 1 = .ok (.aload_n 0, 1) := by decide +kernel
theorem dX2_candidate_2 : decode cX2_candidate 2 = .ok (.getfield 14, 3) := by decide +kernel
theorem dX2_candidate_5 : decode cX2_candidate 5 = .ok (.invokevirtual 73, 3) := by decide +kernel
theorem dX2_candidate_8 : decode cX2_candidate 8 = .ok (.iconst 2, 1) := by decide +kernel
theorem dX2_candidate_9 : decode cX2_candidate 9 = .ok (.imul, 1) := by decide +kernel
theorem dX2_candidate_10 : decode cX2_candidate 10 = .ok (.if_icmp .ne 9, 3) := by decide +kernel
theorem dX2_candidate_13 : decode cX2_candidate 13 = .ok (.sipush 9999, 3) := by decide +kernel
theorem dX2_candidate_16 : decode cX2_candidate 16 = .ok (.goto 17, 3) := by decide +kernel
theorem dX2_candidate_19 : decode cX2_candidate 19 = .ok (.aload_n 0, 1) := by decide +kernel
theorem dX2_candidate_20 : decode cX2_candidate 20 = .ok (.getfield 14, 3) := by decide +kernel
theorem dX2_candidate_23 : decode cX2_candidate 23 = .ok (.iload_n 1, 1) := by decide +kernel
theorem dX2_candidate_24 : decode cX2_candidate 24 = .ok (.iconst 2, 1) := by decide +kernel
theorem dX2_candidate_25 : decode cX2_candidate 25 = .ok (.idiv, 1) := by decide +kernel
theorem dX2_candidate_26 : decode cX2_candidate 26 = .ok (.invokevirtual 37, 3) := by decide +kernel
theorem dX2_candidate_29 : decode cX2_candidate 29 = .ok (.iload_n 1, 1) := by decide +kernel
theorem dX2_candidate_30 : decode cX2_candidate 30 = .ok (.iconst 2, 1) := by decide +kernel
theorem dX2_candidate_31 : decode cX2_candidate 31 = .ok (.irem, 1) := by decide +kernel
theorem dX2_candidate_32 : decode cX2_candidate 32 = .ok (.isub, 1) := by decide +kernel
theorem dX2_candidate_33 : decode cX2_candidate 33 = .ok (.ireturn, 1) := by decide +kernel
theorem dX3_init_0 : decode cX3_init 0 = .ok (.aload_n 0, 1) := by decide +kernel
theorem dX3_init_1 : decode cX3_init 1 = .ok (.invokespecial 3, 3) := by decide +kernel
theorem dX3_init_4 : decode cX3_init 4 = .ok (.aload_n 0, 1) := by decide +kernel
theorem dX3_init_5 : decode cX3_init 5 = .ok (.new 9, 3) := by decide +kernel
theorem dX3_init_8 : decode cX3_init 8 = .ok (.dup, 1) := by decide +kernel
theorem dX3_init_9 : decode cX3_init 9 = .ok (.bipush 6, 2) := by decide +kernel
theorem dX3_init_11 : decode cX3_init 11 = .ok (.invokespecial 11, 3) := by decide +kernel
theorem dX3_init_14 : decode cX3_init 14 = .ok (.putfield 14, 3) := by decide +kernel
theorem dX3_init_17 : decode cX3_init 17 = .ok (.aload_n 0, 1) := by decide +kernel
theorem dX3_init_18 : decode cX3_init 18 = .ok (.new 9, 3) := by decide +kernel
theorem dX3_init_21 : decode cX3_init 21 = .ok (.dup, 1) := by decide +kernel
theorem dX3_init_22 : decode cX3_init 22 = .ok (.bipush 6, 2) := by decide +kernel
theorem dX3_init_24 : decode cX3_init 24 = .ok (.invokespecial 11, 3) := by decide +kernel
theorem dX3_init_27 : decode cX3_init 27 = .ok (.putfield 20, 3) := by decide +kernel
theorem dX3_init_30 : decode cX3_init 30 = .ok (.aload_n 0, 1) := by decide +kernel
theorem dX3_init_31 : decode cX3_init 31 = .ok (.new 9, 3) := by decide +kernel
theorem dX3_init_34 : decode cX3_init 34 = .ok (.dup, 1) := by decide +kernel
theorem dX3_init_35 : decode cX3_init 35 = .ok (.bipush 6, 2) := by decide +kernel
theorem dX3_init_37 : decode cX3_init 37 = .ok (.invokespecial 11, 3) := by decide +kernel
theorem dX3_init_40 : decode cX3_init 40 = .ok (.putfield 23, 3) := by decide +kernel
theorem dX3_init_43 : decode cX3_init 43 = .ok (.aload_n 0, 1) := by decide +kernel
theorem dX3_init_44 : decode cX3_init 44 = .ok (.new 9, 3) := by decide +kernel
theorem dX3_init_47 : decode cX3_init 47 = .ok (.dup, 1) := by decide +kernel
theorem dX3_init_48 : decode cX3_init 48 = .ok (.bipush 6, 2) := by decide +kernel
theorem dX3_init_50 : decode cX3_init 50 = .ok (.invokespecial 11, 3) := by decide +kernel
theorem dX3_init_53 : decode cX3_init 53 = .ok (.putfield 26, 3) := by decide +kernel
theorem dX3_init_56 : decode cX3_init 56 = .ok (.return_, 1) := by decide +kernel
theorem dX3_size_0 : decode cX3_size 0 = .ok (.aload_n 0, 1) := by decide +kernel
theorem dX3_size_1 : decode cX3_size 1 = .ok (.getfield 14, 3) := by decide +kernel
theorem dX3_size_4 : decode cX3_size 4 = .ok (.invokevirtual 29, 3) := by decide +kernel
theorem dX3_size_7 : decode cX3_size 7 = .ok (.ireturn, 1) := by decide +kernel
theorem dX3_join_0 : decode cX3_join 0 = .ok (.aload_n 0, 1) := by decide +kernel
theorem dX3_join_1 : decode cX3_join 1 = .ok (.getfield 14, 3) := by decide +kernel
theorem dX3_join_4 : decode cX3_join 4 = .ok (.iload_n 1, 1) := by decide +kernel
theorem dX3_join_5 : decode cX3_join 5 = .ok (.invokevirtual 33, 3) := by decide +kernel
theorem dX3_join_8 : decode cX3_join 8 = .ok (.aload_n 0, 1) := by decide +kernel
theorem dX3_join_9 : decode cX3_join 9 = .ok (.getfield 20, 3) := by decide +kernel
theorem dX3_join_12 : decode cX3_join 12 = .ok (.iload_n 2, 1) := by decide +kernel
theorem dX3_join_13 : decode cX3_join 13 = .ok (.invokevirtual 33, 3) := by decide +kernel
theorem dX3_join_16 : decode cX3_join 16 = .ok (.aload_n 0, 1) := by decide +kernel
theorem dX3_join_17 : decode cX3_join 17 = .ok (.getfield 23, 3) := by decide +kernel
theorem dX3_join_20 : decode cX3_join 20 = .ok (.iload_n 3, 1) := by decide +kernel
theorem dX3_join_21 : decode cX3_join 21 = .ok (.bipush 10, 2) := by decide +kernel
theorem dX3_join_23 : decode cX3_join 23 = .ok (.idiv, 1) := by decide +kernel
theorem dX3_join_24 : decode cX3_join 24 = .ok (.invokevirtual 33, 3) := by decide +kernel
theorem dX3_join_27 : decode cX3_join 27 = .ok (.aload_n 0, 1) := by decide +kernel
theorem dX3_join_28 : decode cX3_join 28 = .ok (.getfield 26, 3) := by decide +kernel
theorem dX3_join_31 : decode cX3_join 31 = .ok (.iload_n 3, 1) := by decide +kernel
theorem dX3_join_32 : decode cX3_join 32 = .ok (.bipush 10, 2) := by decide +kernel
theorem dX3_join_34 : decode cX3_join 34 = .ok (.irem, 1) := by decide +kernel
theorem dX3_join_35 : decode cX3_join 35 = .ok (.invokevirtual 33, 3) := by decide +kernel
theorem dX3_join_38 : decode cX3_join 38 = .ok (.aload_n 0, 1) := by decide +kernel
theorem dX3_join_39 : decode cX3_join 39 = .ok (.getfield 14, 3) := by decide +kernel
theorem dX3_join_42 : decode cX3_join 42 = .ok (.invokevirtual 29, 3) := by decide +kernel
theorem dX3_join_45 : decode cX3_join 45 = .ok (.iconst 1, 1) := by decide +kernel
theorem dX3_join_46 : decode cX3_join 46 = .ok (.isub, 1) := by decide +kernel
theorem dX3_join_47 : decode cX3_join 47 = .ok (.ireturn, 1) := by decide +kernel
theorem dX3_receive_0 : decode cX3_receive 0 = .ok (.aload_n 0, 1) := by decide +kernel
theorem dX3_receive_1 : decode cX3_receive 1 = .ok (.getfield 20, 3) := by decide +kernel
theorem dX3_receive_4 : decode cX3_receive 4 = .ok (.iload_n 1, 1) := by decide +kernel
theorem dX3_receive_5 : decode cX3_receive 5 = .ok (.aload_n 0, 1) := by decide +kernel
theorem dX3_receive_6 : decode cX3_receive 6 = .ok (.getfield 20, 3) := by decide +kernel
theorem dX3_receive_9 : decode cX3_receive 9 = .ok (.iload_n 1, 1) := by decide +kernel
theorem dX3_receive_10 : decode cX3_receive 10 = .ok (.invokevirtual 36, 3) := by decide +kernel
theorem dX3_receive_13 : decode cX3_receive 13 = .ok (.iload_n 2, 1) := by decide +kernel
theorem dX3_receive_14 : decode cX3_receive 14 = .ok (.iadd, 1) := by decide +kernel
theorem dX3_receive_15 : decode cX3_receive 15 = .ok (.ldc 40, 2) := by decide +kernel
theorem dX3_receive_17 : decode cX3_receive 17 = .ok (.invokestatic 41, 3) := by decide +kernel
theorem dX3_receive_20 : decode cX3_receive 20 = .ok (.invokevirtual 47, 3) := by decide +kernel
theorem dX3_receive_23 : decode cX3_receive 23 = .ok (.return_, 1) := by decide +kernel
theorem dX3_spend_0 : decode cX3_spend 0 = .ok (.aload_n 0, 1) := by decide +kernel
theorem dX3_spend_1 : decode cX3_spend 1 = .ok (.getfield 20, 3) := by decide +kernel
theorem dX3_spend_4 : decode cX3_spend 4 = .ok (.iload_n 1, 1) := by decide +kernel
theorem dX3_spend_5 : decode cX3_spend 5 = .ok (.aload_n 0, 1) := by decide +kernel
theorem dX3_spend_6 : decode cX3_spend 6 = .ok (.getfield 20, 3) := by decide +kernel
theorem dX3_spend_9 : decode cX3_spend 9 = .ok (.iload_n 1, 1) := by decide +kernel
theorem dX3_spend_10 : decode cX3_spend 10 = .ok (.invokevirtual 36, 3) := by decide +kernel
theorem dX3_spend_13 : decode cX3_spend 13 = .ok (.iload_n 2, 1) := by decide +kernel
theorem dX3_spend_14 : decode cX3_spend 14 = .ok (.isub, 1) := by decide +kernel
theorem dX3_spend_15 : decode cX3_spend 15 = .ok (.invokevirtual 47, 3) := by decide +kernel
theorem dX3_spend_18 : decode cX3_spend 18 = .ok (.return_, 1) := by decide +kernel
theorem dX3_poorest_0 : decode cX3_poorest 0 = .ok (.iconst 0, 1) := by decide +kernel
theorem dX3_poorest_1 : decode cX3_poorest 1 = .ok (.istore_n 1, 1) := by decide +kernel
theorem dX3_poorest_2 : decode cX3_poorest 2 = .ok (.iconst 1, 1) := by decide +kernel
theorem dX3_poorest_3 : decode cX3_poorest 3 = .ok (.istore_n 2, 1) := by decide +kernel
theorem dX3_poorest_4 : decode cX3_poorest 4 = .ok (.iload_n 2, 1) := by decide +kernel
theorem dX3_poorest_5 : decode cX3_poorest 5 = .ok (.aload_n 0, 1) := by decide +kernel
theorem dX3_poorest_6 : decode cX3_poorest 6 = .ok (.getfield 20, 3) := by decide +kernel
theorem dX3_poorest_9 : decode cX3_poorest 9 = .ok (.invokevirtual 29, 3) := by decide +kernel
theorem dX3_poorest_12 : decode cX3_poorest 12 = .ok (.if_icmp .ge 30, 3) := by decide +kernel
theorem dX3_poorest_15 : decode cX3_poorest 15 = .ok (.aload_n 0, 1) := by decide +kernel
theorem dX3_poorest_16 : decode cX3_poorest 16 = .ok (.getfield 20, 3) := by decide +kernel
theorem dX3_poorest_19 : decode cX3_poorest 19 = .ok (.iload_n 2, 1) := by decide +kernel
theorem dX3_poorest_20 : decode cX3_poorest 20 = .ok (.invokevirtual 36, 3) := by decide +kernel
theorem dX3_poorest_23 : decode cX3_poorest 23 = .ok (.aload_n 0, 1) := by decide +kernel
theorem dX3_poorest_24 : decode cX3_poorest 24 = .ok (.getfield 20, 3) := by decide +kernel
theorem dX3_poorest_27 : decode cX3_poorest 27 = .ok (.iload_n 1, 1) := by decide +kernel
theorem dX3_poorest_28 : decode cX3_poorest 28 = .ok (.invokevirtual 36, 3) := by decide +kernel
theorem dX3_poorest_31 : decode cX3_poorest 31 = .ok (.if_icmp .ge 5, 3) := by decide +kernel
theorem dX3_poorest_34 : decode cX3_poorest 34 = .ok (.iload_n 2, 1) := by decide +kernel
theorem dX3_poorest_35 : decode cX3_poorest 35 = .ok (.istore_n 1, 1) := by decide +kernel
theorem dX3_poorest_36 : decode cX3_poorest 36 = .ok (.iinc 2 1, 3) := by decide +kernel
theorem dX3_poorest_39 : decode cX3_poorest 39 = .ok (.goto (-35), 3) := by decide +kernel
theorem dX3_poorest_42 : decode cX3_poorest 42 = .ok (.iload_n 1, 1) := by decide +kernel
theorem dX3_poorest_43 : decode cX3_poorest 43 = .ok (.ireturn, 1) := by decide +kernel
theorem dX3_copy_0 : decode cX3_copy 0 = .ok (.aload_n 0, 1) := by decide +kernel
theorem dX3_copy_1 : decode cX3_copy 1 = .ok (.getfield 14, 3) := by decide +kernel
theorem dX3_copy_4 : decode cX3_copy 4 = .ok (.aload_n 1, 1) := by decide +kernel
theorem dX3_copy_5 : decode cX3_copy 5 = .ok (.getfield 14, 3) := by decide +kernel
theorem dX3_copy_8 : decode cX3_copy 8 = .ok (.invokevirtual 51, 3) := by decide +kernel
theorem dX3_copy_11 : decode cX3_copy 11 = .ok (.aload_n 0, 1) := by decide +kernel
theorem dX3_copy_12 : decode cX3_copy 12 = .ok (.getfield 20, 3) := by decide +kernel
theorem dX3_copy_15 : decode cX3_copy 15 = .ok (.aload_n 1, 1) := by decide +kernel
theorem dX3_copy_16 : decode cX3_copy 16 = .ok (.getfield 20, 3) := by decide +kernel
theorem dX3_copy_19 : decode cX3_copy 19 = .ok (.invokevirtual 51, 3) := by decide +kernel
theorem dX3_copy_22 : decode cX3_copy 22 = .ok (.aload_n 0, 1) := by decide +kernel
theorem dX3_copy_23 : decode cX3_copy 23 = .ok (.getfield 23, 3) := by decide +kernel
theorem dX3_copy_26 : decode cX3_copy 26 = .ok (.aload_n 1, 1) := by decide +kernel
theorem dX3_copy_27 : decode cX3_copy 27 = .ok (.getfield 23, 3) := by decide +kernel
theorem dX3_copy_30 : decode cX3_copy 30 = .ok (.invokevirtual 51, 3) := by decide +kernel
theorem dX3_copy_33 : decode cX3_copy 33 = .ok (.aload_n 0, 1) := by decide +kernel
theorem dX3_copy_34 : decode cX3_copy 34 = .ok (.getfield 26, 3) := by decide +kernel
theorem dX3_copy_37 : decode cX3_copy 37 = .ok (.aload_n 1, 1) := by decide +kernel
theorem dX3_copy_38 : decode cX3_copy 38 = .ok (.getfield 26, 3) := by decide +kernel
theorem dX3_copy_41 : decode cX3_copy 41 = .ok (.invokevirtual 51, 3) := by decide +kernel
theorem dX3_copy_44 : decode cX3_copy 44 = .ok (.return_, 1) := by decide +kernel
theorem dX4_init_0 : decode cX4_init 0 = .ok (.aload_n 0, 1) := by decide +kernel
theorem dX4_init_1 : decode cX4_init 1 = .ok (.invokespecial 3, 3) := by decide +kernel
theorem dX4_init_4 : decode cX4_init 4 = .ok (.aload_n 0, 1) := by decide +kernel
theorem dX4_init_5 : decode cX4_init 5 = .ok (.new 9, 3) := by decide +kernel
theorem dX4_init_8 : decode cX4_init 8 = .ok (.dup, 1) := by decide +kernel
theorem dX4_init_9 : decode cX4_init 9 = .ok (.bipush 60, 2) := by decide +kernel
theorem dX4_init_11 : decode cX4_init 11 = .ok (.invokespecial 11, 3) := by decide +kernel
theorem dX4_init_14 : decode cX4_init 14 = .ok (.putfield 14, 3) := by decide +kernel
theorem dX4_init_17 : decode cX4_init 17 = .ok (.aload_n 0, 1) := by decide +kernel
theorem dX4_init_18 : decode cX4_init 18 = .ok (.new 9, 3) := by decide +kernel
theorem dX4_init_21 : decode cX4_init 21 = .ok (.dup, 1) := by decide +kernel
theorem dX4_init_22 : decode cX4_init 22 = .ok (.bipush 60, 2) := by decide +kernel
theorem dX4_init_24 : decode cX4_init 24 = .ok (.invokespecial 11, 3) := by decide +kernel
theorem dX4_init_27 : decode cX4_init 27 = .ok (.putfield 20, 3) := by decide +kernel
theorem dX4_init_30 : decode cX4_init 30 = .ok (.return_, 1) := by decide +kernel
theorem dX4_read_0 : decode cX4_read 0 = .ok (.aload_n 0, 1) := by decide +kernel
theorem dX4_read_1 : decode cX4_read 1 = .ok (.getfield 14, 3) := by decide +kernel
theorem dX4_read_4 : decode cX4_read 4 = .ok (.iconst 0, 1) := by decide +kernel
theorem dX4_read_5 : decode cX4_read 5 = .ok (.invokevirtual 23, 3) := by decide +kernel
theorem dX4_read_8 : decode cX4_read 8 = .ok (.aload_n 0, 1) := by decide +kernel
theorem dX4_read_9 : decode cX4_read 9 = .ok (.getfield 20, 3) := by decide +kernel
theorem dX4_read_12 : decode cX4_read 12 = .ok (.iconst 0, 1) := by decide +kernel
theorem dX4_read_13 : decode cX4_read 13 = .ok (.invokevirtual 23, 3) := by decide +kernel
theorem dX4_read_16 : decode cX4_read 16 = .ok (.aload_n 0, 1) := by decide +kernel
theorem dX4_read_17 : decode cX4_read 17 = .ok (.iconst 0, 1) := by decide +kernel
theorem dX4_read_18 : decode cX4_read 18 = .ok (.putfield 26, 3) := by decide +kernel
theorem dX4_read_21 : decode cX4_read 21 = .ok (.aload_n 0, 1) := by decide +kernel
theorem dX4_read_22 : decode cX4_read 22 = .ok (.iconst 0, 1) := by decide +kernel
theorem dX4_read_23 : decode cX4_read 23 = .ok (.putfield 30, 3) := by decide +kernel
theorem dX4_read_26 : decode cX4_read 26 = .ok (.aload_n 0, 1) := by decide +kernel
theorem dX4_read_27 : decode cX4_read 27 = .ok (.iconst 1, 1) := by decide +kernel
theorem dX4_read_28 : decode cX4_read 28 = .ok (.putfield 33, 3) := by decide +kernel
theorem dX4_read_31 : decode cX4_read 31 = .ok (.iconst 0, 1) := by decide +kernel
theorem dX4_read_32 : decode cX4_read 32 = .ok (.istore_n 3, 1) := by decide +kernel
theorem dX4_read_33 : decode cX4_read 33 = .ok (.iload_n 3, 1) := by decide +kernel
theorem dX4_read_34 : decode cX4_read 34 = .ok (.aload_n 1, 1) := by decide +kernel
theorem dX4_read_35 : decode cX4_read 35 = .ok (.invokevirtual 37, 3) := by decide +kernel
theorem dX4_read_38 : decode cX4_read 38 = .ok (.if_icmp .ge 24, 3) := by decide +kernel
theorem dX4_read_41 : decode cX4_read 41 = .ok (.aload_n 0, 1) := by decide +kernel
theorem dX4_read_42 : decode cX4_read 42 = .ok (.aload_n 1, 1) := by decide +kernel
theorem dX4_read_43 : decode cX4_read 43 = .ok (.iload_n 3, 1) := by decide +kernel
theorem dX4_read_44 : decode cX4_read 44 = .ok (.invokevirtual 41, 3) := by decide +kernel
theorem dX4_read_47 : decode cX4_read 47 = .ok (.aload_n 2, 1) := by decide +kernel
theorem dX4_read_48 : decode cX4_read 48 = .ok (.invokevirtual 45, 3) := by decide +kernel
theorem dX4_read_51 : decode cX4_read 51 = .ok (.ifCond .ne 5, 3) := by decide +kernel
theorem dX4_read_54 : decode cX4_read 54 = .ok (.iload_n 3, 1) := by decide +kernel
theorem dX4_read_55 : decode cX4_read 55 = .ok (.ireturn, 1) := by decide +kernel
theorem dX4_read_56 : decode cX4_read 56 = .ok (.iinc 3 1, 3) := by decide +kernel
theorem dX4_read_59 : decode cX4_read 59 = .ok (.goto (-26), 3) := by decide +kernel
theorem dX4_read_62 : decode cX4_read 62 = .ok (.aload_n 0, 1) := by decide +kernel
theorem dX4_read_63 : decode cX4_read 63 = .ok (.iconst 1, 1) := by decide +kernel
theorem dX4_read_64 : decode cX4_read 64 = .ok (.invokevirtual 49, 3) := by decide +kernel
theorem dX4_read_67 : decode cX4_read 67 = .ok (.aload_n 0, 1) := by decide +kernel
theorem dX4_read_68 : decode cX4_read 68 = .ok (.getfield 33, 3) := by decide +kernel
theorem dX4_read_71 : decode cX4_read 71 = .ok (.ifCond .ne 13, 3) := by decide +kernel
theorem dX4_read_74 : decode cX4_read 74 = .ok (.aload_n 0, 1) := by decide +kernel
theorem dX4_read_75 : decode cX4_read 75 = .ok (.getfield 20, 3) := by decide +kernel
theorem dX4_read_78 : decode cX4_read 78 = .ok (.invokevirtual 37, 3) := by decide +kernel
theorem dX4_read_81 : decode cX4_read 81 = .ok (.ifCond .le 10, 3) := by decide +kernel
theorem dX4_read_84 : decode cX4_read 84 = .ok (.aload_n 1, 1) := by decide +kernel
theorem dX4_read_85 : decode cX4_read 85 = .ok (.invokevirtual 37, 3) := by decide +kernel
theorem dX4_read_88 : decode cX4_read 88 = .ok (.goto 4, 3) := by decide +kernel
theorem dX4_read_91 : decode cX4_read 91 = .ok (.iconst (-1), 1) := by decide +kernel
theorem dX4_read_92 : decode cX4_read 92 = .ok (.ireturn, 1) := by decide +kernel
theorem dX4_takes_0 : decode cX4_takes 0 = .ok (.iload_n 1, 1) := by decide +kernel
theorem dX4_takes_1 : decode cX4_takes 1 = .ok (.bipush 48, 2) := by decide +kernel
theorem dX4_takes_3 : decode cX4_takes 3 = .ok (.if_icmp .lt 18, 3) := by decide +kernel
theorem dX4_takes_6 : decode cX4_takes 6 = .ok (.iload_n 1, 1) := by decide +kernel
theorem dX4_takes_7 : decode cX4_takes 7 = .ok (.bipush 57, 2) := by decide +kernel
theorem dX4_takes_9 : decode cX4_takes 9 = .ok (.if_icmp .gt 12, 3) := by decide +kernel
theorem dX4_takes_12 : decode cX4_takes 12 = .ok (.aload_n 0, 1) := by decide +kernel
theorem dX4_takes_13 : decode cX4_takes 13 = .ok (.iload_n 1, 1) := by decide +kernel
theorem dX4_takes_14 : decode cX4_takes 14 = .ok (.bipush 48, 2) := by decide +kernel
theorem dX4_takes_16 : decode cX4_takes 16 = .ok (.isub, 1) := by decide +kernel
theorem dX4_takes_17 : decode cX4_takes 17 = .ok (.invokevirtual 52, 3) := by decide +kernel
theorem dX4_takes_20 : decode cX4_takes 20 = .ok (.ireturn, 1) := by decide +kernel
theorem dX4_takes_21 : decode cX4_takes 21 = .ok (.aload_n 0, 1) := by decide +kernel
theorem dX4_takes_22 : decode cX4_takes 22 = .ok (.iconst 0, 1) := by decide +kernel
theorem dX4_takes_23 : decode cX4_takes 23 = .ok (.putfield 30, 3) := by decide +kernel
theorem dX4_takes_26 : decode cX4_takes 26 = .ok (.aload_n 0, 1) := by decide +kernel
theorem dX4_takes_27 : decode cX4_takes 27 = .ok (.getfield 33, 3) := by decide +kernel
theorem dX4_takes_30 : decode cX4_takes 30 = .ok (.ifCond .eq 12, 3) := by decide +kernel
theorem dX4_takes_33 : decode cX4_takes 33 = .ok (.aload_n 0, 1) := by decide +kernel
theorem dX4_takes_34 : decode cX4_takes 34 = .ok (.iload_n 1, 1) := by decide +kernel
theorem dX4_takes_35 : decode cX4_takes 35 = .ok (.aload_n 2, 1) := by decide +kernel
theorem dX4_takes_36 : decode cX4_takes 36 = .ok (.invokevirtual 56, 3) := by decide +kernel
theorem dX4_takes_39 : decode cX4_takes 39 = .ok (.goto 8, 3) := by decide +kernel
theorem dX4_takes_42 : decode cX4_takes 42 = .ok (.aload_n 0, 1) := by decide +kernel
theorem dX4_takes_43 : decode cX4_takes 43 = .ok (.iload_n 1, 1) := by decide +kernel
theorem dX4_takes_44 : decode cX4_takes 44 = .ok (.invokevirtual 59, 3) := by decide +kernel
theorem dX4_takes_47 : decode cX4_takes 47 = .ok (.ireturn, 1) := by decide +kernel
theorem dX4_takesDigit_0 : decode cX4_takesDigit 0 = .ok (.aload_n 0, 1) := by decide +kernel
theorem dX4_takesDigit_1 : decode cX4_takesDigit 1 = .ok (.getfield 30, 3) := by decide +kernel
theorem dX4_takesDigit_4 : decode cX4_takesDigit 4 = .ok (.ifCond .le 51, 3) := by decide +kernel
theorem dX4_takesDigit_7 : decode cX4_takesDigit 7 = .ok (.aload_n 0, 1) := by decide +kernel
theorem dX4_takesDigit_8 : decode cX4_takesDigit 8 = .ok (.getfield 30, 3) := by decide +kernel
theorem dX4_takesDigit_11 : decode cX4_takesDigit 11 = .ok (.iconst 4, 1) := by decide +kernel
theorem dX4_takesDigit_12 : decode cX4_takesDigit 12 = .ok (.if_icmp .ge 43, 3) := by decide +kernel
theorem dX4_takesDigit_15 : decode cX4_takesDigit 15 = .ok (.aload_n 0, 1) := by decide +kernel
theorem dX4_takesDigit_16 : decode cX4_takesDigit 16 = .ok (.getfield 14, 3) := by decide +kernel
theorem dX4_takesDigit_19 : decode cX4_takesDigit 19 = .ok (.aload_n 0, 1) := by decide +kernel
theorem dX4_takesDigit_20 : decode cX4_takesDigit 20 = .ok (.getfield 14, 3) := by decide +kernel
theorem dX4_takesDigit_23 : decode cX4_takesDigit 23 = .ok (.invokevirtual 37, 3) := by decide +kernel
theorem dX4_takesDigit_26 : decode cX4_takesDigit 26 = .ok (.iconst 1, 1) := by decide +kernel
theorem dX4_takesDigit_27 : decode cX4_takesDigit 27 = .ok (.isub, 1) := by decide +kernel
theorem dX4_takesDigit_28 : decode cX4_takesDigit 28 = .ok (.aload_n 0, 1) := by decide +kernel
theorem dX4_takesDigit_29 : decode cX4_takesDigit 29 = .ok (.getfield 14, 3) := by decide +kernel
theorem dX4_takesDigit_32 : decode cX4_takesDigit 32 = .ok (.invokevirtual 62, 3) := by decide +kernel
theorem dX4_takesDigit_35 : decode cX4_takesDigit 35 = .ok (.bipush 10, 2) := by decide +kernel
theorem dX4_takesDigit_37 : decode cX4_takesDigit 37 = .ok (.imul, 1) := by decide +kernel
theorem dX4_takesDigit_38 : decode cX4_takesDigit 38 = .ok (.iload_n 1, 1) := by decide +kernel
theorem dX4_takesDigit_39 : decode cX4_takesDigit 39 = .ok (.iadd, 1) := by decide +kernel
theorem dX4_takesDigit_40 : decode cX4_takesDigit 40 = .ok (.invokevirtual 65, 3) := by decide +kernel
theorem dX4_takesDigit_43 : decode cX4_takesDigit 43 = .ok (.aload_n 0, 1) := by decide +kernel
theorem dX4_takesDigit_44 : decode cX4_takesDigit 44 = .ok (.dup, 1) := by decide +kernel
theorem dX4_takesDigit_45 : decode cX4_takesDigit 45 = .ok (.getfield 30, 3) := by decide +kernel
theorem dX4_takesDigit_48 : decode cX4_takesDigit 48 = .ok (.iconst 1, 1) := by decide +kernel
theorem dX4_takesDigit_49 : decode cX4_takesDigit 49 = .ok (.iadd, 1) := by decide +kernel
theorem dX4_takesDigit_50 : decode cX4_takesDigit 50 = .ok (.putfield 30, 3) := by decide +kernel
theorem dX4_takesDigit_53 : decode cX4_takesDigit 53 = .ok (.iconst 1, 1) := by decide +kernel
theorem dX4_takesDigit_54 : decode cX4_takesDigit 54 = .ok (.ireturn, 1) := by decide +kernel
theorem dX4_takesDigit_55 : decode cX4_takesDigit 55 = .ok (.aload_n 0, 1) := by decide +kernel
theorem dX4_takesDigit_56 : decode cX4_takesDigit 56 = .ok (.getfield 33, 3) := by decide +kernel
theorem dX4_takesDigit_59 : decode cX4_takesDigit 59 = .ok (.ifCond .ne 5, 3) := by decide +kernel
theorem dX4_takesDigit_62 : decode cX4_takesDigit 62 = .ok (.iconst 0, 1) := by decide +kernel
theorem dX4_takesDigit_63 : decode cX4_takesDigit 63 = .ok (.ireturn, 1) := by decide +kernel
theorem dX4_takesDigit_64 : decode cX4_takesDigit 64 = .ok (.aload_n 0, 1) := by decide +kernel
theorem dX4_takesDigit_65 : decode cX4_takesDigit 65 = .ok (.getfield 14, 3) := by decide +kernel
theorem dX4_takesDigit_68 : decode cX4_takesDigit 68 = .ok (.iload_n 1, 1) := by decide +kernel
theorem dX4_takesDigit_69 : decode cX4_takesDigit 69 = .ok (.invokevirtual 69, 3) := by decide +kernel
theorem dX4_takesDigit_72 : decode cX4_takesDigit 72 = .ok (.aload_n 0, 1) := by decide +kernel
theorem dX4_takesDigit_73 : decode cX4_takesDigit 73 = .ok (.iconst 1, 1) := by decide +kernel
theorem dX4_takesDigit_74 : decode cX4_takesDigit 74 = .ok (.putfield 30, 3) := by decide +kernel
theorem dX4_takesDigit_77 : decode cX4_takesDigit 77 = .ok (.aload_n 0, 1) := by decide +kernel
theorem dX4_takesDigit_78 : decode cX4_takesDigit 78 = .ok (.iconst 0, 1) := by decide +kernel
theorem dX4_takesDigit_79 : decode cX4_takesDigit 79 = .ok (.putfield 33, 3) := by decide +kernel
theorem dX4_takesDigit_82 : decode cX4_takesDigit 82 = .ok (.iconst 1, 1) := by decide +kernel
theorem dX4_takesDigit_83 : decode cX4_takesDigit 83 = .ok (.ireturn, 1) := by decide +kernel
theorem dX4_takesFirst_0 : decode cX4_takesFirst 0 = .ok (.iload_n 1, 1) := by decide +kernel
theorem dX4_takesFirst_1 : decode cX4_takesFirst 1 = .ok (.bipush 33, 2) := by decide +kernel
theorem dX4_takesFirst_3 : decode cX4_takesFirst 3 = .ok (.if_icmp .eq 9, 3) := by decide +kernel
theorem dX4_takesFirst_6 : decode cX4_takesFirst 6 = .ok (.iload_n 1, 1) := by decide +kernel
theorem dX4_takesFirst_7 : decode cX4_takesFirst 7 = .ok (.bipush 40, 2) := by decide +kernel
theorem dX4_takesFirst_9 : decode cX4_takesFirst 9 = .ok (.if_icmp .ne 35, 3) := by decide +kernel
theorem dX4_takesFirst_12 : decode cX4_takesFirst 12 = .ok (.aload_n 0, 1) := by decide +kernel
theorem dX4_takesFirst_13 : decode cX4_takesFirst 13 = .ok (.getfield 20, 3) := by decide +kernel
theorem dX4_takesFirst_16 : decode cX4_takesFirst 16 = .ok (.iload_n 1, 1) := by decide +kernel
theorem dX4_takesFirst_17 : decode cX4_takesFirst 17 = .ok (.invokevirtual 69, 3) := by decide +kernel
theorem dX4_takesFirst_20 : decode cX4_takesFirst 20 = .ok (.aload_n 0, 1) := by decide +kernel
theorem dX4_takesFirst_21 : decode cX4_takesFirst 21 = .ok (.dup, 1) := by decide +kernel
theorem dX4_takesFirst_22 : decode cX4_takesFirst 22 = .ok (.getfield 26, 3) := by decide +kernel
theorem dX4_takesFirst_25 : decode cX4_takesFirst 25 = .ok (.iconst 1, 1) := by decide +kernel
theorem dX4_takesFirst_26 : decode cX4_takesFirst 26 = .ok (.iadd, 1) := by decide +kernel
theorem dX4_takesFirst_27 : decode cX4_takesFirst 27 = .ok (.putfield 26, 3) := by decide +kernel
theorem dX4_takesFirst_30 : decode cX4_takesFirst 30 = .ok (.aload_n 0, 1) := by decide +kernel
theorem dX4_takesFirst_31 : decode cX4_takesFirst 31 = .ok (.getfield 26, 3) := by decide +kernel
theorem dX4_takesFirst_34 : decode cX4_takesFirst 34 = .ok (.iconst 5, 1) := by decide +kernel
theorem dX4_takesFirst_35 : decode cX4_takesFirst 35 = .ok (.if_icmp .gt 7, 3) := by decide +kernel
theorem dX4_takesFirst_38 : decode cX4_takesFirst 38 = .ok (.iconst 1, 1) := by decide +kernel
theorem dX4_takesFirst_39 : decode cX4_takesFirst 39 = .ok (.goto 4, 3) := by decide +kernel
theorem dX4_takesFirst_42 : decode cX4_takesFirst 42 = .ok (.iconst 0, 1) := by decide +kernel
theorem dX4_takesFirst_43 : decode cX4_takesFirst 43 = .ok (.ireturn, 1) := by decide +kernel
theorem dX4_takesFirst_44 : decode cX4_takesFirst 44 = .ok (.aload_n 2, 1) := by decide +kernel
theorem dX4_takesFirst_45 : decode cX4_takesFirst 45 = .ok (.iload_n 1, 1) := by decide +kernel
theorem dX4_takesFirst_46 : decode cX4_takesFirst 46 = .ok (.i2c, 1) := by decide +kernel
theorem dX4_takesFirst_47 : decode cX4_takesFirst 47 = .ok (.invokevirtual 72, 3) := by decide +kernel
theorem dX4_takesFirst_50 : decode cX4_takesFirst 50 = .ok (.istore_n 3, 1) := by decide +kernel
theorem dX4_takesFirst_51 : decode cX4_takesFirst 51 = .ok (.aload_n 0, 1) := by decide +kernel
theorem dX4_takesFirst_52 : decode cX4_takesFirst 52 = .ok (.getfield 14, 3) := by decide +kernel
theorem dX4_takesFirst_55 : decode cX4_takesFirst 55 = .ok (.sipush 10000, 3) := by decide +kernel
theorem dX4_takesFirst_58 : decode cX4_takesFirst 58 = .ok (.iload_n 3, 1) := by decide +kernel
theorem dX4_takesFirst_59 : decode cX4_takesFirst 59 = .ok (.iadd, 1) := by decide +kernel
theorem dX4_takesFirst_60 : decode cX4_takesFirst 60 = .ok (.invokevirtual 69, 3) := by decide +kernel
theorem dX4_takesFirst_63 : decode cX4_takesFirst 63 = .ok (.aload_n 0, 1) := by decide +kernel
theorem dX4_takesFirst_64 : decode cX4_takesFirst 64 = .ok (.iconst 0, 1) := by decide +kernel
theorem dX4_takesFirst_65 : decode cX4_takesFirst 65 = .ok (.putfield 33, 3) := by decide +kernel
theorem dX4_takesFirst_68 : decode cX4_takesFirst 68 = .ok (.iload_n 3, 1) := by decide +kernel
theorem dX4_takesFirst_69 : decode cX4_takesFirst 69 = .ok (.ifCond .lt 7, 3) := by decide +kernel
theorem dX4_takesFirst_72 : decode cX4_takesFirst 72 = .ok (.iconst 1, 1) := by decide +kernel
theorem dX4_takesFirst_73 : decode cX4_takesFirst 73 = .ok (.goto 4, 3) := by decide +kernel
theorem dX4_takesFirst_76 : decode cX4_takesFirst 76 = .ok (.iconst 0, 1) := by decide +kernel
theorem dX4_takesFirst_77 : decode cX4_takesFirst 77 = .ok (.ireturn, 1) := by decide +kernel
theorem dX4_takesNext_0 : decode cX4_takesNext 0 = .ok (.iload_n 1, 1) := by decide +kernel
theorem dX4_takesNext_1 : decode cX4_takesNext 1 = .ok (.bipush 41, 2) := by decide +kernel
theorem dX4_takesNext_3 : decode cX4_takesNext 3 = .ok (.if_icmp .ne 8, 3) := by decide +kernel
theorem dX4_takesNext_6 : decode cX4_takesNext 6 = .ok (.aload_n 0, 1) := by decide +kernel
theorem dX4_takesNext_7 : decode cX4_takesNext 7 = .ok (.invokevirtual 79, 3) := by decide +kernel
theorem dX4_takesNext_10 : decode cX4_takesNext 10 = .ok (.ireturn, 1) := by decide +kernel
theorem dX4_takesNext_11 : decode cX4_takesNext 11 = .ok (.iload_n 1, 1) := by decide +kernel
theorem dX4_takesNext_12 : decode cX4_takesNext 12 = .ok (.invokestatic 83, 3) := by decide +kernel
theorem dX4_takesNext_15 : decode cX4_takesNext 15 = .ok (.istore_n 2, 1) := by decide +kernel
theorem dX4_takesNext_16 : decode cX4_takesNext 16 = .ok (.iload_n 2, 1) := by decide +kernel
theorem dX4_takesNext_17 : decode cX4_takesNext 17 = .ok (.ifCond .eq 9, 3) := by decide +kernel
theorem dX4_takesNext_20 : decode cX4_takesNext 20 = .ok (.iload_n 2, 1) := by decide +kernel
theorem dX4_takesNext_21 : decode cX4_takesNext 21 = .ok (.bipush 6, 2) := by decide +kernel
theorem dX4_takesNext_23 : decode cX4_takesNext 23 = .ok (.if_icmp .ne 5, 3) := by decide +kernel
theorem dX4_takesNext_26 : decode cX4_takesNext 26 = .ok (.iconst 0, 1) := by decide +kernel
theorem dX4_takesNext_27 : decode cX4_takesNext 27 = .ok (.ireturn, 1) := by decide +kernel
theorem dX4_takesNext_28 : decode cX4_takesNext 28 = .ok (.aload_n 0, 1) := by decide +kernel
theorem dX4_takesNext_29 : decode cX4_takesNext 29 = .ok (.iload_n 2, 1) := by decide +kernel
theorem dX4_takesNext_30 : decode cX4_takesNext 30 = .ok (.iconst 3, 1) := by decide +kernel
theorem dX4_takesNext_31 : decode cX4_takesNext 31 = .ok (.if_icmp .ne 9, 3) := by decide +kernel
theorem dX4_takesNext_34 : decode cX4_takesNext 34 = .ok (.iload_n 2, 1) := by decide +kernel
theorem dX4_takesNext_35 : decode cX4_takesNext 35 = .ok (.iconst 1, 1) := by decide +kernel
theorem dX4_takesNext_36 : decode cX4_takesNext 36 = .ok (.iadd, 1) := by decide +kernel
theorem dX4_takesNext_37 : decode cX4_takesNext 37 = .ok (.goto 4, 3) := by decide +kernel
theorem dX4_takesNext_40 : decode cX4_takesNext 40 = .ok (.iload_n 2, 1) := by decide +kernel
theorem dX4_takesNext_41 : decode cX4_takesNext 41 = .ok (.invokevirtual 49, 3) := by decide +kernel
theorem dX4_takesNext_44 : decode cX4_takesNext 44 = .ok (.iload_n 2, 1) := by decide +kernel
theorem dX4_takesNext_45 : decode cX4_takesNext 45 = .ok (.iconst 3, 1) := by decide +kernel
theorem dX4_takesNext_46 : decode cX4_takesNext 46 = .ok (.if_icmp .ne 19, 3) := by decide +kernel
theorem dX4_takesNext_49 : decode cX4_takesNext 49 = .ok (.aload_n 0, 1) := by decide +kernel
theorem dX4_takesNext_50 : decode cX4_takesNext 50 = .ok (.getfield 20, 3) := by decide +kernel
theorem dX4_takesNext_53 : decode cX4_takesNext 53 = .ok (.invokevirtual 62, 3) := by decide +kernel
theorem dX4_takesNext_56 : decode cX4_takesNext 56 = .ok (.invokestatic 83, 3) := by decide +kernel
theorem dX4_takesNext_59 : decode cX4_takesNext 59 = .ok (.iconst 3, 1) := by decide +kernel
theorem dX4_takesNext_60 : decode cX4_takesNext 60 = .ok (.if_icmp .ne 5, 3) := by decide +kernel
theorem dX4_takesNext_63 : decode cX4_takesNext 63 = .ok (.iconst 0, 1) := by decide +kernel
theorem dX4_takesNext_64 : decode cX4_takesNext 64 = .ok (.ireturn, 1) := by decide +kernel
theorem dX4_takesNext_65 : decode cX4_takesNext 65 = .ok (.aload_n 0, 1) := by decide +kernel
theorem dX4_takesNext_66 : decode cX4_takesNext 66 = .ok (.getfield 20, 3) := by decide +kernel
theorem dX4_takesNext_69 : decode cX4_takesNext 69 = .ok (.iload_n 1, 1) := by decide +kernel
theorem dX4_takesNext_70 : decode cX4_takesNext 70 = .ok (.invokevirtual 69, 3) := by decide +kernel
theorem dX4_takesNext_73 : decode cX4_takesNext 73 = .ok (.aload_n 0, 1) := by decide +kernel
theorem dX4_takesNext_74 : decode cX4_takesNext 74 = .ok (.iconst 1, 1) := by decide +kernel
theorem dX4_takesNext_75 : decode cX4_takesNext 75 = .ok (.putfield 33, 3) := by decide +kernel
theorem dX4_takesNext_78 : decode cX4_takesNext 78 = .ok (.iconst 1, 1) := by decide +kernel
theorem dX4_takesNext_79 : decode cX4_takesNext 79 = .ok (.ireturn, 1) := by decide +kernel
theorem dX4_closesBracket_0 : decode cX4_closesBracket 0 = .ok (.aload_n 0, 1) := by decide +kernel
theorem dX4_closesBracket_1 : decode cX4_closesBracket 1 = .ok (.iconst 1, 1) := by decide +kernel
theorem dX4_closesBracket_2 : decode cX4_closesBracket 2 = .ok (.invokevirtual 49, 3) := by decide +kernel
theorem dX4_closesBracket_5 : decode cX4_closesBracket 5 = .ok (.aload_n 0, 1) := by decide +kernel
theorem dX4_closesBracket_6 : decode cX4_closesBracket 6 = .ok (.getfield 20, 3) := by decide +kernel
theorem dX4_closesBracket_9 : decode cX4_closesBracket 9 = .ok (.invokevirtual 62, 3) := by decide +kernel
theorem dX4_closesBracket_12 : decode cX4_closesBracket 12 = .ok (.bipush 40, 2) := by decide +kernel
theorem dX4_closesBracket_14 : decode cX4_closesBracket 14 = .ok (.if_icmp .eq 5, 3) := by decide +kernel
theorem dX4_closesBracket_17 : decode cX4_closesBracket 17 = .ok (.iconst 0, 1) := by decide +kernel
theorem dX4_closesBracket_18 : decode cX4_closesBracket 18 = .ok (.ireturn, 1) := by decide +kernel
theorem dX4_closesBracket_19 : decode cX4_closesBracket 19 = .ok (.aload_n 0, 1) := by decide +kernel
theorem dX4_closesBracket_20 : decode cX4_closesBracket 20 = .ok (.getfield 20, 3) := by decide +kernel
theorem dX4_closesBracket_23 : decode cX4_closesBracket 23 = .ok (.invokevirtual 86, 3) := by decide +kernel
theorem dX4_closesBracket_26 : decode cX4_closesBracket 26 = .ok (.pop, 1) := by decide +kernel
theorem dX4_closesBracket_27 : decode cX4_closesBracket 27 = .ok (.aload_n 0, 1) := by decide +kernel
theorem dX4_closesBracket_28 : decode cX4_closesBracket 28 = .ok (.dup, 1) := by decide +kernel
theorem dX4_closesBracket_29 : decode cX4_closesBracket 29 = .ok (.getfield 26, 3) := by decide +kernel
theorem dX4_closesBracket_32 : decode cX4_closesBracket 32 = .ok (.iconst 1, 1) := by decide +kernel
theorem dX4_closesBracket_33 : decode cX4_closesBracket 33 = .ok (.isub, 1) := by decide +kernel
theorem dX4_closesBracket_34 : decode cX4_closesBracket 34 = .ok (.putfield 26, 3) := by decide +kernel
theorem dX4_closesBracket_37 : decode cX4_closesBracket 37 = .ok (.iconst 1, 1) := by decide +kernel
theorem dX4_closesBracket_38 : decode cX4_closesBracket 38 = .ok (.ireturn, 1) := by decide +kernel
theorem dX4_close_0 : decode cX4_close 0 = .ok (.aload_n 0, 1) := by decide +kernel
theorem dX4_close_1 : decode cX4_close 1 = .ok (.getfield 20, 3) := by decide +kernel
theorem dX4_close_4 : decode cX4_close 4 = .ok (.invokevirtual 37, 3) := by decide +kernel
theorem dX4_close_7 : decode cX4_close 7 = .ok (.istore_n 2, 1) := by decide +kernel
theorem dX4_close_8 : decode cX4_close 8 = .ok (.iload_n 2, 1) := by decide +kernel
theorem dX4_close_9 : decode cX4_close 9 = .ok (.ifCond .le 63, 3) := by decide +kernel
theorem dX4_close_12 : decode cX4_close 12 = .ok (.aload_n 0, 1) := by decide +kernel
theorem dX4_close_13 : decode cX4_close 13 = .ok (.getfield 20, 3) := by decide +kernel
theorem dX4_close_16 : decode cX4_close 16 = .ok (.invokevirtual 62, 3) := by decide +kernel
theorem dX4_close_19 : decode cX4_close 19 = .ok (.invokestatic 83, 3) := by decide +kernel
theorem dX4_close_22 : decode cX4_close 22 = .ok (.iload_n 1, 1) := by decide +kernel
theorem dX4_close_23 : decode cX4_close 23 = .ok (.if_icmp .lt 49, 3) := by decide +kernel
theorem dX4_close_26 : decode cX4_close 26 = .ok (.aload_n 0, 1) := by decide +kernel
theorem dX4_close_27 : decode cX4_close 27 = .ok (.getfield 20, 3) := by decide +kernel
theorem dX4_close_30 : decode cX4_close 30 = .ok (.invokevirtual 86, 3) := by decide +kernel
theorem dX4_close_33 : decode cX4_close 33 = .ok (.istore_n 3, 1) := by decide +kernel
theorem dX4_close_34 : decode cX4_close 34 = .ok (.aload_n 0, 1) := by decide +kernel
theorem dX4_close_35 : decode cX4_close 35 = .ok (.dup, 1) := by decide +kernel
theorem dX4_close_36 : decode cX4_close 36 = .ok (.getfield 26, 3) := by decide +kernel
theorem dX4_close_39 : decode cX4_close 39 = .ok (.iload_n 3, 1) := by decide +kernel
theorem dX4_close_40 : decode cX4_close 40 = .ok (.bipush 33, 2) := by decide +kernel
theorem dX4_close_42 : decode cX4_close 42 = .ok (.if_icmp .ne 7, 3) := by decide +kernel
theorem dX4_close_45 : decode cX4_close 45 = .ok (.iconst 1, 1) := by decide +kernel
theorem dX4_close_46 : decode cX4_close 46 = .ok (.goto 4, 3) := by decide +kernel
theorem dX4_close_49 : decode cX4_close 49 = .ok (.iconst 0, 1) := by decide +kernel
theorem dX4_close_50 : decode cX4_close 50 = .ok (.isub, 1) := by decide +kernel
theorem dX4_close_51 : decode cX4_close 51 = .ok (.putfield 26, 3) := by decide +kernel
theorem dX4_close_54 : decode cX4_close 54 = .ok (.aload_n 0, 1) := by decide +kernel
theorem dX4_close_55 : decode cX4_close 55 = .ok (.getfield 14, 3) := by decide +kernel
theorem dX4_close_58 : decode cX4_close 58 = .ok (.sipush 20000, 3) := by decide +kernel
theorem dX4_close_61 : decode cX4_close 61 = .ok (.iload_n 3, 1) := by decide +kernel
theorem dX4_close_62 : decode cX4_close 62 = .ok (.iadd, 1) := by decide +kernel
theorem dX4_close_63 : decode cX4_close 63 = .ok (.invokevirtual 69, 3) := by decide +kernel
theorem dX4_close_66 : decode cX4_close 66 = .ok (.iinc 2 (-1), 3) := by decide +kernel
theorem dX4_close_69 : decode cX4_close 69 = .ok (.goto (-61), 3) := by decide +kernel
theorem dX4_close_72 : decode cX4_close 72 = .ok (.return_, 1) := by decide +kernel
theorem dX4_rankOf_0 : decode cX4_rankOf 0 = .ok (.iload_n 0, 1) := by decide +kernel
theorem dX4_rankOf_1 : decode cX4_rankOf 1 = .ok (.lookupswitch 112 #[(33, 109), (37, 107), (38, 101), (42, 107), (43, 105), (45, 105), (47, 107), (60, 103), (61, 103), (62, 103), (124, 99)], 99) := by decide +kernel
theorem dX4_rankOf_100 : decode cX4_rankOf 100 = .ok (.iconst 1, 1) := by decide +kernel
theorem dX4_rankOf_101 : decode cX4_rankOf 101 = .ok (.ireturn, 1) := by decide +kernel
theorem dX4_rankOf_102 : decode cX4_rankOf 102 = .ok (.iconst 2, 1) := by decide +kernel
theorem dX4_rankOf_103 : decode cX4_rankOf 103 = .ok (.ireturn, 1) := by decide +kernel
theorem dX4_rankOf_104 : decode cX4_rankOf 104 = .ok (.iconst 3, 1) := by decide +kernel
theorem dX4_rankOf_105 : decode cX4_rankOf 105 = .ok (.ireturn, 1) := by decide +kernel
theorem dX4_rankOf_106 : decode cX4_rankOf 106 = .ok (.iconst 4, 1) := by decide +kernel
theorem dX4_rankOf_107 : decode cX4_rankOf 107 = .ok (.ireturn, 1) := by decide +kernel
theorem dX4_rankOf_108 : decode cX4_rankOf 108 = .ok (.iconst 5, 1) := by decide +kernel
theorem dX4_rankOf_109 : decode cX4_rankOf 109 = .ok (.ireturn, 1) := by decide +kernel
theorem dX4_rankOf_110 : decode cX4_rankOf 110 = .ok (.bipush 6, 2) := by decide +kernel
theorem dX4_rankOf_112 : decode cX4_rankOf 112 = .ok (.ireturn, 1) := by decide +kernel
theorem dX4_rankOf_113 : decode cX4_rankOf 113 = .ok (.iconst 0, 1) := by decide +kernel
theorem dX4_rankOf_114 : decode cX4_rankOf 114 = .ok (.ireturn, 1) := by decide +kernel
theorem dX5_init_0 : decode cX5_init 0 = .ok (.aload_n 0, 1) := by decide +kernel
theorem dX5_init_1 : decode cX5_init 1 = .ok (.invokespecial 1, 3) := by decide +kernel
theorem dX5_init_4 : decode cX5_init 4 = .ok (.aload_n 0, 1) := by decide +kernel
theorem dX5_init_5 : decode cX5_init 5 = .ok (.iload_n 1, 1) := by decide +kernel
theorem dX5_init_6 : decode cX5_init 6 = .ok (.iconst 0, 1) := by decide +kernel
theorem dX5_init_7 : decode cX5_init 7 = .ok (.invokestatic 7, 3) := by decide +kernel
theorem dX5_init_10 : decode cX5_init 10 = .ok (.newarray .int, 2) := by decide +kernel
theorem dX5_init_12 : decode cX5_init 12 = .ok (.putfield 13, 3) := by decide +kernel
theorem dX5_init_15 : decode cX5_init 15 = .ok (.aload_n 0, 1) := by decide +kernel
theorem dX5_init_16 : decode cX5_init 16 = .ok (.iconst 0, 1) := by decide +kernel
theorem dX5_init_17 : decode cX5_init 17 = .ok (.putfield 19, 3) := by decide +kernel
theorem dX5_init_20 : decode cX5_init 20 = .ok (.return_, 1) := by decide +kernel
theorem dX5_size_0 : decode cX5_size 0 = .ok (.aload_n 0, 1) := by decide +kernel
theorem dX5_size_1 : decode cX5_size 1 = .ok (.getfield 19, 3) := by decide +kernel
theorem dX5_size_4 : decode cX5_size 4 = .ok (.ireturn, 1) := by decide +kernel
theorem dX5_at_0 : decode cX5_at 0 = .ok (.iload_n 1, 1) := by decide +kernel
theorem dX5_at_1 : decode cX5_at 1 = .ok (.ifCond .lt 29, 3) := by decide +kernel
theorem dX5_at_4 : decode cX5_at 4 = .ok (.iload_n 1, 1) := by decide +kernel
theorem dX5_at_5 : decode cX5_at 5 = .ok (.aload_n 0, 1) := by decide +kernel
theorem dX5_at_6 : decode cX5_at 6 = .ok (.getfield 19, 3) := by decide +kernel
theorem dX5_at_9 : decode cX5_at 9 = .ok (.if_icmp .ge 21, 3) := by decide +kernel
theorem dX5_at_12 : decode cX5_at 12 = .ok (.iload_n 1, 1) := by decide +kernel
theorem dX5_at_13 : decode cX5_at 13 = .ok (.aload_n 0, 1) := by decide +kernel
theorem dX5_at_14 : decode cX5_at 14 = .ok (.getfield 13, 3) := by decide +kernel
theorem dX5_at_17 : decode cX5_at 17 = .ok (.arraylength, 1) := by decide +kernel
theorem dX5_at_18 : decode cX5_at 18 = .ok (.if_icmp .ge 12, 3) := by decide +kernel
theorem dX5_at_21 : decode cX5_at 21 = .ok (.aload_n 0, 1) := by decide +kernel
theorem dX5_at_22 : decode cX5_at 22 = .ok (.getfield 13, 3) := by decide +kernel
theorem dX5_at_25 : decode cX5_at 25 = .ok (.iload_n 1, 1) := by decide +kernel
theorem dX5_at_26 : decode cX5_at 26 = .ok (.iaload, 1) := by decide +kernel
theorem dX5_at_27 : decode cX5_at 27 = .ok (.goto 4, 3) := by decide +kernel
theorem dX5_at_30 : decode cX5_at 30 = .ok (.iconst 0, 1) := by decide +kernel
theorem dX5_at_31 : decode cX5_at 31 = .ok (.ireturn, 1) := by decide +kernel
theorem dX5_set_0 : decode cX5_set 0 = .ok (.iload_n 1, 1) := by decide +kernel
theorem dX5_set_1 : decode cX5_set 1 = .ok (.ifCond .lt 27, 3) := by decide +kernel
theorem dX5_set_4 : decode cX5_set 4 = .ok (.iload_n 1, 1) := by decide +kernel
theorem dX5_set_5 : decode cX5_set 5 = .ok (.aload_n 0, 1) := by decide +kernel
theorem dX5_set_6 : decode cX5_set 6 = .ok (.getfield 19, 3) := by decide +kernel
theorem dX5_set_9 : decode cX5_set 9 = .ok (.if_icmp .ge 19, 3) := by decide +kernel
theorem dX5_set_12 : decode cX5_set 12 = .ok (.iload_n 1, 1) := by decide +kernel
theorem dX5_set_13 : decode cX5_set 13 = .ok (.aload_n 0, 1) := by decide +kernel
theorem dX5_set_14 : decode cX5_set 14 = .ok (.getfield 13, 3) := by decide +kernel
theorem dX5_set_17 : decode cX5_set 17 = .ok (.arraylength, 1) := by decide +kernel
theorem dX5_set_18 : decode cX5_set 18 = .ok (.if_icmp .ge 10, 3) := by decide +kernel
theorem dX5_set_21 : decode cX5_set 21 = .ok (.aload_n 0, 1) := by decide +kernel
theorem dX5_set_22 : decode cX5_set 22 = .ok (.getfield 13, 3) := by decide +kernel
theorem dX5_set_25 : decode cX5_set 25 = .ok (.iload_n 1, 1) := by decide +kernel
theorem dX5_set_26 : decode cX5_set 26 = .ok (.iload_n 2, 1) := by decide +kernel
theorem dX5_set_27 : decode cX5_set 27 = .ok (.iastore, 1) := by decide +kernel
theorem dX5_set_28 : decode cX5_set 28 = .ok (.return_, 1) := by decide +kernel
theorem dX5_swap_0 : decode cX5_swap 0 = .ok (.aload_n 0, 1) := by decide +kernel
theorem dX5_swap_1 : decode cX5_swap 1 = .ok (.iload_n 1, 1) := by decide +kernel
theorem dX5_swap_2 : decode cX5_swap 2 = .ok (.invokevirtual 23, 3) := by decide +kernel
theorem dX5_swap_5 : decode cX5_swap 5 = .ok (.istore_n 3, 1) := by decide +kernel
theorem dX5_swap_6 : decode cX5_swap 6 = .ok (.aload_n 0, 1) := by decide +kernel
theorem dX5_swap_7 : decode cX5_swap 7 = .ok (.iload_n 1, 1) := by decide +kernel
theorem dX5_swap_8 : decode cX5_swap 8 = .ok (.iload_n 2, 1) := by decide +kernel
theorem dX5_swap_9 : decode cX5_swap 9 = .ok (.invokevirtual 27, 3) := by decide +kernel
theorem dX5_swap_12 : decode cX5_swap 12 = .ok (.iload_n 3, 1) := by decide +kernel
theorem dX5_swap_13 : decode cX5_swap 13 = .ok (.ireturn, 1) := by decide +kernel
theorem dX5_add_0 : decode cX5_add 0 = .ok (.aload_n 0, 1) := by decide +kernel
theorem dX5_add_1 : decode cX5_add 1 = .ok (.getfield 19, 3) := by decide +kernel
theorem dX5_add_4 : decode cX5_add 4 = .ok (.ifCond .lt 35, 3) := by decide +kernel
theorem dX5_add_7 : decode cX5_add 7 = .ok (.aload_n 0, 1) := by decide +kernel
theorem dX5_add_8 : decode cX5_add 8 = .ok (.getfield 19, 3) := by decide +kernel
theorem dX5_add_11 : decode cX5_add 11 = .ok (.aload_n 0, 1) := by decide +kernel
theorem dX5_add_12 : decode cX5_add 12 = .ok (.getfield 13, 3) := by decide +kernel
theorem dX5_add_15 : decode cX5_add 15 = .ok (.arraylength, 1) := by decide +kernel
theorem dX5_add_16 : decode cX5_add 16 = .ok (.if_icmp .ge 23, 3) := by decide +kernel
theorem dX5_add_19 : decode cX5_add 19 = .ok (.aload_n 0, 1) := by decide +kernel
theorem dX5_add_20 : decode cX5_add 20 = .ok (.getfield 13, 3) := by decide +kernel
theorem dX5_add_23 : decode cX5_add 23 = .ok (.aload_n 0, 1) := by decide +kernel
theorem dX5_add_24 : decode cX5_add 24 = .ok (.getfield 19, 3) := by decide +kernel
theorem dX5_add_27 : decode cX5_add 27 = .ok (.iload_n 1, 1) := by decide +kernel
theorem dX5_add_28 : decode cX5_add 28 = .ok (.iastore, 1) := by decide +kernel
theorem dX5_add_29 : decode cX5_add 29 = .ok (.aload_n 0, 1) := by decide +kernel
theorem dX5_add_30 : decode cX5_add 30 = .ok (.dup, 1) := by decide +kernel
theorem dX5_add_31 : decode cX5_add 31 = .ok (.getfield 19, 3) := by decide +kernel
theorem dX5_add_34 : decode cX5_add 34 = .ok (.iconst 1, 1) := by decide +kernel
theorem dX5_add_35 : decode cX5_add 35 = .ok (.iadd, 1) := by decide +kernel
theorem dX5_add_36 : decode cX5_add 36 = .ok (.putfield 19, 3) := by decide +kernel
theorem dX5_add_39 : decode cX5_add 39 = .ok (.return_, 1) := by decide +kernel
theorem dX5_last_0 : decode cX5_last 0 = .ok (.aload_n 0, 1) := by decide +kernel
theorem dX5_last_1 : decode cX5_last 1 = .ok (.aload_n 0, 1) := by decide +kernel
theorem dX5_last_2 : decode cX5_last 2 = .ok (.getfield 19, 3) := by decide +kernel
theorem dX5_last_5 : decode cX5_last 5 = .ok (.iconst 1, 1) := by decide +kernel
theorem dX5_last_6 : decode cX5_last 6 = .ok (.isub, 1) := by decide +kernel
theorem dX5_last_7 : decode cX5_last 7 = .ok (.invokevirtual 23, 3) := by decide +kernel
theorem dX5_last_10 : decode cX5_last 10 = .ok (.ireturn, 1) := by decide +kernel
theorem dX5_pop_0 : decode cX5_pop 0 = .ok (.aload_n 0, 1) := by decide +kernel
theorem dX5_pop_1 : decode cX5_pop 1 = .ok (.getfield 19, 3) := by decide +kernel
theorem dX5_pop_4 : decode cX5_pop 4 = .ok (.iconst 1, 1) := by decide +kernel
theorem dX5_pop_5 : decode cX5_pop 5 = .ok (.isub, 1) := by decide +kernel
theorem dX5_pop_6 : decode cX5_pop 6 = .ok (.istore_n 1, 1) := by decide +kernel
theorem dX5_pop_7 : decode cX5_pop 7 = .ok (.iload_n 1, 1) := by decide +kernel
theorem dX5_pop_8 : decode cX5_pop 8 = .ok (.ifCond .lt 12, 3) := by decide +kernel
theorem dX5_pop_11 : decode cX5_pop 11 = .ok (.iload_n 1, 1) := by decide +kernel
theorem dX5_pop_12 : decode cX5_pop 12 = .ok (.aload_n 0, 1) := by decide +kernel
theorem dX5_pop_13 : decode cX5_pop 13 = .ok (.getfield 13, 3) := by decide +kernel
theorem dX5_pop_16 : decode cX5_pop 16 = .ok (.arraylength, 1) := by decide +kernel
theorem dX5_pop_17 : decode cX5_pop 17 = .ok (.if_icmp .lt 5, 3) := by decide +kernel
theorem dX5_pop_20 : decode cX5_pop 20 = .ok (.iconst 0, 1) := by decide +kernel
theorem dX5_pop_21 : decode cX5_pop 21 = .ok (.ireturn, 1) := by decide +kernel
theorem dX5_pop_22 : decode cX5_pop 22 = .ok (.aload_n 0, 1) := by decide +kernel
theorem dX5_pop_23 : decode cX5_pop 23 = .ok (.iload_n 1, 1) := by decide +kernel
theorem dX5_pop_24 : decode cX5_pop 24 = .ok (.putfield 19, 3) := by decide +kernel
theorem dX5_pop_27 : decode cX5_pop 27 = .ok (.aload_n 0, 1) := by decide +kernel
theorem dX5_pop_28 : decode cX5_pop 28 = .ok (.getfield 13, 3) := by decide +kernel
theorem dX5_pop_31 : decode cX5_pop 31 = .ok (.iload_n 1, 1) := by decide +kernel
theorem dX5_pop_32 : decode cX5_pop 32 = .ok (.iaload, 1) := by decide +kernel
theorem dX5_pop_33 : decode cX5_pop 33 = .ok (.ireturn, 1) := by decide +kernel
theorem dX5_sum_0 : decode cX5_sum 0 = .ok (.iconst 0, 1) := by decide +kernel
theorem dX5_sum_1 : decode cX5_sum 1 = .ok (.istore_n 1, 1) := by decide +kernel
theorem dX5_sum_2 : decode cX5_sum 2 = .ok (.iconst 0, 1) := by decide +kernel
theorem dX5_sum_3 : decode cX5_sum 3 = .ok (.istore_n 2, 1) := by decide +kernel
theorem dX5_sum_4 : decode cX5_sum 4 = .ok (.iload_n 2, 1) := by decide +kernel
theorem dX5_sum_5 : decode cX5_sum 5 = .ok (.aload_n 0, 1) := by decide +kernel
theorem dX5_sum_6 : decode cX5_sum 6 = .ok (.getfield 19, 3) := by decide +kernel
theorem dX5_sum_9 : decode cX5_sum 9 = .ok (.if_icmp .ge 17, 3) := by decide +kernel
theorem dX5_sum_12 : decode cX5_sum 12 = .ok (.iload_n 1, 1) := by decide +kernel
theorem dX5_sum_13 : decode cX5_sum 13 = .ok (.aload_n 0, 1) := by decide +kernel
theorem dX5_sum_14 : decode cX5_sum 14 = .ok (.iload_n 2, 1) := by decide +kernel
theorem dX5_sum_15 : decode cX5_sum 15 = .ok (.invokevirtual 23, 3) := by decide +kernel
theorem dX5_sum_18 : decode cX5_sum 18 = .ok (.iadd, 1) := by decide +kernel
theorem dX5_sum_19 : decode cX5_sum 19 = .ok (.istore_n 1, 1) := by decide +kernel
theorem dX5_sum_20 : decode cX5_sum 20 = .ok (.iinc 2 1, 3) := by decide +kernel
theorem dX5_sum_23 : decode cX5_sum 23 = .ok (.goto (-19), 3) := by decide +kernel
theorem dX5_sum_26 : decode cX5_sum 26 = .ok (.iload_n 1, 1) := by decide +kernel
theorem dX5_sum_27 : decode cX5_sum 27 = .ok (.ireturn, 1) := by decide +kernel
theorem dX5_reset_0 : decode cX5_reset 0 = .ok (.aload_n 0, 1) := by decide +kernel
theorem dX5_reset_1 : decode cX5_reset 1 = .ok (.iconst 0, 1) := by decide +kernel
theorem dX5_reset_2 : decode cX5_reset 2 = .ok (.iload_n 1, 1) := by decide +kernel
theorem dX5_reset_3 : decode cX5_reset 3 = .ok (.aload_n 0, 1) := by decide +kernel
theorem dX5_reset_4 : decode cX5_reset 4 = .ok (.getfield 13, 3) := by decide +kernel
theorem dX5_reset_7 : decode cX5_reset 7 = .ok (.arraylength, 1) := by decide +kernel
theorem dX5_reset_8 : decode cX5_reset 8 = .ok (.invokestatic 31, 3) := by decide +kernel
theorem dX5_reset_11 : decode cX5_reset 11 = .ok (.invokestatic 7, 3) := by decide +kernel
theorem dX5_reset_14 : decode cX5_reset 14 = .ok (.putfield 19, 3) := by decide +kernel
theorem dX5_reset_17 : decode cX5_reset 17 = .ok (.iconst 0, 1) := by decide +kernel
theorem dX5_reset_18 : decode cX5_reset 18 = .ok (.istore_n 2, 1) := by decide +kernel
theorem dX5_reset_19 : decode cX5_reset 19 = .ok (.iload_n 2, 1) := by decide +kernel
theorem dX5_reset_20 : decode cX5_reset 20 = .ok (.aload_n 0, 1) := by decide +kernel
theorem dX5_reset_21 : decode cX5_reset 21 = .ok (.getfield 19, 3) := by decide +kernel
theorem dX5_reset_24 : decode cX5_reset 24 = .ok (.if_icmp .ge 15, 3) := by decide +kernel
theorem dX5_reset_27 : decode cX5_reset 27 = .ok (.aload_n 0, 1) := by decide +kernel
theorem dX5_reset_28 : decode cX5_reset 28 = .ok (.iload_n 2, 1) := by decide +kernel
theorem dX5_reset_29 : decode cX5_reset 29 = .ok (.iconst 0, 1) := by decide +kernel
theorem dX5_reset_30 : decode cX5_reset 30 = .ok (.invokevirtual 27, 3) := by decide +kernel
theorem dX5_reset_33 : decode cX5_reset 33 = .ok (.iinc 2 1, 3) := by decide +kernel
theorem dX5_reset_36 : decode cX5_reset 36 = .ok (.goto (-17), 3) := by decide +kernel
theorem dX5_reset_39 : decode cX5_reset 39 = .ok (.return_, 1) := by decide +kernel
theorem dX5_copy_0 : decode cX5_copy 0 = .ok (.aload_n 0, 1) := by decide +kernel
theorem dX5_copy_1 : decode cX5_copy 1 = .ok (.aload_n 1, 1) := by decide +kernel
theorem dX5_copy_2 : decode cX5_copy 2 = .ok (.getfield 19, 3) := by decide +kernel
theorem dX5_copy_5 : decode cX5_copy 5 = .ok (.aload_n 0, 1) := by decide +kernel
theorem dX5_copy_6 : decode cX5_copy 6 = .ok (.getfield 13, 3) := by decide +kernel
theorem dX5_copy_9 : decode cX5_copy 9 = .ok (.arraylength, 1) := by decide +kernel
theorem dX5_copy_10 : decode cX5_copy 10 = .ok (.invokestatic 31, 3) := by decide +kernel
theorem dX5_copy_13 : decode cX5_copy 13 = .ok (.putfield 19, 3) := by decide +kernel
theorem dX5_copy_16 : decode cX5_copy 16 = .ok (.aload_n 0, 1) := by decide +kernel
theorem dX5_copy_17 : decode cX5_copy 17 = .ok (.aload_n 1, 1) := by decide +kernel
theorem dX5_copy_18 : decode cX5_copy 18 = .ok (.iconst 0, 1) := by decide +kernel
theorem dX5_copy_19 : decode cX5_copy 19 = .ok (.iconst 0, 1) := by decide +kernel
theorem dX5_copy_20 : decode cX5_copy 20 = .ok (.aload_n 0, 1) := by decide +kernel
theorem dX5_copy_21 : decode cX5_copy 21 = .ok (.getfield 19, 3) := by decide +kernel
theorem dX5_copy_24 : decode cX5_copy 24 = .ok (.invokevirtual 34, 3) := by decide +kernel
theorem dX5_copy_27 : decode cX5_copy 27 = .ok (.return_, 1) := by decide +kernel
theorem dX5_take_0 : decode cX5_take 0 = .ok (.iload 4, 2) := by decide +kernel
theorem dX5_take_2 : decode cX5_take 2 = .ok (.ifCond .le 15, 3) := by decide +kernel
theorem dX5_take_5 : decode cX5_take 5 = .ok (.iload_n 2, 1) := by decide +kernel
theorem dX5_take_6 : decode cX5_take 6 = .ok (.ifCond .lt 11, 3) := by decide +kernel
theorem dX5_take_9 : decode cX5_take 9 = .ok (.iload_n 3, 1) := by decide +kernel
theorem dX5_take_10 : decode cX5_take 10 = .ok (.ifCond .lt 7, 3) := by decide +kernel
theorem dX5_take_13 : decode cX5_take 13 = .ok (.iconst 1, 1) := by decide +kernel
theorem dX5_take_14 : decode cX5_take 14 = .ok (.goto 4, 3) := by decide +kernel
theorem dX5_take_17 : decode cX5_take 17 = .ok (.iconst 0, 1) := by decide +kernel
theorem dX5_take_18 : decode cX5_take 18 = .ok (.istore 5, 2) := by decide +kernel
theorem dX5_take_20 : decode cX5_take 20 = .ok (.iload 5, 2) := by decide +kernel
theorem dX5_take_22 : decode cX5_take 22 = .ok (.ifCond .eq 42, 3) := by decide +kernel
theorem dX5_take_25 : decode cX5_take 25 = .ok (.iload_n 2, 1) := by decide +kernel
theorem dX5_take_26 : decode cX5_take 26 = .ok (.aload_n 1, 1) := by decide +kernel
theorem dX5_take_27 : decode cX5_take 27 = .ok (.getfield 13, 3) := by decide +kernel
theorem dX5_take_30 : decode cX5_take 30 = .ok (.arraylength, 1) := by decide +kernel
theorem dX5_take_31 : decode cX5_take 31 = .ok (.iload 4, 2) := by decide +kernel
theorem dX5_take_33 : decode cX5_take 33 = .ok (.isub, 1) := by decide +kernel
theorem dX5_take_34 : decode cX5_take 34 = .ok (.if_icmp .gt 30, 3) := by decide +kernel
theorem dX5_take_37 : decode cX5_take 37 = .ok (.iload_n 3, 1) := by decide +kernel
theorem dX5_take_38 : decode cX5_take 38 = .ok (.aload_n 0, 1) := by decide +kernel
theorem dX5_take_39 : decode cX5_take 39 = .ok (.getfield 13, 3) := by decide +kernel
theorem dX5_take_42 : decode cX5_take 42 = .ok (.arraylength, 1) := by decide +kernel
theorem dX5_take_43 : decode cX5_take 43 = .ok (.iload 4, 2) := by decide +kernel
theorem dX5_take_45 : decode cX5_take 45 = .ok (.isub, 1) := by decide +kernel
theorem dX5_take_46 : decode cX5_take 46 = .ok (.if_icmp .gt 18, 3) := by decide +kernel
theorem dX5_take_49 : decode cX5_take 49 = .ok (.aload_n 1, 1) := by decide +kernel
theorem dX5_take_50 : decode cX5_take 50 = .ok (.getfield 13, 3) := by decide +kernel
theorem dX5_take_53 : decode cX5_take 53 = .ok (.iload_n 2, 1) := by decide +kernel
theorem dX5_take_54 : decode cX5_take 54 = .ok (.aload_n 0, 1) := by decide +kernel
theorem dX5_take_55 : decode cX5_take 55 = .ok (.getfield 13, 3) := by decide +kernel
theorem dX5_take_58 : decode cX5_take 58 = .ok (.iload_n 3, 1) := by decide +kernel
theorem dX5_take_59 : decode cX5_take 59 = .ok (.iload 4, 2) := by decide +kernel
theorem dX5_take_61 : decode cX5_take 61 = .ok (.invokestatic 38, 3) := by decide +kernel
theorem dX5_take_64 : decode cX5_take 64 = .ok (.return_, 1) := by decide +kernel
theorem dX6_init_0 : decode cX6_init 0 = .ok (.aload_n 0, 1) := by decide +kernel
theorem dX6_init_1 : decode cX6_init 1 = .ok (.invokespecial 3, 3) := by decide +kernel
theorem dX6_init_4 : decode cX6_init 4 = .ok (.aload_n 0, 1) := by decide +kernel
theorem dX6_init_5 : decode cX6_init 5 = .ok (.new 9, 3) := by decide +kernel
theorem dX6_init_8 : decode cX6_init 8 = .ok (.dup, 1) := by decide +kernel
theorem dX6_init_9 : decode cX6_init 9 = .ok (.bipush 24, 2) := by decide +kernel
theorem dX6_init_11 : decode cX6_init 11 = .ok (.invokespecial 11, 3) := by decide +kernel
theorem dX6_init_14 : decode cX6_init 14 = .ok (.putfield 14, 3) := by decide +kernel
theorem dX6_init_17 : decode cX6_init 17 = .ok (.return_, 1) := by decide +kernel
theorem dX6_isWidth_0 : decode cX6_isWidth 0 = .ok (.iload_n 0, 1) := by decide +kernel
theorem dX6_isWidth_1 : decode cX6_isWidth 1 = .ok (.ifCond .eq 21, 3) := by decide +kernel
theorem dX6_isWidth_4 : decode cX6_isWidth 4 = .ok (.iload_n 0, 1) := by decide +kernel
theorem dX6_isWidth_5 : decode cX6_isWidth 5 = .ok (.bipush 8, 2) := by decide +kernel
theorem dX6_isWidth_7 : decode cX6_isWidth 7 = .ok (.if_icmp .eq 15, 3) := by decide +kernel
theorem dX6_isWidth_10 : decode cX6_isWidth 10 = .ok (.iload_n 0, 1) := by decide +kernel
theorem dX6_isWidth_11 : decode cX6_isWidth 11 = .ok (.bipush 16, 2) := by decide +kernel
theorem dX6_isWidth_13 : decode cX6_isWidth 13 = .ok (.if_icmp .eq 9, 3) := by decide +kernel
theorem dX6_isWidth_16 : decode cX6_isWidth 16 = .ok (.iload_n 0, 1) := by decide +kernel
theorem dX6_isWidth_17 : decode cX6_isWidth 17 = .ok (.bipush 32, 2) := by decide +kernel
theorem dX6_isWidth_19 : decode cX6_isWidth 19 = .ok (.if_icmp .ne 7, 3) := by decide +kernel
theorem dX6_isWidth_22 : decode cX6_isWidth 22 = .ok (.iconst 1, 1) := by decide +kernel
theorem dX6_isWidth_23 : decode cX6_isWidth 23 = .ok (.goto 4, 3) := by decide +kernel
theorem dX6_isWidth_26 : decode cX6_isWidth 26 = .ok (.iconst 0, 1) := by decide +kernel
theorem dX6_isWidth_27 : decode cX6_isWidth 27 = .ok (.ireturn, 1) := by decide +kernel
theorem dX6_isMissing_0 : decode cX6_isMissing 0 = .ok (.aload_n 0, 1) := by decide +kernel
theorem dX6_isMissing_1 : decode cX6_isMissing 1 = .ok (.getfield 20, 3) := by decide +kernel
theorem dX6_isMissing_4 : decode cX6_isMissing 4 = .ok (.ifCond .ne 7, 3) := by decide +kernel
theorem dX6_isMissing_7 : decode cX6_isMissing 7 = .ok (.iconst 1, 1) := by decide +kernel
theorem dX6_isMissing_8 : decode cX6_isMissing 8 = .ok (.goto 4, 3) := by decide +kernel
theorem dX6_isMissing_11 : decode cX6_isMissing 11 = .ok (.iconst 0, 1) := by decide +kernel
theorem dX6_isMissing_12 : decode cX6_isMissing 12 = .ok (.ireturn, 1) := by decide +kernel
theorem dX6_make_0 : decode cX6_make 0 = .ok (.aload_n 0, 1) := by decide +kernel
theorem dX6_make_1 : decode cX6_make 1 = .ok (.iload_n 1, 1) := by decide +kernel
theorem dX6_make_2 : decode cX6_make 2 = .ok (.putfield 20, 3) := by decide +kernel
theorem dX6_make_5 : decode cX6_make 5 = .ok (.aload_n 0, 1) := by decide +kernel
theorem dX6_make_6 : decode cX6_make 6 = .ok (.getfield 14, 3) := by decide +kernel
theorem dX6_make_9 : decode cX6_make 9 = .ok (.iload_n 1, 1) := by decide +kernel
theorem dX6_make_10 : decode cX6_make 10 = .ok (.ifCond .ne 7, 3) := by decide +kernel
theorem dX6_make_13 : decode cX6_make 13 = .ok (.iconst 0, 1) := by decide +kernel
theorem dX6_make_14 : decode cX6_make 14 = .ok (.goto 4, 3) := by decide +kernel
theorem dX6_make_17 : decode cX6_make 17 = .ok (.iload_n 2, 1) := by decide +kernel
theorem dX6_make_18 : decode cX6_make 18 = .ok (.invokevirtual 24, 3) := by decide +kernel
theorem dX6_make_21 : decode cX6_make 21 = .ok (.return_, 1) := by decide +kernel
theorem dX6_holds_0 : decode cX6_holds 0 = .ok (.iload_n 1, 1) := by decide +kernel
theorem dX6_holds_1 : decode cX6_holds 1 = .ok (.ifCond .lt 24, 3) := by decide +kernel
theorem dX6_holds_4 : decode cX6_holds 4 = .ok (.iload_n 2, 1) := by decide +kernel
theorem dX6_holds_5 : decode cX6_holds 5 = .ok (.ifCond .lt 20, 3) := by decide +kernel
theorem dX6_holds_8 : decode cX6_holds 8 = .ok (.iload_n 1, 1) := by decide +kernel
theorem dX6_holds_9 : decode cX6_holds 9 = .ok (.aload_n 0, 1) := by decide +kernel
theorem dX6_holds_10 : decode cX6_holds 10 = .ok (.getfield 14, 3) := by decide +kernel
theorem dX6_holds_13 : decode cX6_holds 13 = .ok (.invokevirtual 27, 3) := by decide +kernel
theorem dX6_holds_16 : decode cX6_holds 16 = .ok (.iload_n 2, 1) := by decide +kernel
theorem dX6_holds_17 : decode cX6_holds 17 = .ok (.isub, 1) := by decide +kernel
theorem dX6_holds_18 : decode cX6_holds 18 = .ok (.if_icmp .gt 7, 3) := by decide +kernel
theorem dX6_holds_21 : decode cX6_holds 21 = .ok (.iconst 1, 1) := by decide +kernel
theorem dX6_holds_22 : decode cX6_holds 22 = .ok (.goto 4, 3) := by decide +kernel
theorem dX6_holds_25 : decode cX6_holds 25 = .ok (.iconst 0, 1) := by decide +kernel
theorem dX6_holds_26 : decode cX6_holds 26 = .ok (.ireturn, 1) := by decide +kernel
theorem dX6_write_0 : decode cX6_write 0 = .ok (.aload_n 0, 1) := by decide +kernel
theorem dX6_write_1 : decode cX6_write 1 = .ok (.getfield 14, 3) := by decide +kernel
theorem dX6_write_4 : decode cX6_write 4 = .ok (.iload_n 1, 1) := by decide +kernel
theorem dX6_write_5 : decode cX6_write 5 = .ok (.aload_n 0, 1) := by decide +kernel
theorem dX6_write_6 : decode cX6_write 6 = .ok (.getfield 20, 3) := by decide +kernel
theorem dX6_write_9 : decode cX6_write 9 = .ok (.bipush 8, 2) := by decide +kernel
theorem dX6_write_11 : decode cX6_write 11 = .ok (.if_icmp .ne 8, 3) := by decide +kernel
theorem dX6_write_14 : decode cX6_write 14 = .ok (.iload_n 2, 1) := by decide +kernel
theorem dX6_write_15 : decode cX6_write 15 = .ok (.i2b, 1) := by decide +kernel
theorem dX6_write_16 : decode cX6_write 16 = .ok (.goto 18, 3) := by decide +kernel
theorem dX6_write_19 : decode cX6_write 19 = .ok (.aload_n 0, 1) := by decide +kernel
theorem dX6_write_20 : decode cX6_write 20 = .ok (.getfield 20, 3) := by decide +kernel
theorem dX6_write_23 : decode cX6_write 23 = .ok (.bipush 16, 2) := by decide +kernel
theorem dX6_write_25 : decode cX6_write 25 = .ok (.if_icmp .ne 8, 3) := by decide +kernel
theorem dX6_write_28 : decode cX6_write 28 = .ok (.iload_n 2, 1) := by decide +kernel
theorem dX6_write_29 : decode cX6_write 29 = .ok (.i2s, 1) := by decide +kernel
theorem dX6_write_30 : decode cX6_write 30 = .ok (.goto 4, 3) := by decide +kernel
theorem dX6_write_33 : decode cX6_write 33 = .ok (.iload_n 2, 1) := by decide +kernel
theorem dX6_write_34 : decode cX6_write 34 = .ok (.invokevirtual 31, 3) := by decide +kernel
theorem dX6_write_37 : decode cX6_write 37 = .ok (.return_, 1) := by decide +kernel
theorem dX7_init_0 : decode cX7_init 0 = .ok (.aload_n 0, 1) := by decide +kernel
theorem dX7_init_1 : decode cX7_init 1 = .ok (.invokespecial 3, 3) := by decide +kernel
theorem dX7_init_4 : decode cX7_init 4 = .ok (.aload_n 0, 1) := by decide +kernel
theorem dX7_init_5 : decode cX7_init 5 = .ok (.new 9, 3) := by decide +kernel
theorem dX7_init_8 : decode cX7_init 8 = .ok (.dup, 1) := by decide +kernel
theorem dX7_init_9 : decode cX7_init 9 = .ok (.bipush 60, 2) := by decide +kernel
theorem dX7_init_11 : decode cX7_init 11 = .ok (.invokespecial 11, 3) := by decide +kernel
theorem dX7_init_14 : decode cX7_init 14 = .ok (.putfield 14, 3) := by decide +kernel
theorem dX7_init_17 : decode cX7_init 17 = .ok (.aload_n 0, 1) := by decide +kernel
theorem dX7_init_18 : decode cX7_init 18 = .ok (.new 9, 3) := by decide +kernel
theorem dX7_init_21 : decode cX7_init 21 = .ok (.dup, 1) := by decide +kernel
theorem dX7_init_22 : decode cX7_init 22 = .ok (.iconst 5, 1) := by decide +kernel
theorem dX7_init_23 : decode cX7_init 23 = .ok (.invokespecial 11, 3) := by decide +kernel
theorem dX7_init_26 : decode cX7_init 26 = .ok (.putfield 20, 3) := by decide +kernel
theorem dX7_init_29 : decode cX7_init 29 = .ok (.aload_n 0, 1) := by decide +kernel
theorem dX7_init_30 : decode cX7_init 30 = .ok (.getfield 20, 3) := by decide +kernel
theorem dX7_init_33 : decode cX7_init 33 = .ok (.iconst 5, 1) := by decide +kernel
theorem dX7_init_34 : decode cX7_init 34 = .ok (.invokevirtual 23, 3) := by decide +kernel
theorem dX7_init_37 : decode cX7_init 37 = .ok (.aload_n 0, 1) := by decide +kernel
theorem dX7_init_38 : decode cX7_init 38 = .ok (.new 9, 3) := by decide +kernel
theorem dX7_init_41 : decode cX7_init 41 = .ok (.dup, 1) := by decide +kernel
theorem dX7_init_42 : decode cX7_init 42 = .ok (.bipush 60, 2) := by decide +kernel
theorem dX7_init_44 : decode cX7_init 44 = .ok (.invokespecial 11, 3) := by decide +kernel
theorem dX7_init_47 : decode cX7_init 47 = .ok (.putfield 26, 3) := by decide +kernel
theorem dX7_init_50 : decode cX7_init 50 = .ok (.return_, 1) := by decide +kernel
theorem dX7_stands_0 : decode cX7_stands 0 = .ok (.aload_n 0, 1) := by decide +kernel
theorem dX7_stands_1 : decode cX7_stands 1 = .ok (.getfield 14, 3) := by decide +kernel
theorem dX7_stands_4 : decode cX7_stands 4 = .ok (.invokevirtual 29, 3) := by decide +kernel
theorem dX7_stands_7 : decode cX7_stands 7 = .ok (.ifCond .le 7, 3) := by decide +kernel
theorem dX7_stands_10 : decode cX7_stands 10 = .ok (.iconst 1, 1) := by decide +kernel
theorem dX7_stands_11 : decode cX7_stands 11 = .ok (.goto 4, 3) := by decide +kernel
theorem dX7_stands_14 : decode cX7_stands 14 = .ok (.iconst 0, 1) := by decide +kernel
theorem dX7_stands_15 : decode cX7_stands 15 = .ok (.ireturn, 1) := by decide +kernel
theorem dX7_forget_0 : decode cX7_forget 0 = .ok (.aload_n 0, 1) := by decide +kernel
theorem dX7_forget_1 : decode cX7_forget 1 = .ok (.getfield 14, 3) := by decide +kernel
theorem dX7_forget_4 : decode cX7_forget 4 = .ok (.iconst 0, 1) := by decide +kernel
theorem dX7_forget_5 : decode cX7_forget 5 = .ok (.invokevirtual 23, 3) := by decide +kernel
theorem dX7_forget_8 : decode cX7_forget 8 = .ok (.return_, 1) := by decide +kernel
theorem dX7_hold_0 : decode cX7_hold 0 = .ok (.aload_n 0, 1) := by decide +kernel
theorem dX7_hold_1 : decode cX7_hold 1 = .ok (.getfield 14, 3) := by decide +kernel
theorem dX7_hold_4 : decode cX7_hold 4 = .ok (.aload_n 1, 1) := by decide +kernel
theorem dX7_hold_5 : decode cX7_hold 5 = .ok (.invokevirtual 33, 3) := by decide +kernel
theorem dX7_hold_8 : decode cX7_hold 8 = .ok (.return_, 1) := by decide +kernel
theorem dX7_setName_0 : decode cX7_setName 0 = .ok (.aload_n 0, 1) := by decide +kernel
theorem dX7_setName_1 : decode cX7_setName 1 = .ok (.getfield 20, 3) := by decide +kernel
theorem dX7_setName_4 : decode cX7_setName 4 = .ok (.iload_n 1, 1) := by decide +kernel
theorem dX7_setName_5 : decode cX7_setName 5 = .ok (.iload_n 2, 1) := by decide +kernel
theorem dX7_setName_6 : decode cX7_setName 6 = .ok (.invokevirtual 37, 3) := by decide +kernel
theorem dX7_setName_9 : decode cX7_setName 9 = .ok (.return_, 1) := by decide +kernel
theorem dX7_work_0 : decode cX7_work 0 = .ok (.aload_n 0, 1) := by decide +kernel
theorem dX7_work_1 : decode cX7_work 1 = .ok (.getfield 26, 3) := by decide +kernel
theorem dX7_work_4 : decode cX7_work 4 = .ok (.iconst 0, 1) := by decide +kernel
theorem dX7_work_5 : decode cX7_work 5 = .ok (.invokevirtual 23, 3) := by decide +kernel
theorem dX7_work_8 : decode cX7_work 8 = .ok (.iconst 0, 1) := by decide +kernel
theorem dX7_work_9 : decode cX7_work 9 = .ok (.istore_n 1, 1) := by decide +kernel
theorem dX7_work_10 : decode cX7_work 10 = .ok (.iload_n 1, 1) := by decide +kernel
theorem dX7_work_11 : decode cX7_work 11 = .ok (.aload_n 0, 1) := by decide +kernel
theorem dX7_work_12 : decode cX7_work 12 = .ok (.getfield 14, 3) := by decide +kernel
theorem dX7_work_15 : decode cX7_work 15 = .ok (.invokevirtual 29, 3) := by decide +kernel
theorem dX7_work_18 : decode cX7_work 18 = .ok (.if_icmp .ge 74, 3) := by decide +kernel
theorem dX7_work_21 : decode cX7_work 21 = .ok (.aload_n 0, 1) := by decide +kernel
theorem dX7_work_22 : decode cX7_work 22 = .ok (.getfield 14, 3) := by decide +kernel
theorem dX7_work_25 : decode cX7_work 25 = .ok (.iload_n 1, 1) := by decide +kernel
theorem dX7_work_26 : decode cX7_work 26 = .ok (.invokevirtual 41, 3) := by decide +kernel
theorem dX7_work_29 : decode cX7_work 29 = .ok (.istore_n 2, 1) := by decide +kernel
theorem dX7_work_30 : decode cX7_work 30 = .ok (.iload_n 2, 1) := by decide +kernel
theorem dX7_work_31 : decode cX7_work 31 = .ok (.sipush 10000, 3) := by decide +kernel
theorem dX7_work_34 : decode cX7_work 34 = .ok (.if_icmp .ge 14, 3) := by decide +kernel
theorem dX7_work_37 : decode cX7_work 37 = .ok (.aload_n 0, 1) := by decide +kernel
theorem dX7_work_38 : decode cX7_work 38 = .ok (.getfield 26, 3) := by decide +kernel
theorem dX7_work_41 : decode cX7_work 41 = .ok (.iload_n 2, 1) := by decide +kernel
theorem dX7_work_42 : decode cX7_work 42 = .ok (.invokevirtual 45, 3) := by decide +kernel
theorem dX7_work_45 : decode cX7_work 45 = .ok (.goto 41, 3) := by decide +kernel
theorem dX7_work_48 : decode cX7_work 48 = .ok (.iload_n 2, 1) := by decide +kernel
theorem dX7_work_49 : decode cX7_work 49 = .ok (.sipush 20000, 3) := by decide +kernel
theorem dX7_work_52 : decode cX7_work 52 = .ok (.if_icmp .ge 25, 3) := by decide +kernel
theorem dX7_work_55 : decode cX7_work 55 = .ok (.aload_n 0, 1) := by decide +kernel
theorem dX7_work_56 : decode cX7_work 56 = .ok (.getfield 26, 3) := by decide +kernel
theorem dX7_work_59 : decode cX7_work 59 = .ok (.aload_n 0, 1) := by decide +kernel
theorem dX7_work_60 : decode cX7_work 60 = .ok (.getfield 20, 3) := by decide +kernel
theorem dX7_work_63 : decode cX7_work 63 = .ok (.iload_n 2, 1) := by decide +kernel
theorem dX7_work_64 : decode cX7_work 64 = .ok (.sipush 10000, 3) := by decide +kernel
theorem dX7_work_67 : decode cX7_work 67 = .ok (.isub, 1) := by decide +kernel
theorem dX7_work_68 : decode cX7_work 68 = .ok (.invokevirtual 41, 3) := by decide +kernel
theorem dX7_work_71 : decode cX7_work 71 = .ok (.invokevirtual 45, 3) := by decide +kernel
theorem dX7_work_74 : decode cX7_work 74 = .ok (.goto 12, 3) := by decide +kernel
theorem dX7_work_77 : decode cX7_work 77 = .ok (.aload_n 0, 1) := by decide +kernel
theorem dX7_work_78 : decode cX7_work 78 = .ok (.iload_n 2, 1) := by decide +kernel
theorem dX7_work_79 : decode cX7_work 79 = .ok (.sipush 20000, 3) := by decide +kernel
theorem dX7_work_82 : decode cX7_work 82 = .ok (.isub, 1) := by decide +kernel
theorem dX7_work_83 : decode cX7_work 83 = .ok (.invokevirtual 48, 3) := by decide +kernel
theorem dX7_work_86 : decode cX7_work 86 = .ok (.iinc 1 1, 3) := by decide +kernel
theorem dX7_work_89 : decode cX7_work 89 = .ok (.goto (-79), 3) := by decide +kernel
theorem dX7_work_92 : decode cX7_work 92 = .ok (.aload_n 0, 1) := by decide +kernel
theorem dX7_work_93 : decode cX7_work 93 = .ok (.getfield 26, 3) := by decide +kernel
theorem dX7_work_96 : decode cX7_work 96 = .ok (.invokevirtual 51, 3) := by decide +kernel
theorem dX7_work_99 : decode cX7_work 99 = .ok (.ireturn, 1) := by decide +kernel
theorem dX7_workSign_0 : decode cX7_workSign 0 = .ok (.aload_n 0, 1) := by decide +kernel
theorem dX7_workSign_1 : decode cX7_workSign 1 = .ok (.getfield 26, 3) := by decide +kernel
theorem dX7_workSign_4 : decode cX7_workSign 4 = .ok (.invokevirtual 54, 3) := by decide +kernel
theorem dX7_workSign_7 : decode cX7_workSign 7 = .ok (.istore_n 2, 1) := by decide +kernel
theorem dX7_workSign_8 : decode cX7_workSign 8 = .ok (.iload_n 1, 1) := by decide +kernel
theorem dX7_workSign_9 : decode cX7_workSign 9 = .ok (.bipush 33, 2) := by decide +kernel
theorem dX7_workSign_11 : decode cX7_workSign 11 = .ok (.if_icmp .ne 22, 3) := by decide +kernel
theorem dX7_workSign_14 : decode cX7_workSign 14 = .ok (.aload_n 0, 1) := by decide +kernel
theorem dX7_workSign_15 : decode cX7_workSign 15 = .ok (.getfield 26, 3) := by decide +kernel
theorem dX7_workSign_18 : decode cX7_workSign 18 = .ok (.iload_n 2, 1) := by decide +kernel
theorem dX7_workSign_19 : decode cX7_workSign 19 = .ok (.ifCond .ne 7, 3) := by decide +kernel
theorem dX7_workSign_22 : decode cX7_workSign 22 = .ok (.iconst 1, 1) := by decide +kernel
theorem dX7_workSign_23 : decode cX7_workSign 23 = .ok (.goto 4, 3) := by decide +kernel
theorem dX7_workSign_26 : decode cX7_workSign 26 = .ok (.iconst 0, 1) := by decide +kernel
theorem dX7_workSign_27 : decode cX7_workSign 27 = .ok (.invokevirtual 45, 3) := by decide +kernel
theorem dX7_workSign_30 : decode cX7_workSign 30 = .ok (.goto 22, 3) := by decide +kernel
theorem dX7_workSign_33 : decode cX7_workSign 33 = .ok (.aload_n 0, 1) := by decide +kernel
theorem dX7_workSign_34 : decode cX7_workSign 34 = .ok (.getfield 26, 3) := by decide +kernel
theorem dX7_workSign_37 : decode cX7_workSign 37 = .ok (.iload_n 1, 1) := by decide +kernel
theorem dX7_workSign_38 : decode cX7_workSign 38 = .ok (.aload_n 0, 1) := by decide +kernel
theorem dX7_workSign_39 : decode cX7_workSign 39 = .ok (.getfield 26, 3) := by decide +kernel
theorem dX7_workSign_42 : decode cX7_workSign 42 = .ok (.invokevirtual 54, 3) := by decide +kernel
theorem dX7_workSign_45 : decode cX7_workSign 45 = .ok (.iload_n 2, 1) := by decide +kernel
theorem dX7_workSign_46 : decode cX7_workSign 46 = .ok (.invokestatic 57, 3) := by decide +kernel
theorem dX7_workSign_49 : decode cX7_workSign 49 = .ok (.invokevirtual 45, 3) := by decide +kernel
theorem dX7_workSign_52 : decode cX7_workSign 52 = .ok (.return_, 1) := by decide +kernel
theorem dX7_joined_0 : decode cX7_joined 0 = .ok (.iload_n 0, 1) := by decide +kernel
theorem dX7_joined_1 : decode cX7_joined 1 = .ok (.tableswitch 202 37 62 #[143, 188, 202, 202, 202, 127, 119, 202, 123, 202, 131, 202, 202, 202, 202, 202, 202, 202, 202, 202, 202, 202, 202, 155, 166, 177], 119) := by decide +kernel
theorem dX7_joined_120 : decode cX7_joined 120 = .ok (.iload_n 1, 1) := by decide +kernel
theorem dX7_joined_121 : decode cX7_joined 121 = .ok (.iload_n 2, 1) := by decide +kernel
theorem dX7_joined_122 : decode cX7_joined 122 = .ok (.iadd, 1) := by decide +kernel
theorem dX7_joined_123 : decode cX7_joined 123 = .ok (.ireturn, 1) := by decide +kernel
theorem dX7_joined_124 : decode cX7_joined 124 = .ok (.iload_n 1, 1) := by decide +kernel
theorem dX7_joined_125 : decode cX7_joined 125 = .ok (.iload_n 2, 1) := by decide +kernel
theorem dX7_joined_126 : decode cX7_joined 126 = .ok (.isub, 1) := by decide +kernel
theorem dX7_joined_127 : decode cX7_joined 127 = .ok (.ireturn, 1) := by decide +kernel
theorem dX7_joined_128 : decode cX7_joined 128 = .ok (.iload_n 1, 1) := by decide +kernel
theorem dX7_joined_129 : decode cX7_joined 129 = .ok (.iload_n 2, 1) := by decide +kernel
theorem dX7_joined_130 : decode cX7_joined 130 = .ok (.imul, 1) := by decide +kernel
theorem dX7_joined_131 : decode cX7_joined 131 = .ok (.ireturn, 1) := by decide +kernel
theorem dX7_joined_132 : decode cX7_joined 132 = .ok (.iload_n 2, 1) := by decide +kernel
theorem dX7_joined_133 : decode cX7_joined 133 = .ok (.ifCond .ne 7, 3) := by decide +kernel
theorem dX7_joined_136 : decode cX7_joined 136 = .ok (.iconst 0, 1) := by decide +kernel
theorem dX7_joined_137 : decode cX7_joined 137 = .ok (.goto 6, 3) := by decide +kernel
theorem dX7_joined_140 : decode cX7_joined 140 = .ok (.iload_n 1, 1) := by decide +kernel
theorem dX7_joined_141 : decode cX7_joined 141 = .ok (.iload_n 2, 1) := by decide +kernel
theorem dX7_joined_142 : decode cX7_joined 142 = .ok (.idiv, 1) := by decide +kernel
theorem dX7_joined_143 : decode cX7_joined 143 = .ok (.ireturn, 1) := by decide +kernel
theorem dX7_joined_144 : decode cX7_joined 144 = .ok (.iload_n 2, 1) := by decide +kernel
theorem dX7_joined_145 : decode cX7_joined 145 = .ok (.ifCond .ne 7, 3) := by decide +kernel
theorem dX7_joined_148 : decode cX7_joined 148 = .ok (.iconst 0, 1) := by decide +kernel
theorem dX7_joined_149 : decode cX7_joined 149 = .ok (.goto 6, 3) := by decide +kernel
theorem dX7_joined_152 : decode cX7_joined 152 = .ok (.iload_n 1, 1) := by decide +kernel
theorem dX7_joined_153 : decode cX7_joined 153 = .ok (.iload_n 2, 1) := by decide +kernel
theorem dX7_joined_154 : decode cX7_joined 154 = .ok (.irem, 1) := by decide +kernel
theorem dX7_joined_155 : decode cX7_joined 155 = .ok (.ireturn, 1) := by decide +kernel
theorem dX7_joined_156 : decode cX7_joined 156 = .ok (.iload_n 1, 1) := by decide +kernel
theorem dX7_joined_157 : decode cX7_joined 157 = .ok (.iload_n 2, 1) := by decide +kernel
theorem dX7_joined_158 : decode cX7_joined 158 = .ok (.if_icmp .ge 7, 3) := by decide +kernel
theorem dX7_joined_161 : decode cX7_joined 161 = .ok (.iconst 1, 1) := by decide +kernel
theorem dX7_joined_162 : decode cX7_joined 162 = .ok (.goto 4, 3) := by decide +kernel
theorem dX7_joined_165 : decode cX7_joined 165 = .ok (.iconst 0, 1) := by decide +kernel
theorem dX7_joined_166 : decode cX7_joined 166 = .ok (.ireturn, 1) := by decide +kernel
theorem dX7_joined_167 : decode cX7_joined 167 = .ok (.iload_n 1, 1) := by decide +kernel
theorem dX7_joined_168 : decode cX7_joined 168 = .ok (.iload_n 2, 1) := by decide +kernel
theorem dX7_joined_169 : decode cX7_joined 169 = .ok (.if_icmp .ne 7, 3) := by decide +kernel
theorem dX7_joined_172 : decode cX7_joined 172 = .ok (.iconst 1, 1) := by decide +kernel
theorem dX7_joined_173 : decode cX7_joined 173 = .ok (.goto 4, 3) := by decide +kernel
theorem dX7_joined_176 : decode cX7_joined 176 = .ok (.iconst 0, 1) := by decide +kernel
theorem dX7_joined_177 : decode cX7_joined 177 = .ok (.ireturn, 1) := by decide +kernel
theorem dX7_joined_178 : decode cX7_joined 178 = .ok (.iload_n 1, 1) := by decide +kernel
theorem dX7_joined_179 : decode cX7_joined 179 = .ok (.iload_n 2, 1) := by decide +kernel
theorem dX7_joined_180 : decode cX7_joined 180 = .ok (.if_icmp .le 7, 3) := by decide +kernel
theorem dX7_joined_183 : decode cX7_joined 183 = .ok (.iconst 1, 1) := by decide +kernel
theorem dX7_joined_184 : decode cX7_joined 184 = .ok (.goto 4, 3) := by decide +kernel
theorem dX7_joined_187 : decode cX7_joined 187 = .ok (.iconst 0, 1) := by decide +kernel
theorem dX7_joined_188 : decode cX7_joined 188 = .ok (.ireturn, 1) := by decide +kernel
theorem dX7_joined_189 : decode cX7_joined 189 = .ok (.iload_n 1, 1) := by decide +kernel
theorem dX7_joined_190 : decode cX7_joined 190 = .ok (.ifCond .eq 11, 3) := by decide +kernel
theorem dX7_joined_193 : decode cX7_joined 193 = .ok (.iload_n 2, 1) := by decide +kernel
theorem dX7_joined_194 : decode cX7_joined 194 = .ok (.ifCond .eq 7, 3) := by decide +kernel
theorem dX7_joined_197 : decode cX7_joined 197 = .ok (.iconst 1, 1) := by decide +kernel
theorem dX7_joined_198 : decode cX7_joined 198 = .ok (.goto 4, 3) := by decide +kernel
theorem dX7_joined_201 : decode cX7_joined 201 = .ok (.iconst 0, 1) := by decide +kernel
theorem dX7_joined_202 : decode cX7_joined 202 = .ok (.ireturn, 1) := by decide +kernel
theorem dX7_joined_203 : decode cX7_joined 203 = .ok (.iload_n 1, 1) := by decide +kernel
theorem dX7_joined_204 : decode cX7_joined 204 = .ok (.ifCond .ne 7, 3) := by decide +kernel
theorem dX7_joined_207 : decode cX7_joined 207 = .ok (.iload_n 2, 1) := by decide +kernel
theorem dX7_joined_208 : decode cX7_joined 208 = .ok (.ifCond .eq 7, 3) := by decide +kernel
theorem dX7_joined_211 : decode cX7_joined 211 = .ok (.iconst 1, 1) := by decide +kernel
theorem dX7_joined_212 : decode cX7_joined 212 = .ok (.goto 4, 3) := by decide +kernel
theorem dX7_joined_215 : decode cX7_joined 215 = .ok (.iconst 0, 1) := by decide +kernel
theorem dX7_joined_216 : decode cX7_joined 216 = .ok (.ireturn, 1) := by decide +kernel
theorem dX8_init_0 : decode cX8_init 0 = .ok (.aload_n 0, 1) := by decide +kernel
theorem dX8_init_1 : decode cX8_init 1 = .ok (.invokespecial 3, 3) := by decide +kernel
theorem dX8_init_4 : decode cX8_init 4 = .ok (.aload_n 0, 1) := by decide +kernel
theorem dX8_init_5 : decode cX8_init 5 = .ok (.new 9, 3) := by decide +kernel
theorem dX8_init_8 : decode cX8_init 8 = .ok (.dup, 1) := by decide +kernel
theorem dX8_init_9 : decode cX8_init 9 = .ok (.bipush 12, 2) := by decide +kernel
theorem dX8_init_11 : decode cX8_init 11 = .ok (.invokespecial 11, 3) := by decide +kernel
theorem dX8_init_14 : decode cX8_init 14 = .ok (.putfield 14, 3) := by decide +kernel
theorem dX8_init_17 : decode cX8_init 17 = .ok (.aload_n 0, 1) := by decide +kernel
theorem dX8_init_18 : decode cX8_init 18 = .ok (.new 9, 3) := by decide +kernel
theorem dX8_init_21 : decode cX8_init 21 = .ok (.dup, 1) := by decide +kernel
theorem dX8_init_22 : decode cX8_init 22 = .ok (.bipush 12, 2) := by decide +kernel
theorem dX8_init_24 : decode cX8_init 24 = .ok (.invokespecial 11, 3) := by decide +kernel
theorem dX8_init_27 : decode cX8_init 27 = .ok (.putfield 20, 3) := by decide +kernel
theorem dX8_init_30 : decode cX8_init 30 = .ok (.aload_n 0, 1) := by decide +kernel
theorem dX8_init_31 : decode cX8_init 31 = .ok (.new 9, 3) := by decide +kernel
theorem dX8_init_34 : decode cX8_init 34 = .ok (.dup, 1) := by decide +kernel
theorem dX8_init_35 : decode cX8_init 35 = .ok (.bipush 12, 2) := by decide +kernel
theorem dX8_init_37 : decode cX8_init 37 = .ok (.invokespecial 11, 3) := by decide +kernel
theorem dX8_init_40 : decode cX8_init 40 = .ok (.putfield 23, 3) := by decide +kernel
theorem dX8_init_43 : decode cX8_init 43 = .ok (.aload_n 0, 1) := by decide +kernel
theorem dX8_init_44 : decode cX8_init 44 = .ok (.new 9, 3) := by decide +kernel
theorem dX8_init_47 : decode cX8_init 47 = .ok (.dup, 1) := by decide +kernel
theorem dX8_init_48 : decode cX8_init 48 = .ok (.bipush 12, 2) := by decide +kernel
theorem dX8_init_50 : decode cX8_init 50 = .ok (.invokespecial 11, 3) := by decide +kernel
theorem dX8_init_53 : decode cX8_init 53 = .ok (.putfield 26, 3) := by decide +kernel
theorem dX8_init_56 : decode cX8_init 56 = .ok (.aload_n 0, 1) := by decide +kernel
theorem dX8_init_57 : decode cX8_init 57 = .ok (.new 9, 3) := by decide +kernel
theorem dX8_init_60 : decode cX8_init 60 = .ok (.dup, 1) := by decide +kernel
theorem dX8_init_61 : decode cX8_init 61 = .ok (.bipush 72, 2) := by decide +kernel
theorem dX8_init_63 : decode cX8_init 63 = .ok (.invokespecial 11, 3) := by decide +kernel
theorem dX8_init_66 : decode cX8_init 66 = .ok (.putfield 29, 3) := by decide +kernel
theorem dX8_init_69 : decode cX8_init 69 = .ok (.aload_n 0, 1) := by decide +kernel
theorem dX8_init_70 : decode cX8_init 70 = .ok (.getfield 29, 3) := by decide +kernel
theorem dX8_init_73 : decode cX8_init 73 = .ok (.bipush 72, 2) := by decide +kernel
theorem dX8_init_75 : decode cX8_init 75 = .ok (.invokevirtual 32, 3) := by decide +kernel
theorem dX8_init_78 : decode cX8_init 78 = .ok (.return_, 1) := by decide +kernel
theorem dX8_size_0 : decode cX8_size 0 = .ok (.aload_n 0, 1) := by decide +kernel
theorem dX8_size_1 : decode cX8_size 1 = .ok (.getfield 14, 3) := by decide +kernel
theorem dX8_size_4 : decode cX8_size 4 = .ok (.invokevirtual 35, 3) := by decide +kernel
theorem dX8_size_7 : decode cX8_size 7 = .ok (.ireturn, 1) := by decide +kernel
theorem dX8_come_0 : decode cX8_come 0 = .ok (.aload_n 0, 1) := by decide +kernel
theorem dX8_come_1 : decode cX8_come 1 = .ok (.getfield 14, 3) := by decide +kernel
theorem dX8_come_4 : decode cX8_come 4 = .ok (.iload_n 1, 1) := by decide +kernel
theorem dX8_come_5 : decode cX8_come 5 = .ok (.invokevirtual 39, 3) := by decide +kernel
theorem dX8_come_8 : decode cX8_come 8 = .ok (.aload_n 0, 1) := by decide +kernel
theorem dX8_come_9 : decode cX8_come 9 = .ok (.getfield 20, 3) := by decide +kernel
theorem dX8_come_12 : decode cX8_come 12 = .ok (.iload_n 2, 1) := by decide +kernel
theorem dX8_come_13 : decode cX8_come 13 = .ok (.invokevirtual 39, 3) := by decide +kernel
theorem dX8_come_16 : decode cX8_come 16 = .ok (.aload_n 0, 1) := by decide +kernel
theorem dX8_come_17 : decode cX8_come 17 = .ok (.getfield 23, 3) := by decide +kernel
theorem dX8_come_20 : decode cX8_come 20 = .ok (.bipush 100, 2) := by decide +kernel
theorem dX8_come_22 : decode cX8_come 22 = .ok (.invokevirtual 39, 3) := by decide +kernel
theorem dX8_come_25 : decode cX8_come 25 = .ok (.aload_n 0, 1) := by decide +kernel
theorem dX8_come_26 : decode cX8_come 26 = .ok (.getfield 26, 3) := by decide +kernel
theorem dX8_come_29 : decode cX8_come 29 = .ok (.iconst 0, 1) := by decide +kernel
theorem dX8_come_30 : decode cX8_come 30 = .ok (.invokevirtual 39, 3) := by decide +kernel
theorem dX8_come_33 : decode cX8_come 33 = .ok (.aload_n 0, 1) := by decide +kernel
theorem dX8_come_34 : decode cX8_come 34 = .ok (.getfield 14, 3) := by decide +kernel
theorem dX8_come_37 : decode cX8_come 37 = .ok (.invokevirtual 35, 3) := by decide +kernel
theorem dX8_come_40 : decode cX8_come 40 = .ok (.iconst 1, 1) := by decide +kernel
theorem dX8_come_41 : decode cX8_come 41 = .ok (.isub, 1) := by decide +kernel
theorem dX8_come_42 : decode cX8_come 42 = .ok (.ireturn, 1) := by decide +kernel
theorem dX8_setWorth_0 : decode cX8_setWorth 0 = .ok (.aload_n 0, 1) := by decide +kernel
theorem dX8_setWorth_1 : decode cX8_setWorth 1 = .ok (.getfield 29, 3) := by decide +kernel
theorem dX8_setWorth_4 : decode cX8_setWorth 4 = .ok (.iload_n 1, 1) := by decide +kernel
theorem dX8_setWorth_5 : decode cX8_setWorth 5 = .ok (.bipush 12, 2) := by decide +kernel
theorem dX8_setWorth_7 : decode cX8_setWorth 7 = .ok (.imul, 1) := by decide +kernel
theorem dX8_setWorth_8 : decode cX8_setWorth 8 = .ok (.iload_n 2, 1) := by decide +kernel
theorem dX8_setWorth_9 : decode cX8_setWorth 9 = .ok (.iadd, 1) := by decide +kernel
theorem dX8_setWorth_10 : decode cX8_setWorth 10 = .ok (.iload_n 3, 1) := by decide +kernel
theorem dX8_setWorth_11 : decode cX8_setWorth 11 = .ok (.invokevirtual 42, 3) := by decide +kernel
theorem dX8_setWorth_14 : decode cX8_setWorth 14 = .ok (.ireturn, 1) := by decide +kernel
theorem dX8_valueOf_0 : decode cX8_valueOf 0 = .ok (.aload_n 0, 1) := by decide +kernel
theorem dX8_valueOf_1 : decode cX8_valueOf 1 = .ok (.getfield 29, 3) := by decide +kernel
theorem dX8_valueOf_4 : decode cX8_valueOf 4 = .ok (.iload_n 1, 1) := by decide +kernel
theorem dX8_valueOf_5 : decode cX8_valueOf 5 = .ok (.bipush 12, 2) := by decide +kernel
theorem dX8_valueOf_7 : decode cX8_valueOf 7 = .ok (.imul, 1) := by decide +kernel
theorem dX8_valueOf_8 : decode cX8_valueOf 8 = .ok (.iload_n 2, 1) := by decide +kernel
theorem dX8_valueOf_9 : decode cX8_valueOf 9 = .ok (.iadd, 1) := by decide +kernel
theorem dX8_valueOf_10 : decode cX8_valueOf 10 = .ok (.invokevirtual 46, 3) := by decide +kernel
theorem dX8_valueOf_13 : decode cX8_valueOf 13 = .ok (.aload_n 0, 1) := by decide +kernel
theorem dX8_valueOf_14 : decode cX8_valueOf 14 = .ok (.getfield 23, 3) := by decide +kernel
theorem dX8_valueOf_17 : decode cX8_valueOf 17 = .ok (.iload_n 2, 1) := by decide +kernel
theorem dX8_valueOf_18 : decode cX8_valueOf 18 = .ok (.invokevirtual 46, 3) := by decide +kernel
theorem dX8_valueOf_21 : decode cX8_valueOf 21 = .ok (.imul, 1) := by decide +kernel
theorem dX8_valueOf_22 : decode cX8_valueOf 22 = .ok (.bipush 100, 2) := by decide +kernel
theorem dX8_valueOf_24 : decode cX8_valueOf 24 = .ok (.idiv, 1) := by decide +kernel
theorem dX8_valueOf_25 : decode cX8_valueOf 25 = .ok (.ireturn, 1) := by decide +kernel
theorem dX8_ownedBy_0 : decode cX8_ownedBy 0 = .ok (.iconst 0, 1) := by decide +kernel
theorem dX8_ownedBy_1 : decode cX8_ownedBy 1 = .ok (.istore_n 2, 1) := by decide +kernel
theorem dX8_ownedBy_2 : decode cX8_ownedBy 2 = .ok (.iconst 0, 1) := by decide +kernel
theorem dX8_ownedBy_3 : decode cX8_ownedBy 3 = .ok (.istore_n 3, 1) := by decide +kernel
theorem dX8_ownedBy_4 : decode cX8_ownedBy 4 = .ok (.iload_n 3, 1) := by decide +kernel
theorem dX8_ownedBy_5 : decode cX8_ownedBy 5 = .ok (.aload_n 0, 1) := by decide +kernel
theorem dX8_ownedBy_6 : decode cX8_ownedBy 6 = .ok (.getfield 14, 3) := by decide +kernel
theorem dX8_ownedBy_9 : decode cX8_ownedBy 9 = .ok (.invokevirtual 35, 3) := by decide +kernel
theorem dX8_ownedBy_12 : decode cX8_ownedBy 12 = .ok (.if_icmp .ge 29, 3) := by decide +kernel
theorem dX8_ownedBy_15 : decode cX8_ownedBy 15 = .ok (.iload_n 2, 1) := by decide +kernel
theorem dX8_ownedBy_16 : decode cX8_ownedBy 16 = .ok (.aload_n 0, 1) := by decide +kernel
theorem dX8_ownedBy_17 : decode cX8_ownedBy 17 = .ok (.getfield 14, 3) := by decide +kernel
theorem dX8_ownedBy_20 : decode cX8_ownedBy 20 = .ok (.iload_n 3, 1) := by decide +kernel
theorem dX8_ownedBy_21 : decode cX8_ownedBy 21 = .ok (.invokevirtual 46, 3) := by decide +kernel
theorem dX8_ownedBy_24 : decode cX8_ownedBy 24 = .ok (.iload_n 1, 1) := by decide +kernel
theorem dX8_ownedBy_25 : decode cX8_ownedBy 25 = .ok (.if_icmp .ne 7, 3) := by decide +kernel
theorem dX8_ownedBy_28 : decode cX8_ownedBy 28 = .ok (.iconst 1, 1) := by decide +kernel
theorem dX8_ownedBy_29 : decode cX8_ownedBy 29 = .ok (.goto 4, 3) := by decide +kernel
theorem dX8_ownedBy_32 : decode cX8_ownedBy 32 = .ok (.iconst 0, 1) := by decide +kernel
theorem dX8_ownedBy_33 : decode cX8_ownedBy 33 = .ok (.iadd, 1) := by decide +kernel
theorem dX8_ownedBy_34 : decode cX8_ownedBy 34 = .ok (.istore_n 2, 1) := by decide +kernel
theorem dX8_ownedBy_35 : decode cX8_ownedBy 35 = .ok (.iinc 3 1, 3) := by decide +kernel
theorem dX8_ownedBy_38 : decode cX8_ownedBy 38 = .ok (.goto (-34), 3) := by decide +kernel
theorem dX8_ownedBy_41 : decode cX8_ownedBy 41 = .ok (.iload_n 2, 1) := by decide +kernel
theorem dX8_ownedBy_42 : decode cX8_ownedBy 42 = .ok (.ireturn, 1) := by decide +kernel
theorem dX8_keptBy_0 : decode cX8_keptBy 0 = .ok (.iconst 0, 1) := by decide +kernel
theorem dX8_keptBy_1 : decode cX8_keptBy 1 = .ok (.istore_n 2, 1) := by decide +kernel
theorem dX8_keptBy_2 : decode cX8_keptBy 2 = .ok (.iconst 0, 1) := by decide +kernel
theorem dX8_keptBy_3 : decode cX8_keptBy 3 = .ok (.istore_n 3, 1) := by decide +kernel
theorem dX8_keptBy_4 : decode cX8_keptBy 4 = .ok (.iload_n 3, 1) := by decide +kernel
theorem dX8_keptBy_5 : decode cX8_keptBy 5 = .ok (.aload_n 0, 1) := by decide +kernel
theorem dX8_keptBy_6 : decode cX8_keptBy 6 = .ok (.getfield 14, 3) := by decide +kernel
theorem dX8_keptBy_9 : decode cX8_keptBy 9 = .ok (.invokevirtual 35, 3) := by decide +kernel
theorem dX8_keptBy_12 : decode cX8_keptBy 12 = .ok (.if_icmp .ge 36, 3) := by decide +kernel
theorem dX8_keptBy_15 : decode cX8_keptBy 15 = .ok (.iload_n 2, 1) := by decide +kernel
theorem dX8_keptBy_16 : decode cX8_keptBy 16 = .ok (.aload_n 0, 1) := by decide +kernel
theorem dX8_keptBy_17 : decode cX8_keptBy 17 = .ok (.getfield 14, 3) := by decide +kernel
theorem dX8_keptBy_20 : decode cX8_keptBy 20 = .ok (.iload_n 3, 1) := by decide +kernel
theorem dX8_keptBy_21 : decode cX8_keptBy 21 = .ok (.invokevirtual 46, 3) := by decide +kernel
theorem dX8_keptBy_24 : decode cX8_keptBy 24 = .ok (.iload_n 1, 1) := by decide +kernel
theorem dX8_keptBy_25 : decode cX8_keptBy 25 = .ok (.if_icmp .ne 14, 3) := by decide +kernel
theorem dX8_keptBy_28 : decode cX8_keptBy 28 = .ok (.aload_n 0, 1) := by decide +kernel
theorem dX8_keptBy_29 : decode cX8_keptBy 29 = .ok (.getfield 26, 3) := by decide +kernel
theorem dX8_keptBy_32 : decode cX8_keptBy 32 = .ok (.iload_n 3, 1) := by decide +kernel
theorem dX8_keptBy_33 : decode cX8_keptBy 33 = .ok (.invokevirtual 46, 3) := by decide +kernel
theorem dX8_keptBy_36 : decode cX8_keptBy 36 = .ok (.goto 4, 3) := by decide +kernel
theorem dX8_keptBy_39 : decode cX8_keptBy 39 = .ok (.iconst 0, 1) := by decide +kernel
theorem dX8_keptBy_40 : decode cX8_keptBy 40 = .ok (.iadd, 1) := by decide +kernel
theorem dX8_keptBy_41 : decode cX8_keptBy 41 = .ok (.istore_n 2, 1) := by decide +kernel
theorem dX8_keptBy_42 : decode cX8_keptBy 42 = .ok (.iinc 3 1, 3) := by decide +kernel
theorem dX8_keptBy_45 : decode cX8_keptBy 45 = .ok (.goto (-41), 3) := by decide +kernel
theorem dX8_keptBy_48 : decode cX8_keptBy 48 = .ok (.iload_n 2, 1) := by decide +kernel
theorem dX8_keptBy_49 : decode cX8_keptBy 49 = .ok (.ireturn, 1) := by decide +kernel
theorem dX8_valueOwnedBy_0 : decode cX8_valueOwnedBy 0 = .ok (.iconst 0, 1) := by decide +kernel
theorem dX8_valueOwnedBy_1 : decode cX8_valueOwnedBy 1 = .ok (.istore_n 2, 1) := by decide +kernel
theorem dX8_valueOwnedBy_2 : decode cX8_valueOwnedBy 2 = .ok (.iconst 0, 1) := by decide +kernel
theorem dX8_valueOwnedBy_3 : decode cX8_valueOwnedBy 3 = .ok (.istore_n 3, 1) := by decide +kernel
theorem dX8_valueOwnedBy_4 : decode cX8_valueOwnedBy 4 = .ok (.iload_n 3, 1) := by decide +kernel
theorem dX8_valueOwnedBy_5 : decode cX8_valueOwnedBy 5 = .ok (.aload_n 0, 1) := by decide +kernel
theorem dX8_valueOwnedBy_6 : decode cX8_valueOwnedBy 6 = .ok (.getfield 14, 3) := by decide +kernel
theorem dX8_valueOwnedBy_9 : decode cX8_valueOwnedBy 9 = .ok (.invokevirtual 35, 3) := by decide +kernel
theorem dX8_valueOwnedBy_12 : decode cX8_valueOwnedBy 12 = .ok (.if_icmp .ge 34, 3) := by decide +kernel
theorem dX8_valueOwnedBy_15 : decode cX8_valueOwnedBy 15 = .ok (.iload_n 2, 1) := by decide +kernel
theorem dX8_valueOwnedBy_16 : decode cX8_valueOwnedBy 16 = .ok (.aload_n 0, 1) := by decide +kernel
theorem dX8_valueOwnedBy_17 : decode cX8_valueOwnedBy 17 = .ok (.getfield 14, 3) := by decide +kernel
theorem dX8_valueOwnedBy_20 : decode cX8_valueOwnedBy 20 = .ok (.iload_n 3, 1) := by decide +kernel
theorem dX8_valueOwnedBy_21 : decode cX8_valueOwnedBy 21 = .ok (.invokevirtual 46, 3) := by decide +kernel
theorem dX8_valueOwnedBy_24 : decode cX8_valueOwnedBy 24 = .ok (.iload_n 1, 1) := by decide +kernel
theorem dX8_valueOwnedBy_25 : decode cX8_valueOwnedBy 25 = .ok (.if_icmp .ne 12, 3) := by decide +kernel
theorem dX8_valueOwnedBy_28 : decode cX8_valueOwnedBy 28 = .ok (.aload_n 0, 1) := by decide +kernel
theorem dX8_valueOwnedBy_29 : decode cX8_valueOwnedBy 29 = .ok (.iload_n 1, 1) := by decide +kernel
theorem dX8_valueOwnedBy_30 : decode cX8_valueOwnedBy 30 = .ok (.iload_n 3, 1) := by decide +kernel
theorem dX8_valueOwnedBy_31 : decode cX8_valueOwnedBy 31 = .ok (.invokevirtual 50, 3) := by decide +kernel
theorem dX8_valueOwnedBy_34 : decode cX8_valueOwnedBy 34 = .ok (.goto 4, 3) := by decide +kernel
theorem dX8_valueOwnedBy_37 : decode cX8_valueOwnedBy 37 = .ok (.iconst 0, 1) := by decide +kernel
theorem dX8_valueOwnedBy_38 : decode cX8_valueOwnedBy 38 = .ok (.iadd, 1) := by decide +kernel
theorem dX8_valueOwnedBy_39 : decode cX8_valueOwnedBy 39 = .ok (.istore_n 2, 1) := by decide +kernel
theorem dX8_valueOwnedBy_40 : decode cX8_valueOwnedBy 40 = .ok (.iinc 3 1, 3) := by decide +kernel
theorem dX8_valueOwnedBy_43 : decode cX8_valueOwnedBy 43 = .ok (.goto (-39), 3) := by decide +kernel
theorem dX8_valueOwnedBy_46 : decode cX8_valueOwnedBy 46 = .ok (.iload_n 2, 1) := by decide +kernel
theorem dX8_valueOwnedBy_47 : decode cX8_valueOwnedBy 47 = .ok (.ireturn, 1) := by decide +kernel
theorem dX8_copy_0 : decode cX8_copy 0 = .ok (.aload_n 0, 1) := by decide +kernel
theorem dX8_copy_1 : decode cX8_copy 1 = .ok (.getfield 14, 3) := by decide +kernel
theorem dX8_copy_4 : decode cX8_copy 4 = .ok (.aload_n 1, 1) := by decide +kernel
theorem dX8_copy_5 : decode cX8_copy 5 = .ok (.getfield 14, 3) := by decide +kernel
theorem dX8_copy_8 : decode cX8_copy 8 = .ok (.invokevirtual 53, 3) := by decide +kernel
theorem dX8_copy_11 : decode cX8_copy 11 = .ok (.aload_n 0, 1) := by decide +kernel
theorem dX8_copy_12 : decode cX8_copy 12 = .ok (.getfield 20, 3) := by decide +kernel
theorem dX8_copy_15 : decode cX8_copy 15 = .ok (.aload_n 1, 1) := by decide +kernel
theorem dX8_copy_16 : decode cX8_copy 16 = .ok (.getfield 20, 3) := by decide +kernel
theorem dX8_copy_19 : decode cX8_copy 19 = .ok (.invokevirtual 53, 3) := by decide +kernel
theorem dX8_copy_22 : decode cX8_copy 22 = .ok (.aload_n 0, 1) := by decide +kernel
theorem dX8_copy_23 : decode cX8_copy 23 = .ok (.getfield 23, 3) := by decide +kernel
theorem dX8_copy_26 : decode cX8_copy 26 = .ok (.aload_n 1, 1) := by decide +kernel
theorem dX8_copy_27 : decode cX8_copy 27 = .ok (.getfield 23, 3) := by decide +kernel
theorem dX8_copy_30 : decode cX8_copy 30 = .ok (.invokevirtual 53, 3) := by decide +kernel
theorem dX8_copy_33 : decode cX8_copy 33 = .ok (.aload_n 0, 1) := by decide +kernel
theorem dX8_copy_34 : decode cX8_copy 34 = .ok (.getfield 26, 3) := by decide +kernel
theorem dX8_copy_37 : decode cX8_copy 37 = .ok (.aload_n 1, 1) := by decide +kernel
theorem dX8_copy_38 : decode cX8_copy 38 = .ok (.getfield 26, 3) := by decide +kernel
theorem dX8_copy_41 : decode cX8_copy 41 = .ok (.invokevirtual 53, 3) := by decide +kernel
theorem dX8_copy_44 : decode cX8_copy 44 = .ok (.aload_n 0, 1) := by decide +kernel
theorem dX8_copy_45 : decode cX8_copy 45 = .ok (.getfield 29, 3) := by decide +kernel
theorem dX8_copy_48 : decode cX8_copy 48 = .ok (.aload_n 1, 1) := by decide +kernel
theorem dX8_copy_49 : decode cX8_copy 49 = .ok (.getfield 29, 3) := by decide +kernel
theorem dX8_copy_52 : decode cX8_copy 52 = .ok (.invokevirtual 53, 3) := by decide +kernel
theorem dX8_copy_55 : decode cX8_copy 55 = .ok (.return_, 1) := by decide +kernel
theorem dX9_init_0 : decode cX9_init 0 = .ok (.aload_n 0, 1) := by decide +kernel
theorem dX9_init_1 : decode cX9_init 1 = .ok (.invokespecial 3, 3) := by decide +kernel
theorem dX9_init_4 : decode cX9_init 4 = .ok (.aload_n 0, 1) := by decide +kernel
theorem dX9_init_5 : decode cX9_init 5 = .ok (.new 9, 3) := by decide +kernel
theorem dX9_init_8 : decode cX9_init 8 = .ok (.dup, 1) := by decide +kernel
theorem dX9_init_9 : decode cX9_init 9 = .ok (.invokespecial 11, 3) := by decide +kernel
theorem dX9_init_12 : decode cX9_init 12 = .ok (.putfield 12, 3) := by decide +kernel
theorem dX9_init_15 : decode cX9_init 15 = .ok (.aload_n 0, 1) := by decide +kernel
theorem dX9_init_16 : decode cX9_init 16 = .ok (.new 18, 3) := by decide +kernel
theorem dX9_init_19 : decode cX9_init 19 = .ok (.dup, 1) := by decide +kernel
theorem dX9_init_20 : decode cX9_init 20 = .ok (.invokespecial 20, 3) := by decide +kernel
theorem dX9_init_23 : decode cX9_init 23 = .ok (.putfield 21, 3) := by decide +kernel
theorem dX9_init_26 : decode cX9_init 26 = .ok (.aload_n 0, 1) := by decide +kernel
theorem dX9_init_27 : decode cX9_init 27 = .ok (.new 25, 3) := by decide +kernel
theorem dX9_init_30 : decode cX9_init 30 = .ok (.dup, 1) := by decide +kernel
theorem dX9_init_31 : decode cX9_init 31 = .ok (.bipush 6, 2) := by decide +kernel
theorem dX9_init_33 : decode cX9_init 33 = .ok (.invokespecial 27, 3) := by decide +kernel
theorem dX9_init_36 : decode cX9_init 36 = .ok (.putfield 30, 3) := by decide +kernel
theorem dX9_init_39 : decode cX9_init 39 = .ok (.aload_n 0, 1) := by decide +kernel
theorem dX9_init_40 : decode cX9_init 40 = .ok (.new 25, 3) := by decide +kernel
theorem dX9_init_43 : decode cX9_init 43 = .ok (.dup, 1) := by decide +kernel
theorem dX9_init_44 : decode cX9_init 44 = .ok (.bipush 6, 2) := by decide +kernel
theorem dX9_init_46 : decode cX9_init 46 = .ok (.invokespecial 27, 3) := by decide +kernel
theorem dX9_init_49 : decode cX9_init 49 = .ok (.putfield 34, 3) := by decide +kernel
theorem dX9_init_52 : decode cX9_init 52 = .ok (.aload_n 0, 1) := by decide +kernel
theorem dX9_init_53 : decode cX9_init 53 = .ok (.new 25, 3) := by decide +kernel
theorem dX9_init_56 : decode cX9_init 56 = .ok (.dup, 1) := by decide +kernel
theorem dX9_init_57 : decode cX9_init 57 = .ok (.bipush 6, 2) := by decide +kernel
theorem dX9_init_59 : decode cX9_init 59 = .ok (.invokespecial 27, 3) := by decide +kernel
theorem dX9_init_62 : decode cX9_init 62 = .ok (.putfield 37, 3) := by decide +kernel
theorem dX9_init_65 : decode cX9_init 65 = .ok (.aload_n 0, 1) := by decide +kernel
theorem dX9_init_66 : decode cX9_init 66 = .ok (.new 25, 3) := by decide +kernel
theorem dX9_init_69 : decode cX9_init 69 = .ok (.dup, 1) := by decide +kernel
theorem dX9_init_70 : decode cX9_init 70 = .ok (.iconst 5, 1) := by decide +kernel
theorem dX9_init_71 : decode cX9_init 71 = .ok (.invokespecial 27, 3) := by decide +kernel
theorem dX9_init_74 : decode cX9_init 74 = .ok (.putfield 40, 3) := by decide +kernel
theorem dX9_init_77 : decode cX9_init 77 = .ok (.aload_n 0, 1) := by decide +kernel
theorem dX9_init_78 : decode cX9_init 78 = .ok (.getfield 40, 3) := by decide +kernel
theorem dX9_init_81 : decode cX9_init 81 = .ok (.iconst 5, 1) := by decide +kernel
theorem dX9_init_82 : decode cX9_init 82 = .ok (.invokevirtual 43, 3) := by decide +kernel
theorem dX9_init_85 : decode cX9_init 85 = .ok (.aload_n 0, 1) := by decide +kernel
theorem dX9_init_86 : decode cX9_init 86 = .ok (.getfield 40, 3) := by decide +kernel
theorem dX9_init_89 : decode cX9_init 89 = .ok (.iconst 0, 1) := by decide +kernel
theorem dX9_init_90 : decode cX9_init 90 = .ok (.iconst 5, 1) := by decide +kernel
theorem dX9_init_91 : decode cX9_init 91 = .ok (.invokevirtual 46, 3) := by decide +kernel
theorem dX9_init_94 : decode cX9_init 94 = .ok (.aload_n 0, 1) := by decide +kernel
theorem dX9_init_95 : decode cX9_init 95 = .ok (.getfield 40, 3) := by decide +kernel
theorem dX9_init_98 : decode cX9_init 98 = .ok (.iconst 1, 1) := by decide +kernel
theorem dX9_init_99 : decode cX9_init 99 = .ok (.bipush 10, 2) := by decide +kernel
theorem dX9_init_101 : decode cX9_init 101 = .ok (.invokevirtual 46, 3) := by decide +kernel
theorem dX9_init_104 : decode cX9_init 104 = .ok (.aload_n 0, 1) := by decide +kernel
theorem dX9_init_105 : decode cX9_init 105 = .ok (.getfield 40, 3) := by decide +kernel
theorem dX9_init_108 : decode cX9_init 108 = .ok (.iconst 3, 1) := by decide +kernel
theorem dX9_init_109 : decode cX9_init 109 = .ok (.iconst 1, 1) := by decide +kernel
theorem dX9_init_110 : decode cX9_init 110 = .ok (.invokevirtual 46, 3) := by decide +kernel
theorem dX9_init_113 : decode cX9_init 113 = .ok (.aload_n 0, 1) := by decide +kernel
theorem dX9_init_114 : decode cX9_init 114 = .ok (.getfield 40, 3) := by decide +kernel
theorem dX9_init_117 : decode cX9_init 117 = .ok (.iconst 4, 1) := by decide +kernel
theorem dX9_init_118 : decode cX9_init 118 = .ok (.bipush 20, 2) := by decide +kernel
theorem dX9_init_120 : decode cX9_init 120 = .ok (.invokevirtual 46, 3) := by decide +kernel
theorem dX9_init_123 : decode cX9_init 123 = .ok (.aload_n 0, 1) := by decide +kernel
theorem dX9_init_124 : decode cX9_init 124 = .ok (.new 50, 3) := by decide +kernel
theorem dX9_init_127 : decode cX9_init 127 = .ok (.dup, 1) := by decide +kernel
theorem dX9_init_128 : decode cX9_init 128 = .ok (.invokespecial 52, 3) := by decide +kernel
theorem dX9_init_131 : decode cX9_init 131 = .ok (.putfield 53, 3) := by decide +kernel
theorem dX9_init_134 : decode cX9_init 134 = .ok (.aload_n 0, 1) := by decide +kernel
theorem dX9_init_135 : decode cX9_init 135 = .ok (.new 50, 3) := by decide +kernel
theorem dX9_init_138 : decode cX9_init 138 = .ok (.dup, 1) := by decide +kernel
theorem dX9_init_139 : decode cX9_init 139 = .ok (.invokespecial 52, 3) := by decide +kernel
theorem dX9_init_142 : decode cX9_init 142 = .ok (.putfield 57, 3) := by decide +kernel
theorem dX9_init_145 : decode cX9_init 145 = .ok (.aload_n 0, 1) := by decide +kernel
theorem dX9_init_146 : decode cX9_init 146 = .ok (.new 25, 3) := by decide +kernel
theorem dX9_init_149 : decode cX9_init 149 = .ok (.dup, 1) := by decide +kernel
theorem dX9_init_150 : decode cX9_init 150 = .ok (.bipush 60, 2) := by decide +kernel
theorem dX9_init_152 : decode cX9_init 152 = .ok (.invokespecial 27, 3) := by decide +kernel
theorem dX9_init_155 : decode cX9_init 155 = .ok (.putfield 60, 3) := by decide +kernel
theorem dX9_init_158 : decode cX9_init 158 = .ok (.aload_n 0, 1) := by decide +kernel
theorem dX9_init_159 : decode cX9_init 159 = .ok (.new 25, 3) := by decide +kernel
theorem dX9_init_162 : decode cX9_init 162 = .ok (.dup, 1) := by decide +kernel
theorem dX9_init_163 : decode cX9_init 163 = .ok (.bipush 24, 2) := by decide +kernel
theorem dX9_init_165 : decode cX9_init 165 = .ok (.invokespecial 27, 3) := by decide +kernel
theorem dX9_init_168 : decode cX9_init 168 = .ok (.putfield 63, 3) := by decide +kernel
theorem dX9_init_171 : decode cX9_init 171 = .ok (.aload_n 0, 1) := by decide +kernel
theorem dX9_init_172 : decode cX9_init 172 = .ok (.aload_n 1, 1) := by decide +kernel
theorem dX9_init_173 : decode cX9_init 173 = .ok (.putfield 66, 3) := by decide +kernel
theorem dX9_init_176 : decode cX9_init 176 = .ok (.aload_n 0, 1) := by decide +kernel
theorem dX9_init_177 : decode cX9_init 177 = .ok (.iconst 1, 1) := by decide +kernel
theorem dX9_init_178 : decode cX9_init 178 = .ok (.putfield 70, 3) := by decide +kernel
theorem dX9_init_181 : decode cX9_init 181 = .ok (.return_, 1) := by decide +kernel
theorem dX9_copy_0 : decode cX9_copy 0 = .ok (.aload_n 0, 1) := by decide +kernel
theorem dX9_copy_1 : decode cX9_copy 1 = .ok (.getfield 12, 3) := by decide +kernel
theorem dX9_copy_4 : decode cX9_copy 4 = .ok (.aload_n 1, 1) := by decide +kernel
theorem dX9_copy_5 : decode cX9_copy 5 = .ok (.getfield 12, 3) := by decide +kernel
theorem dX9_copy_8 : decode cX9_copy 8 = .ok (.invokevirtual 74, 3) := by decide +kernel
theorem dX9_copy_11 : decode cX9_copy 11 = .ok (.aload_n 0, 1) := by decide +kernel
theorem dX9_copy_12 : decode cX9_copy 12 = .ok (.getfield 21, 3) := by decide +kernel
theorem dX9_copy_15 : decode cX9_copy 15 = .ok (.aload_n 1, 1) := by decide +kernel
theorem dX9_copy_16 : decode cX9_copy 16 = .ok (.getfield 21, 3) := by decide +kernel
theorem dX9_copy_19 : decode cX9_copy 19 = .ok (.invokevirtual 78, 3) := by decide +kernel
theorem dX9_copy_22 : decode cX9_copy 22 = .ok (.aload_n 0, 1) := by decide +kernel
theorem dX9_copy_23 : decode cX9_copy 23 = .ok (.getfield 30, 3) := by decide +kernel
theorem dX9_copy_26 : decode cX9_copy 26 = .ok (.aload_n 1, 1) := by decide +kernel
theorem dX9_copy_27 : decode cX9_copy 27 = .ok (.getfield 30, 3) := by decide +kernel
theorem dX9_copy_30 : decode cX9_copy 30 = .ok (.invokevirtual 81, 3) := by decide +kernel
theorem dX9_copy_33 : decode cX9_copy 33 = .ok (.aload_n 0, 1) := by decide +kernel
theorem dX9_copy_34 : decode cX9_copy 34 = .ok (.getfield 34, 3) := by decide +kernel
theorem dX9_copy_37 : decode cX9_copy 37 = .ok (.aload_n 1, 1) := by decide +kernel
theorem dX9_copy_38 : decode cX9_copy 38 = .ok (.getfield 34, 3) := by decide +kernel
theorem dX9_copy_41 : decode cX9_copy 41 = .ok (.invokevirtual 81, 3) := by decide +kernel
theorem dX9_copy_44 : decode cX9_copy 44 = .ok (.aload_n 0, 1) := by decide +kernel
theorem dX9_copy_45 : decode cX9_copy 45 = .ok (.getfield 37, 3) := by decide +kernel
theorem dX9_copy_48 : decode cX9_copy 48 = .ok (.aload_n 1, 1) := by decide +kernel
theorem dX9_copy_49 : decode cX9_copy 49 = .ok (.getfield 37, 3) := by decide +kernel
theorem dX9_copy_52 : decode cX9_copy 52 = .ok (.invokevirtual 81, 3) := by decide +kernel
theorem dX9_copy_55 : decode cX9_copy 55 = .ok (.aload_n 0, 1) := by decide +kernel
theorem dX9_copy_56 : decode cX9_copy 56 = .ok (.getfield 40, 3) := by decide +kernel
theorem dX9_copy_59 : decode cX9_copy 59 = .ok (.aload_n 1, 1) := by decide +kernel
theorem dX9_copy_60 : decode cX9_copy 60 = .ok (.getfield 40, 3) := by decide +kernel
theorem dX9_copy_63 : decode cX9_copy 63 = .ok (.invokevirtual 81, 3) := by decide +kernel
theorem dX9_copy_66 : decode cX9_copy 66 = .ok (.aload_n 0, 1) := by decide +kernel
theorem dX9_copy_67 : decode cX9_copy 67 = .ok (.getfield 53, 3) := by decide +kernel
theorem dX9_copy_70 : decode cX9_copy 70 = .ok (.aload_n 1, 1) := by decide +kernel
theorem dX9_copy_71 : decode cX9_copy 71 = .ok (.getfield 53, 3) := by decide +kernel
theorem dX9_copy_74 : decode cX9_copy 74 = .ok (.getfield 84, 3) := by decide +kernel
theorem dX9_copy_77 : decode cX9_copy 77 = .ok (.invokevirtual 87, 3) := by decide +kernel
theorem dX9_copy_80 : decode cX9_copy 80 = .ok (.aload_n 0, 1) := by decide +kernel
theorem dX9_copy_81 : decode cX9_copy 81 = .ok (.getfield 57, 3) := by decide +kernel
theorem dX9_copy_84 : decode cX9_copy 84 = .ok (.aload_n 1, 1) := by decide +kernel
theorem dX9_copy_85 : decode cX9_copy 85 = .ok (.getfield 57, 3) := by decide +kernel
theorem dX9_copy_88 : decode cX9_copy 88 = .ok (.getfield 84, 3) := by decide +kernel
theorem dX9_copy_91 : decode cX9_copy 91 = .ok (.invokevirtual 87, 3) := by decide +kernel
theorem dX9_copy_94 : decode cX9_copy 94 = .ok (.aload_n 0, 1) := by decide +kernel
theorem dX9_copy_95 : decode cX9_copy 95 = .ok (.getfield 60, 3) := by decide +kernel
theorem dX9_copy_98 : decode cX9_copy 98 = .ok (.aload_n 1, 1) := by decide +kernel
theorem dX9_copy_99 : decode cX9_copy 99 = .ok (.getfield 60, 3) := by decide +kernel
theorem dX9_copy_102 : decode cX9_copy 102 = .ok (.invokevirtual 81, 3) := by decide +kernel
theorem dX9_copy_105 : decode cX9_copy 105 = .ok (.aload_n 0, 1) := by decide +kernel
theorem dX9_copy_106 : decode cX9_copy 106 = .ok (.getfield 63, 3) := by decide +kernel
theorem dX9_copy_109 : decode cX9_copy 109 = .ok (.aload_n 1, 1) := by decide +kernel
theorem dX9_copy_110 : decode cX9_copy 110 = .ok (.getfield 63, 3) := by decide +kernel
theorem dX9_copy_113 : decode cX9_copy 113 = .ok (.invokevirtual 81, 3) := by decide +kernel
theorem dX9_copy_116 : decode cX9_copy 116 = .ok (.aload_n 0, 1) := by decide +kernel
theorem dX9_copy_117 : decode cX9_copy 117 = .ok (.aload_n 1, 1) := by decide +kernel
theorem dX9_copy_118 : decode cX9_copy 118 = .ok (.getfield 90, 3) := by decide +kernel
theorem dX9_copy_121 : decode cX9_copy 121 = .ok (.putfield 90, 3) := by decide +kernel
theorem dX9_copy_124 : decode cX9_copy 124 = .ok (.aload_n 0, 1) := by decide +kernel
theorem dX9_copy_125 : decode cX9_copy 125 = .ok (.aload_n 1, 1) := by decide +kernel
theorem dX9_copy_126 : decode cX9_copy 126 = .ok (.getfield 93, 3) := by decide +kernel
theorem dX9_copy_129 : decode cX9_copy 129 = .ok (.putfield 93, 3) := by decide +kernel
theorem dX9_copy_132 : decode cX9_copy 132 = .ok (.aload_n 0, 1) := by decide +kernel
theorem dX9_copy_133 : decode cX9_copy 133 = .ok (.aload_n 1, 1) := by decide +kernel
theorem dX9_copy_134 : decode cX9_copy 134 = .ok (.getfield 96, 3) := by decide +kernel
theorem dX9_copy_137 : decode cX9_copy 137 = .ok (.putfield 96, 3) := by decide +kernel
theorem dX9_copy_140 : decode cX9_copy 140 = .ok (.aload_n 0, 1) := by decide +kernel
theorem dX9_copy_141 : decode cX9_copy 141 = .ok (.aload_n 1, 1) := by decide +kernel
theorem dX9_copy_142 : decode cX9_copy 142 = .ok (.getfield 70, 3) := by decide +kernel
theorem dX9_copy_145 : decode cX9_copy 145 = .ok (.putfield 70, 3) := by decide +kernel
theorem dX9_copy_148 : decode cX9_copy 148 = .ok (.return_, 1) := by decide +kernel
theorem dX9_addPair_0 : decode cX9_addPair 0 = .ok (.aload_n 0, 1) := by decide +kernel
theorem dX9_addPair_1 : decode cX9_addPair 1 = .ok (.getfield 30, 3) := by decide +kernel
theorem dX9_addPair_4 : decode cX9_addPair 4 = .ok (.iload_n 1, 1) := by decide +kernel
theorem dX9_addPair_5 : decode cX9_addPair 5 = .ok (.invokevirtual 99, 3) := by decide +kernel
theorem dX9_addPair_8 : decode cX9_addPair 8 = .ok (.aload_n 0, 1) := by decide +kernel
theorem dX9_addPair_9 : decode cX9_addPair 9 = .ok (.getfield 34, 3) := by decide +kernel
theorem dX9_addPair_12 : decode cX9_addPair 12 = .ok (.iload_n 2, 1) := by decide +kernel
theorem dX9_addPair_13 : decode cX9_addPair 13 = .ok (.invokevirtual 99, 3) := by decide +kernel
theorem dX9_addPair_16 : decode cX9_addPair 16 = .ok (.aload_n 0, 1) := by decide +kernel
theorem dX9_addPair_17 : decode cX9_addPair 17 = .ok (.getfield 37, 3) := by decide +kernel
theorem dX9_addPair_20 : decode cX9_addPair 20 = .ok (.iload_n 3, 1) := by decide +kernel
theorem dX9_addPair_21 : decode cX9_addPair 21 = .ok (.invokevirtual 99, 3) := by decide +kernel
theorem dX9_addPair_24 : decode cX9_addPair 24 = .ok (.aload_n 0, 1) := by decide +kernel
theorem dX9_addPair_25 : decode cX9_addPair 25 = .ok (.getfield 37, 3) := by decide +kernel
theorem dX9_addPair_28 : decode cX9_addPair 28 = .ok (.invokevirtual 102, 3) := by decide +kernel
theorem dX9_addPair_31 : decode cX9_addPair 31 = .ok (.iconst 1, 1) := by decide +kernel
theorem dX9_addPair_32 : decode cX9_addPair 32 = .ok (.isub, 1) := by decide +kernel
theorem dX9_addPair_33 : decode cX9_addPair 33 = .ok (.ireturn, 1) := by decide +kernel
theorem dX9_bonusOwner_0 : decode cX9_bonusOwner 0 = .ok (.aload_n 0, 1) := by decide +kernel
theorem dX9_bonusOwner_1 : decode cX9_bonusOwner 1 = .ok (.getfield 30, 3) := by decide +kernel
theorem dX9_bonusOwner_4 : decode cX9_bonusOwner 4 = .ok (.iload_n 1, 1) := by decide +kernel
theorem dX9_bonusOwner_5 : decode cX9_bonusOwner 5 = .ok (.invokevirtual 106, 3) := by decide +kernel
theorem dX9_bonusOwner_8 : decode cX9_bonusOwner 8 = .ok (.istore_n 2, 1) := by decide +kernel
theorem dX9_bonusOwner_9 : decode cX9_bonusOwner 9 = .ok (.aload_n 0, 1) := by decide +kernel
theorem dX9_bonusOwner_10 : decode cX9_bonusOwner 10 = .ok (.getfield 34, 3) := by decide +kernel
theorem dX9_bonusOwner_13 : decode cX9_bonusOwner 13 = .ok (.iload_n 1, 1) := by decide +kernel
theorem dX9_bonusOwner_14 : decode cX9_bonusOwner 14 = .ok (.invokevirtual 106, 3) := by decide +kernel
theorem dX9_bonusOwner_17 : decode cX9_bonusOwner 17 = .ok (.istore_n 3, 1) := by decide +kernel
theorem dX9_bonusOwner_18 : decode cX9_bonusOwner 18 = .ok (.aload_n 0, 1) := by decide +kernel
theorem dX9_bonusOwner_19 : decode cX9_bonusOwner 19 = .ok (.getfield 21, 3) := by decide +kernel
theorem dX9_bonusOwner_22 : decode cX9_bonusOwner 22 = .ok (.getfield 110, 3) := by decide +kernel
theorem dX9_bonusOwner_25 : decode cX9_bonusOwner 25 = .ok (.iload_n 2, 1) := by decide +kernel
theorem dX9_bonusOwner_26 : decode cX9_bonusOwner 26 = .ok (.invokevirtual 106, 3) := by decide +kernel
theorem dX9_bonusOwner_29 : decode cX9_bonusOwner 29 = .ok (.bipush 50, 2) := by decide +kernel
theorem dX9_bonusOwner_31 : decode cX9_bonusOwner 31 = .ok (.if_icmp .lt 23, 3) := by decide +kernel
theorem dX9_bonusOwner_34 : decode cX9_bonusOwner 34 = .ok (.aload_n 0, 1) := by decide +kernel
theorem dX9_bonusOwner_35 : decode cX9_bonusOwner 35 = .ok (.getfield 21, 3) := by decide +kernel
theorem dX9_bonusOwner_38 : decode cX9_bonusOwner 38 = .ok (.getfield 110, 3) := by decide +kernel
theorem dX9_bonusOwner_41 : decode cX9_bonusOwner 41 = .ok (.iload_n 3, 1) := by decide +kernel
theorem dX9_bonusOwner_42 : decode cX9_bonusOwner 42 = .ok (.invokevirtual 106, 3) := by decide +kernel
theorem dX9_bonusOwner_45 : decode cX9_bonusOwner 45 = .ok (.bipush 50, 2) := by decide +kernel
theorem dX9_bonusOwner_47 : decode cX9_bonusOwner 47 = .ok (.if_icmp .lt 7, 3) := by decide +kernel
theorem dX9_bonusOwner_50 : decode cX9_bonusOwner 50 = .ok (.iconst 1, 1) := by decide +kernel
theorem dX9_bonusOwner_51 : decode cX9_bonusOwner 51 = .ok (.goto 4, 3) := by decide +kernel
theorem dX9_bonusOwner_54 : decode cX9_bonusOwner 54 = .ok (.iconst 0, 1) := by decide +kernel
theorem dX9_bonusOwner_55 : decode cX9_bonusOwner 55 = .ok (.istore 4, 2) := by decide +kernel
theorem dX9_bonusOwner_57 : decode cX9_bonusOwner 57 = .ok (.aload_n 0, 1) := by decide +kernel
theorem dX9_bonusOwner_58 : decode cX9_bonusOwner 58 = .ok (.getfield 21, 3) := by decide +kernel
theorem dX9_bonusOwner_61 : decode cX9_bonusOwner 61 = .ok (.getfield 113, 3) := by decide +kernel
theorem dX9_bonusOwner_64 : decode cX9_bonusOwner 64 = .ok (.iload_n 2, 1) := by decide +kernel
theorem dX9_bonusOwner_65 : decode cX9_bonusOwner 65 = .ok (.invokevirtual 106, 3) := by decide +kernel
theorem dX9_bonusOwner_68 : decode cX9_bonusOwner 68 = .ok (.istore 5, 2) := by decide +kernel
theorem dX9_bonusOwner_70 : decode cX9_bonusOwner 70 = .ok (.iload 4, 2) := by decide +kernel
theorem dX9_bonusOwner_72 : decode cX9_bonusOwner 72 = .ok (.ifCond .eq 24, 3) := by decide +kernel
theorem dX9_bonusOwner_75 : decode cX9_bonusOwner 75 = .ok (.iload 5, 2) := by decide +kernel
theorem dX9_bonusOwner_77 : decode cX9_bonusOwner 77 = .ok (.aload_n 0, 1) := by decide +kernel
theorem dX9_bonusOwner_78 : decode cX9_bonusOwner 78 = .ok (.getfield 21, 3) := by decide +kernel
theorem dX9_bonusOwner_81 : decode cX9_bonusOwner 81 = .ok (.getfield 113, 3) := by decide +kernel
theorem dX9_bonusOwner_84 : decode cX9_bonusOwner 84 = .ok (.iload_n 3, 1) := by decide +kernel
theorem dX9_bonusOwner_85 : decode cX9_bonusOwner 85 = .ok (.invokevirtual 106, 3) := by decide +kernel
theorem dX9_bonusOwner_88 : decode cX9_bonusOwner 88 = .ok (.if_icmp .ne 8, 3) := by decide +kernel
theorem dX9_bonusOwner_91 : decode cX9_bonusOwner 91 = .ok (.iload 5, 2) := by decide +kernel
theorem dX9_bonusOwner_93 : decode cX9_bonusOwner 93 = .ok (.goto 4, 3) := by decide +kernel
theorem dX9_bonusOwner_96 : decode cX9_bonusOwner 96 = .ok (.iconst (-1), 1) := by decide +kernel
theorem dX9_bonusOwner_97 : decode cX9_bonusOwner 97 = .ok (.ireturn, 1) := by decide +kernel
theorem dX9_lackedBy_0 : decode cX9_lackedBy 0 = .ok (.iconst 0, 1) := by decide +kernel
theorem dX9_lackedBy_1 : decode cX9_lackedBy 1 = .ok (.istore_n 2, 1) := by decide +kernel
theorem dX9_lackedBy_2 : decode cX9_lackedBy 2 = .ok (.iconst 0, 1) := by decide +kernel
theorem dX9_lackedBy_3 : decode cX9_lackedBy 3 = .ok (.istore_n 3, 1) := by decide +kernel
theorem dX9_lackedBy_4 : decode cX9_lackedBy 4 = .ok (.iload_n 3, 1) := by decide +kernel
theorem dX9_lackedBy_5 : decode cX9_lackedBy 5 = .ok (.aload_n 0, 1) := by decide +kernel
theorem dX9_lackedBy_6 : decode cX9_lackedBy 6 = .ok (.getfield 37, 3) := by decide +kernel
theorem dX9_lackedBy_9 : decode cX9_lackedBy 9 = .ok (.invokevirtual 102, 3) := by decide +kernel
theorem dX9_lackedBy_12 : decode cX9_lackedBy 12 = .ok (.if_icmp .ge 84, 3) := by decide +kernel
theorem dX9_lackedBy_15 : decode cX9_lackedBy 15 = .ok (.aload_n 0, 1) := by decide +kernel
theorem dX9_lackedBy_16 : decode cX9_lackedBy 16 = .ok (.getfield 21, 3) := by decide +kernel
theorem dX9_lackedBy_19 : decode cX9_lackedBy 19 = .ok (.getfield 113, 3) := by decide +kernel
theorem dX9_lackedBy_22 : decode cX9_lackedBy 22 = .ok (.aload_n 0, 1) := by decide +kernel
theorem dX9_lackedBy_23 : decode cX9_lackedBy 23 = .ok (.getfield 30, 3) := by decide +kernel
theorem dX9_lackedBy_26 : decode cX9_lackedBy 26 = .ok (.iload_n 3, 1) := by decide +kernel
theorem dX9_lackedBy_27 : decode cX9_lackedBy 27 = .ok (.invokevirtual 106, 3) := by decide +kernel
theorem dX9_lackedBy_30 : decode cX9_lackedBy 30 = .ok (.invokevirtual 106, 3) := by decide +kernel
theorem dX9_lackedBy_33 : decode cX9_lackedBy 33 = .ok (.iload_n 1, 1) := by decide +kernel
theorem dX9_lackedBy_34 : decode cX9_lackedBy 34 = .ok (.if_icmp .ne 7, 3) := by decide +kernel
theorem dX9_lackedBy_37 : decode cX9_lackedBy 37 = .ok (.iconst 1, 1) := by decide +kernel
theorem dX9_lackedBy_38 : decode cX9_lackedBy 38 = .ok (.goto 4, 3) := by decide +kernel
theorem dX9_lackedBy_41 : decode cX9_lackedBy 41 = .ok (.iconst 0, 1) := by decide +kernel
theorem dX9_lackedBy_42 : decode cX9_lackedBy 42 = .ok (.istore 4, 2) := by decide +kernel
theorem dX9_lackedBy_44 : decode cX9_lackedBy 44 = .ok (.aload_n 0, 1) := by decide +kernel
theorem dX9_lackedBy_45 : decode cX9_lackedBy 45 = .ok (.getfield 21, 3) := by decide +kernel
theorem dX9_lackedBy_48 : decode cX9_lackedBy 48 = .ok (.getfield 113, 3) := by decide +kernel
theorem dX9_lackedBy_51 : decode cX9_lackedBy 51 = .ok (.aload_n 0, 1) := by decide +kernel
theorem dX9_lackedBy_52 : decode cX9_lackedBy 52 = .ok (.getfield 34, 3) := by decide +kernel
theorem dX9_lackedBy_55 : decode cX9_lackedBy 55 = .ok (.iload_n 3, 1) := by decide +kernel
theorem dX9_lackedBy_56 : decode cX9_lackedBy 56 = .ok (.invokevirtual 106, 3) := by decide +kernel
theorem dX9_lackedBy_59 : decode cX9_lackedBy 59 = .ok (.invokevirtual 106, 3) := by decide +kernel
theorem dX9_lackedBy_62 : decode cX9_lackedBy 62 = .ok (.iload_n 1, 1) := by decide +kernel
theorem dX9_lackedBy_63 : decode cX9_lackedBy 63 = .ok (.if_icmp .ne 7, 3) := by decide +kernel
theorem dX9_lackedBy_66 : decode cX9_lackedBy 66 = .ok (.iconst 1, 1) := by decide +kernel
theorem dX9_lackedBy_67 : decode cX9_lackedBy 67 = .ok (.goto 4, 3) := by decide +kernel
theorem dX9_lackedBy_70 : decode cX9_lackedBy 70 = .ok (.iconst 0, 1) := by decide +kernel
theorem dX9_lackedBy_71 : decode cX9_lackedBy 71 = .ok (.istore 5, 2) := by decide +kernel
theorem dX9_lackedBy_73 : decode cX9_lackedBy 73 = .ok (.iload_n 2, 1) := by decide +kernel
theorem dX9_lackedBy_74 : decode cX9_lackedBy 74 = .ok (.iload 4, 2) := by decide +kernel
theorem dX9_lackedBy_76 : decode cX9_lackedBy 76 = .ok (.iload 5, 2) := by decide +kernel
theorem dX9_lackedBy_78 : decode cX9_lackedBy 78 = .ok (.if_icmp .eq 9, 3) := by decide +kernel
theorem dX9_lackedBy_81 : decode cX9_lackedBy 81 = .ok (.iconst 1, 1) := by decide +kernel
theorem dX9_lackedBy_82 : decode cX9_lackedBy 82 = .ok (.iload_n 3, 1) := by decide +kernel
theorem dX9_lackedBy_83 : decode cX9_lackedBy 83 = .ok (.ishl, 1) := by decide +kernel
theorem dX9_lackedBy_84 : decode cX9_lackedBy 84 = .ok (.goto 4, 3) := by decide +kernel
theorem dX9_lackedBy_87 : decode cX9_lackedBy 87 = .ok (.iconst 0, 1) := by decide +kernel
theorem dX9_lackedBy_88 : decode cX9_lackedBy 88 = .ok (.ior, 1) := by decide +kernel
theorem dX9_lackedBy_89 : decode cX9_lackedBy 89 = .ok (.istore_n 2, 1) := by decide +kernel
theorem dX9_lackedBy_90 : decode cX9_lackedBy 90 = .ok (.iinc 3 1, 3) := by decide +kernel
theorem dX9_lackedBy_93 : decode cX9_lackedBy 93 = .ok (.goto (-89), 3) := by decide +kernel
theorem dX9_lackedBy_96 : decode cX9_lackedBy 96 = .ok (.iload_n 2, 1) := by decide +kernel
theorem dX9_lackedBy_97 : decode cX9_lackedBy 97 = .ok (.ireturn, 1) := by decide +kernel
theorem dX9_fondestOf_0 : decode cX9_fondestOf 0 = .ok (.iconst 0, 1) := by decide +kernel
theorem dX9_fondestOf_1 : decode cX9_fondestOf 1 = .ok (.istore_n 2, 1) := by decide +kernel
theorem dX9_fondestOf_2 : decode cX9_fondestOf 2 = .ok (.iconst 1, 1) := by decide +kernel
theorem dX9_fondestOf_3 : decode cX9_fondestOf 3 = .ok (.istore_n 3, 1) := by decide +kernel
theorem dX9_fondestOf_4 : decode cX9_fondestOf 4 = .ok (.iload_n 3, 1) := by decide +kernel
theorem dX9_fondestOf_5 : decode cX9_fondestOf 5 = .ok (.aload_n 0, 1) := by decide +kernel
theorem dX9_fondestOf_6 : decode cX9_fondestOf 6 = .ok (.getfield 12, 3) := by decide +kernel
theorem dX9_fondestOf_9 : decode cX9_fondestOf 9 = .ok (.invokevirtual 116, 3) := by decide +kernel
theorem dX9_fondestOf_12 : decode cX9_fondestOf 12 = .ok (.if_icmp .ge 32, 3) := by decide +kernel
theorem dX9_fondestOf_15 : decode cX9_fondestOf 15 = .ok (.aload_n 0, 1) := by decide +kernel
theorem dX9_fondestOf_16 : decode cX9_fondestOf 16 = .ok (.getfield 21, 3) := by decide +kernel
theorem dX9_fondestOf_19 : decode cX9_fondestOf 19 = .ok (.iload_n 3, 1) := by decide +kernel
theorem dX9_fondestOf_20 : decode cX9_fondestOf 20 = .ok (.iload_n 1, 1) := by decide +kernel
theorem dX9_fondestOf_21 : decode cX9_fondestOf 21 = .ok (.invokevirtual 117, 3) := by decide +kernel
theorem dX9_fondestOf_24 : decode cX9_fondestOf 24 = .ok (.aload_n 0, 1) := by decide +kernel
theorem dX9_fondestOf_25 : decode cX9_fondestOf 25 = .ok (.getfield 21, 3) := by decide +kernel
theorem dX9_fondestOf_28 : decode cX9_fondestOf 28 = .ok (.iload_n 2, 1) := by decide +kernel
theorem dX9_fondestOf_29 : decode cX9_fondestOf 29 = .ok (.iload_n 1, 1) := by decide +kernel
theorem dX9_fondestOf_30 : decode cX9_fondestOf 30 = .ok (.invokevirtual 117, 3) := by decide +kernel
theorem dX9_fondestOf_33 : decode cX9_fondestOf 33 = .ok (.if_icmp .le 5, 3) := by decide +kernel
theorem dX9_fondestOf_36 : decode cX9_fondestOf 36 = .ok (.iload_n 3, 1) := by decide +kernel
theorem dX9_fondestOf_37 : decode cX9_fondestOf 37 = .ok (.istore_n 2, 1) := by decide +kernel
theorem dX9_fondestOf_38 : decode cX9_fondestOf 38 = .ok (.iinc 3 1, 3) := by decide +kernel
theorem dX9_fondestOf_41 : decode cX9_fondestOf 41 = .ok (.goto (-37), 3) := by decide +kernel
theorem dX9_fondestOf_44 : decode cX9_fondestOf 44 = .ok (.iload_n 2, 1) := by decide +kernel
theorem dX9_fondestOf_45 : decode cX9_fondestOf 45 = .ok (.ireturn, 1) := by decide +kernel
theorem dX9_mostElse_0 : decode cX9_mostElse 0 = .ok (.aload_n 0, 1) := by decide +kernel
theorem dX9_mostElse_1 : decode cX9_mostElse 1 = .ok (.getfield 21, 3) := by decide +kernel
theorem dX9_mostElse_4 : decode cX9_mostElse 4 = .ok (.getfield 113, 3) := by decide +kernel
theorem dX9_mostElse_7 : decode cX9_mostElse 7 = .ok (.iload_n 1, 1) := by decide +kernel
theorem dX9_mostElse_8 : decode cX9_mostElse 8 = .ok (.invokevirtual 106, 3) := by decide +kernel
theorem dX9_mostElse_11 : decode cX9_mostElse 11 = .ok (.istore_n 2, 1) := by decide +kernel
theorem dX9_mostElse_12 : decode cX9_mostElse 12 = .ok (.iconst 0, 1) := by decide +kernel
theorem dX9_mostElse_13 : decode cX9_mostElse 13 = .ok (.istore_n 3, 1) := by decide +kernel
theorem dX9_mostElse_14 : decode cX9_mostElse 14 = .ok (.iconst 0, 1) := by decide +kernel
theorem dX9_mostElse_15 : decode cX9_mostElse 15 = .ok (.istore 4, 2) := by decide +kernel
theorem dX9_mostElse_17 : decode cX9_mostElse 17 = .ok (.iload 4, 2) := by decide +kernel
theorem dX9_mostElse_19 : decode cX9_mostElse 19 = .ok (.aload_n 0, 1) := by decide +kernel
theorem dX9_mostElse_20 : decode cX9_mostElse 20 = .ok (.getfield 12, 3) := by decide +kernel
theorem dX9_mostElse_23 : decode cX9_mostElse 23 = .ok (.invokevirtual 116, 3) := by decide +kernel
theorem dX9_mostElse_26 : decode cX9_mostElse 26 = .ok (.if_icmp .ge 30, 3) := by decide +kernel
theorem dX9_mostElse_29 : decode cX9_mostElse 29 = .ok (.iload 4, 2) := by decide +kernel
theorem dX9_mostElse_31 : decode cX9_mostElse 31 = .ok (.iload_n 2, 1) := by decide +kernel
theorem dX9_mostElse_32 : decode cX9_mostElse 32 = .ok (.if_icmp .eq 18, 3) := by decide +kernel
theorem dX9_mostElse_35 : decode cX9_mostElse 35 = .ok (.iload_n 3, 1) := by decide +kernel
theorem dX9_mostElse_36 : decode cX9_mostElse 36 = .ok (.aload_n 0, 1) := by decide +kernel
theorem dX9_mostElse_37 : decode cX9_mostElse 37 = .ok (.getfield 21, 3) := by decide +kernel
theorem dX9_mostElse_40 : decode cX9_mostElse 40 = .ok (.iload 4, 2) := by decide +kernel
theorem dX9_mostElse_42 : decode cX9_mostElse 42 = .ok (.iload_n 1, 1) := by decide +kernel
theorem dX9_mostElse_43 : decode cX9_mostElse 43 = .ok (.invokevirtual 117, 3) := by decide +kernel
theorem dX9_mostElse_46 : decode cX9_mostElse 46 = .ok (.invokestatic 121, 3) := by decide +kernel
theorem dX9_mostElse_49 : decode cX9_mostElse 49 = .ok (.istore_n 3, 1) := by decide +kernel
theorem dX9_mostElse_50 : decode cX9_mostElse 50 = .ok (.iinc 4 1, 3) := by decide +kernel
theorem dX9_mostElse_53 : decode cX9_mostElse 53 = .ok (.goto (-36), 3) := by decide +kernel
theorem dX9_mostElse_56 : decode cX9_mostElse 56 = .ok (.iload_n 3, 1) := by decide +kernel
theorem dX9_mostElse_57 : decode cX9_mostElse 57 = .ok (.ireturn, 1) := by decide +kernel
theorem dX9_nameFor_0 : decode cX9_nameFor 0 = .ok (.aload_n 0, 1) := by decide +kernel
theorem dX9_nameFor_1 : decode cX9_nameFor 1 = .ok (.getfield 21, 3) := by decide +kernel
theorem dX9_nameFor_4 : decode cX9_nameFor 4 = .ok (.getfield 113, 3) := by decide +kernel
theorem dX9_nameFor_7 : decode cX9_nameFor 7 = .ok (.iload_n 1, 1) := by decide +kernel
theorem dX9_nameFor_8 : decode cX9_nameFor 8 = .ok (.invokevirtual 106, 3) := by decide +kernel
theorem dX9_nameFor_11 : decode cX9_nameFor 11 = .ok (.istore_n 2, 1) := by decide +kernel
theorem dX9_nameFor_12 : decode cX9_nameFor 12 = .ok (.aload_n 0, 1) := by decide +kernel
theorem dX9_nameFor_13 : decode cX9_nameFor 13 = .ok (.getfield 21, 3) := by decide +kernel
theorem dX9_nameFor_16 : decode cX9_nameFor 16 = .ok (.iload_n 2, 1) := by decide +kernel
theorem dX9_nameFor_17 : decode cX9_nameFor 17 = .ok (.iload_n 1, 1) := by decide +kernel
theorem dX9_nameFor_18 : decode cX9_nameFor 18 = .ok (.invokevirtual 117, 3) := by decide +kernel
theorem dX9_nameFor_21 : decode cX9_nameFor 21 = .ok (.istore_n 3, 1) := by decide +kernel
theorem dX9_nameFor_22 : decode cX9_nameFor 22 = .ok (.aload_n 0, 1) := by decide +kernel
theorem dX9_nameFor_23 : decode cX9_nameFor 23 = .ok (.getfield 12, 3) := by decide +kernel
theorem dX9_nameFor_26 : decode cX9_nameFor 26 = .ok (.getfield 126, 3) := by decide +kernel
theorem dX9_nameFor_29 : decode cX9_nameFor 29 = .ok (.iload_n 2, 1) := by decide +kernel
theorem dX9_nameFor_30 : decode cX9_nameFor 30 = .ok (.invokevirtual 106, 3) := by decide +kernel
theorem dX9_nameFor_33 : decode cX9_nameFor 33 = .ok (.tableswitch 100 0 5 #[39, 51, 53, 63, 67, 79], 39) := by decide +kernel
theorem dX9_nameFor_72 : decode cX9_nameFor 72 = .ok (.aload_n 0, 1) := by decide +kernel
theorem dX9_nameFor_73 : decode cX9_nameFor 73 = .ok (.getfield 21, 3) := by decide +kernel
theorem dX9_nameFor_76 : decode cX9_nameFor 76 = .ok (.getfield 129, 3) := by decide +kernel
theorem dX9_nameFor_79 : decode cX9_nameFor 79 = .ok (.iload_n 1, 1) := by decide +kernel
theorem dX9_nameFor_80 : decode cX9_nameFor 80 = .ok (.invokevirtual 106, 3) := by decide +kernel
theorem dX9_nameFor_83 : decode cX9_nameFor 83 = .ok (.ireturn, 1) := by decide +kernel
theorem dX9_nameFor_84 : decode cX9_nameFor 84 = .ok (.iload_n 3, 1) := by decide +kernel
theorem dX9_nameFor_85 : decode cX9_nameFor 85 = .ok (.ireturn, 1) := by decide +kernel
theorem dX9_nameFor_86 : decode cX9_nameFor 86 = .ok (.iload_n 3, 1) := by decide +kernel
theorem dX9_nameFor_87 : decode cX9_nameFor 87 = .ok (.iconst 2, 1) := by decide +kernel
theorem dX9_nameFor_88 : decode cX9_nameFor 88 = .ok (.imul, 1) := by decide +kernel
theorem dX9_nameFor_89 : decode cX9_nameFor 89 = .ok (.sipush 9999, 3) := by decide +kernel
theorem dX9_nameFor_92 : decode cX9_nameFor 92 = .ok (.invokestatic 132, 3) := by decide +kernel
theorem dX9_nameFor_95 : decode cX9_nameFor 95 = .ok (.ireturn, 1) := by decide +kernel
theorem dX9_nameFor_96 : decode cX9_nameFor 96 = .ok (.iload_n 3, 1) := by decide +kernel
theorem dX9_nameFor_97 : decode cX9_nameFor 97 = .ok (.iconst 2, 1) := by decide +kernel
theorem dX9_nameFor_98 : decode cX9_nameFor 98 = .ok (.idiv, 1) := by decide +kernel
theorem dX9_nameFor_99 : decode cX9_nameFor 99 = .ok (.ireturn, 1) := by decide +kernel
theorem dX9_nameFor_100 : decode cX9_nameFor 100 = .ok (.aload_n 0, 1) := by decide +kernel
theorem dX9_nameFor_101 : decode cX9_nameFor 101 = .ok (.iload_n 1, 1) := by decide +kernel
theorem dX9_nameFor_102 : decode cX9_nameFor 102 = .ok (.invokevirtual 135, 3) := by decide +kernel
theorem dX9_nameFor_105 : decode cX9_nameFor 105 = .ok (.iconst 1, 1) := by decide +kernel
theorem dX9_nameFor_106 : decode cX9_nameFor 106 = .ok (.isub, 1) := by decide +kernel
theorem dX9_nameFor_107 : decode cX9_nameFor 107 = .ok (.iconst 0, 1) := by decide +kernel
theorem dX9_nameFor_108 : decode cX9_nameFor 108 = .ok (.invokestatic 121, 3) := by decide +kernel
theorem dX9_nameFor_111 : decode cX9_nameFor 111 = .ok (.ireturn, 1) := by decide +kernel
theorem dX9_nameFor_112 : decode cX9_nameFor 112 = .ok (.aload_n 0, 1) := by decide +kernel
theorem dX9_nameFor_113 : decode cX9_nameFor 113 = .ok (.getfield 53, 3) := by decide +kernel
theorem dX9_nameFor_116 : decode cX9_nameFor 116 = .ok (.invokevirtual 138, 3) := by decide +kernel
theorem dX9_nameFor_119 : decode cX9_nameFor 119 = .ok (.ifCond .eq 12, 3) := by decide +kernel
theorem dX9_nameFor_122 : decode cX9_nameFor 122 = .ok (.aload_n 0, 1) := by decide +kernel
theorem dX9_nameFor_123 : decode cX9_nameFor 123 = .ok (.iload_n 1, 1) := by decide +kernel
theorem dX9_nameFor_124 : decode cX9_nameFor 124 = .ok (.iload_n 3, 1) := by decide +kernel
theorem dX9_nameFor_125 : decode cX9_nameFor 125 = .ok (.invokevirtual 142, 3) := by decide +kernel
theorem dX9_nameFor_128 : decode cX9_nameFor 128 = .ok (.goto 4, 3) := by decide +kernel
theorem dX9_nameFor_131 : decode cX9_nameFor 131 = .ok (.iload_n 3, 1) := by decide +kernel
theorem dX9_nameFor_132 : decode cX9_nameFor 132 = .ok (.ireturn, 1) := by decide +kernel
theorem dX9_nameFor_133 : decode cX9_nameFor 133 = .ok (.aload_n 0, 1) := by decide +kernel
theorem dX9_nameFor_134 : decode cX9_nameFor 134 = .ok (.getfield 66, 3) := by decide +kernel
theorem dX9_nameFor_137 : decode cX9_nameFor 137 = .ok (.aload_n 0, 1) := by decide +kernel
theorem dX9_nameFor_138 : decode cX9_nameFor 138 = .ok (.iload_n 1, 1) := by decide +kernel
theorem dX9_nameFor_139 : decode cX9_nameFor 139 = .ok (.invokevirtual 145, 3) := by decide +kernel
theorem dX9_nameFor_142 : decode cX9_nameFor 142 = .ok (.aload_n 0, 1) := by decide +kernel
theorem dX9_nameFor_143 : decode cX9_nameFor 143 = .ok (.getfield 66, 3) := by decide +kernel
theorem dX9_nameFor_146 : decode cX9_nameFor 146 = .ok (.aload_n 0, 1) := by decide +kernel
theorem dX9_nameFor_147 : decode cX9_nameFor 147 = .ok (.getfield 40, 3) := by decide +kernel
theorem dX9_nameFor_150 : decode cX9_nameFor 150 = .ok (.iconst 0, 1) := by decide +kernel
theorem dX9_nameFor_151 : decode cX9_nameFor 151 = .ok (.invokevirtual 106, 3) := by decide +kernel
theorem dX9_nameFor_154 : decode cX9_nameFor 154 = .ok (.invokevirtual 151, 3) := by decide +kernel
theorem dX9_nameFor_157 : decode cX9_nameFor 157 = .ok (.ireturn, 1) := by decide +kernel
theorem dX9_nameByText_0 : decode cX9_nameByText 0 = .ok (.aload_n 0, 1) := by decide +kernel
theorem dX9_nameByText_1 : decode cX9_nameByText 1 = .ok (.getfield 53, 3) := by decide +kernel
theorem dX9_nameByText_4 : decode cX9_nameByText 4 = .ok (.iconst 0, 1) := by decide +kernel
theorem dX9_nameByText_5 : decode cX9_nameByText 5 = .ok (.iload_n 2, 1) := by decide +kernel
theorem dX9_nameByText_6 : decode cX9_nameByText 6 = .ok (.invokevirtual 154, 3) := by decide +kernel
theorem dX9_nameByText_9 : decode cX9_nameByText 9 = .ok (.aload_n 0, 1) := by decide +kernel
theorem dX9_nameByText_10 : decode cX9_nameByText 10 = .ok (.getfield 53, 3) := by decide +kernel
theorem dX9_nameByText_13 : decode cX9_nameByText 13 = .ok (.iconst 1, 1) := by decide +kernel
theorem dX9_nameByText_14 : decode cX9_nameByText 14 = .ok (.aload_n 0, 1) := by decide +kernel
theorem dX9_nameByText_15 : decode cX9_nameByText 15 = .ok (.iload_n 1, 1) := by decide +kernel
theorem dX9_nameByText_16 : decode cX9_nameByText 16 = .ok (.invokevirtual 135, 3) := by decide +kernel
theorem dX9_nameByText_19 : decode cX9_nameByText 19 = .ok (.invokevirtual 154, 3) := by decide +kernel
theorem dX9_nameByText_22 : decode cX9_nameByText 22 = .ok (.aload_n 0, 1) := by decide +kernel
theorem dX9_nameByText_23 : decode cX9_nameByText 23 = .ok (.getfield 53, 3) := by decide +kernel
theorem dX9_nameByText_26 : decode cX9_nameByText 26 = .ok (.iconst 2, 1) := by decide +kernel
theorem dX9_nameByText_27 : decode cX9_nameByText 27 = .ok (.aload_n 0, 1) := by decide +kernel
theorem dX9_nameByText_28 : decode cX9_nameByText 28 = .ok (.getfield 21, 3) := by decide +kernel
theorem dX9_nameByText_31 : decode cX9_nameByText 31 = .ok (.getfield 129, 3) := by decide +kernel
theorem dX9_nameByText_34 : decode cX9_nameByText 34 = .ok (.iload_n 1, 1) := by decide +kernel
theorem dX9_nameByText_35 : decode cX9_nameByText 35 = .ok (.invokevirtual 106, 3) := by decide +kernel
theorem dX9_nameByText_38 : decode cX9_nameByText 38 = .ok (.invokevirtual 154, 3) := by decide +kernel
theorem dX9_nameByText_41 : decode cX9_nameByText 41 = .ok (.aload_n 0, 1) := by decide +kernel
theorem dX9_nameByText_42 : decode cX9_nameByText 42 = .ok (.getfield 53, 3) := by decide +kernel
theorem dX9_nameByText_45 : decode cX9_nameByText 45 = .ok (.iconst 3, 1) := by decide +kernel
theorem dX9_nameByText_46 : decode cX9_nameByText 46 = .ok (.aload_n 0, 1) := by decide +kernel
theorem dX9_nameByText_47 : decode cX9_nameByText 47 = .ok (.getfield 40, 3) := by decide +kernel
theorem dX9_nameByText_50 : decode cX9_nameByText 50 = .ok (.iconst 0, 1) := by decide +kernel
theorem dX9_nameByText_51 : decode cX9_nameByText 51 = .ok (.invokevirtual 106, 3) := by decide +kernel
theorem dX9_nameByText_54 : decode cX9_nameByText 54 = .ok (.invokevirtual 154, 3) := by decide +kernel
theorem dX9_nameByText_57 : decode cX9_nameByText 57 = .ok (.aload_n 0, 1) := by decide +kernel
theorem dX9_nameByText_58 : decode cX9_nameByText 58 = .ok (.getfield 53, 3) := by decide +kernel
theorem dX9_nameByText_61 : decode cX9_nameByText 61 = .ok (.iconst 4, 1) := by decide +kernel
theorem dX9_nameByText_62 : decode cX9_nameByText 62 = .ok (.aload_n 0, 1) := by decide +kernel
theorem dX9_nameByText_63 : decode cX9_nameByText 63 = .ok (.getfield 90, 3) := by decide +kernel
theorem dX9_nameByText_66 : decode cX9_nameByText 66 = .ok (.invokevirtual 154, 3) := by decide +kernel
theorem dX9_nameByText_69 : decode cX9_nameByText 69 = .ok (.iconst 0, 1) := by decide +kernel
theorem dX9_nameByText_70 : decode cX9_nameByText 70 = .ok (.aload_n 0, 1) := by decide +kernel
theorem dX9_nameByText_71 : decode cX9_nameByText 71 = .ok (.getfield 53, 3) := by decide +kernel
theorem dX9_nameByText_74 : decode cX9_nameByText 74 = .ok (.invokevirtual 157, 3) := by decide +kernel
theorem dX9_nameByText_77 : decode cX9_nameByText 77 = .ok (.sipush 9999, 3) := by decide +kernel
theorem dX9_nameByText_80 : decode cX9_nameByText 80 = .ok (.invokestatic 132, 3) := by decide +kernel
theorem dX9_nameByText_83 : decode cX9_nameByText 83 = .ok (.invokestatic 121, 3) := by decide +kernel
theorem dX9_nameByText_86 : decode cX9_nameByText 86 = .ok (.ireturn, 1) := by decide +kernel
theorem dX9_wouldMend_0 : decode cX9_wouldMend 0 = .ok (.aload_n 0, 1) := by decide +kernel
theorem dX9_wouldMend_1 : decode cX9_wouldMend 1 = .ok (.getfield 12, 3) := by decide +kernel
theorem dX9_wouldMend_4 : decode cX9_wouldMend 4 = .ok (.getfield 160, 3) := by decide +kernel
theorem dX9_wouldMend_7 : decode cX9_wouldMend 7 = .ok (.aload_n 0, 1) := by decide +kernel
theorem dX9_wouldMend_8 : decode cX9_wouldMend 8 = .ok (.getfield 21, 3) := by decide +kernel
theorem dX9_wouldMend_11 : decode cX9_wouldMend 11 = .ok (.getfield 113, 3) := by decide +kernel
theorem dX9_wouldMend_14 : decode cX9_wouldMend 14 = .ok (.iload_n 1, 1) := by decide +kernel
theorem dX9_wouldMend_15 : decode cX9_wouldMend 15 = .ok (.invokevirtual 106, 3) := by decide +kernel
theorem dX9_wouldMend_18 : decode cX9_wouldMend 18 = .ok (.invokevirtual 106, 3) := by decide +kernel
theorem dX9_wouldMend_21 : decode cX9_wouldMend 21 = .ok (.istore_n 2, 1) := by decide +kernel
theorem dX9_wouldMend_22 : decode cX9_wouldMend 22 = .ok (.aload_n 0, 1) := by decide +kernel
theorem dX9_wouldMend_23 : decode cX9_wouldMend 23 = .ok (.getfield 21, 3) := by decide +kernel
theorem dX9_wouldMend_26 : decode cX9_wouldMend 26 = .ok (.getfield 110, 3) := by decide +kernel
theorem dX9_wouldMend_29 : decode cX9_wouldMend 29 = .ok (.iload_n 1, 1) := by decide +kernel
theorem dX9_wouldMend_30 : decode cX9_wouldMend 30 = .ok (.invokevirtual 106, 3) := by decide +kernel
theorem dX9_wouldMend_33 : decode cX9_wouldMend 33 = .ok (.bipush 100, 2) := by decide +kernel
theorem dX9_wouldMend_35 : decode cX9_wouldMend 35 = .ok (.if_icmp .ge 15, 3) := by decide +kernel
theorem dX9_wouldMend_38 : decode cX9_wouldMend 38 = .ok (.iload_n 2, 1) := by decide +kernel
theorem dX9_wouldMend_39 : decode cX9_wouldMend 39 = .ok (.aload_n 0, 1) := by decide +kernel
theorem dX9_wouldMend_40 : decode cX9_wouldMend 40 = .ok (.getfield 40, 3) := by decide +kernel
theorem dX9_wouldMend_43 : decode cX9_wouldMend 43 = .ok (.iconst 4, 1) := by decide +kernel
theorem dX9_wouldMend_44 : decode cX9_wouldMend 44 = .ok (.invokevirtual 106, 3) := by decide +kernel
theorem dX9_wouldMend_47 : decode cX9_wouldMend 47 = .ok (.if_icmp .ge 5, 3) := by decide +kernel
theorem dX9_wouldMend_50 : decode cX9_wouldMend 50 = .ok (.iconst 0, 1) := by decide +kernel
theorem dX9_wouldMend_51 : decode cX9_wouldMend 51 = .ok (.ireturn, 1) := by decide +kernel
theorem dX9_wouldMend_52 : decode cX9_wouldMend 52 = .ok (.aload_n 0, 1) := by decide +kernel
theorem dX9_wouldMend_53 : decode cX9_wouldMend 53 = .ok (.getfield 21, 3) := by decide +kernel
theorem dX9_wouldMend_56 : decode cX9_wouldMend 56 = .ok (.aload_n 0, 1) := by decide +kernel
theorem dX9_wouldMend_57 : decode cX9_wouldMend 57 = .ok (.getfield 21, 3) := by decide +kernel
theorem dX9_wouldMend_60 : decode cX9_wouldMend 60 = .ok (.getfield 113, 3) := by decide +kernel
theorem dX9_wouldMend_63 : decode cX9_wouldMend 63 = .ok (.iload_n 1, 1) := by decide +kernel
theorem dX9_wouldMend_64 : decode cX9_wouldMend 64 = .ok (.invokevirtual 106, 3) := by decide +kernel
theorem dX9_wouldMend_67 : decode cX9_wouldMend 67 = .ok (.iload_n 1, 1) := by decide +kernel
theorem dX9_wouldMend_68 : decode cX9_wouldMend 68 = .ok (.invokevirtual 117, 3) := by decide +kernel
theorem dX9_wouldMend_71 : decode cX9_wouldMend 71 = .ok (.istore_n 3, 1) := by decide +kernel
theorem dX9_wouldMend_72 : decode cX9_wouldMend 72 = .ok (.aload_n 0, 1) := by decide +kernel
theorem dX9_wouldMend_73 : decode cX9_wouldMend 73 = .ok (.getfield 57, 3) := by decide +kernel
theorem dX9_wouldMend_76 : decode cX9_wouldMend 76 = .ok (.invokevirtual 138, 3) := by decide +kernel
theorem dX9_wouldMend_79 : decode cX9_wouldMend 79 = .ok (.ifCond .eq 12, 3) := by decide +kernel
theorem dX9_wouldMend_82 : decode cX9_wouldMend 82 = .ok (.aload_n 0, 1) := by decide +kernel
theorem dX9_wouldMend_83 : decode cX9_wouldMend 83 = .ok (.iload_n 1, 1) := by decide +kernel
theorem dX9_wouldMend_84 : decode cX9_wouldMend 84 = .ok (.iload_n 3, 1) := by decide +kernel
theorem dX9_wouldMend_85 : decode cX9_wouldMend 85 = .ok (.invokevirtual 163, 3) := by decide +kernel
theorem dX9_wouldMend_88 : decode cX9_wouldMend 88 = .ok (.goto 23, 3) := by decide +kernel
theorem dX9_wouldMend_91 : decode cX9_wouldMend 91 = .ok (.iload_n 3, 1) := by decide +kernel
theorem dX9_wouldMend_92 : decode cX9_wouldMend 92 = .ok (.bipush 10, 2) := by decide +kernel
theorem dX9_wouldMend_94 : decode cX9_wouldMend 94 = .ok (.idiv, 1) := by decide +kernel
theorem dX9_wouldMend_95 : decode cX9_wouldMend 95 = .ok (.aload_n 0, 1) := by decide +kernel
theorem dX9_wouldMend_96 : decode cX9_wouldMend 96 = .ok (.getfield 40, 3) := by decide +kernel
theorem dX9_wouldMend_99 : decode cX9_wouldMend 99 = .ok (.iconst 4, 1) := by decide +kernel
theorem dX9_wouldMend_100 : decode cX9_wouldMend 100 = .ok (.invokevirtual 106, 3) := by decide +kernel
theorem dX9_wouldMend_103 : decode cX9_wouldMend 103 = .ok (.if_icmp .lt 7, 3) := by decide +kernel
theorem dX9_wouldMend_106 : decode cX9_wouldMend 106 = .ok (.iconst 1, 1) := by decide +kernel
theorem dX9_wouldMend_107 : decode cX9_wouldMend 107 = .ok (.goto 4, 3) := by decide +kernel
theorem dX9_wouldMend_110 : decode cX9_wouldMend 110 = .ok (.iconst 0, 1) := by decide +kernel
theorem dX9_wouldMend_111 : decode cX9_wouldMend 111 = .ok (.ireturn, 1) := by decide +kernel
theorem dX9_mendByText_0 : decode cX9_mendByText 0 = .ok (.aload_n 0, 1) := by decide +kernel
theorem dX9_mendByText_1 : decode cX9_mendByText 1 = .ok (.getfield 57, 3) := by decide +kernel
theorem dX9_mendByText_4 : decode cX9_mendByText 4 = .ok (.iconst 0, 1) := by decide +kernel
theorem dX9_mendByText_5 : decode cX9_mendByText 5 = .ok (.iload_n 2, 1) := by decide +kernel
theorem dX9_mendByText_6 : decode cX9_mendByText 6 = .ok (.invokevirtual 154, 3) := by decide +kernel
theorem dX9_mendByText_9 : decode cX9_mendByText 9 = .ok (.aload_n 0, 1) := by decide +kernel
theorem dX9_mendByText_10 : decode cX9_mendByText 10 = .ok (.getfield 57, 3) := by decide +kernel
theorem dX9_mendByText_13 : decode cX9_mendByText 13 = .ok (.iconst 1, 1) := by decide +kernel
theorem dX9_mendByText_14 : decode cX9_mendByText 14 = .ok (.aload_n 0, 1) := by decide +kernel
theorem dX9_mendByText_15 : decode cX9_mendByText 15 = .ok (.getfield 21, 3) := by decide +kernel
theorem dX9_mendByText_18 : decode cX9_mendByText 18 = .ok (.getfield 110, 3) := by decide +kernel
theorem dX9_mendByText_21 : decode cX9_mendByText 21 = .ok (.iload_n 1, 1) := by decide +kernel
theorem dX9_mendByText_22 : decode cX9_mendByText 22 = .ok (.invokevirtual 106, 3) := by decide +kernel
theorem dX9_mendByText_25 : decode cX9_mendByText 25 = .ok (.invokevirtual 154, 3) := by decide +kernel
theorem dX9_mendByText_28 : decode cX9_mendByText 28 = .ok (.aload_n 0, 1) := by decide +kernel
theorem dX9_mendByText_29 : decode cX9_mendByText 29 = .ok (.getfield 57, 3) := by decide +kernel
theorem dX9_mendByText_32 : decode cX9_mendByText 32 = .ok (.iconst 2, 1) := by decide +kernel
theorem dX9_mendByText_33 : decode cX9_mendByText 33 = .ok (.aload_n 0, 1) := by decide +kernel
theorem dX9_mendByText_34 : decode cX9_mendByText 34 = .ok (.getfield 40, 3) := by decide +kernel
theorem dX9_mendByText_37 : decode cX9_mendByText 37 = .ok (.iconst 4, 1) := by decide +kernel
theorem dX9_mendByText_38 : decode cX9_mendByText 38 = .ok (.invokevirtual 106, 3) := by decide +kernel
theorem dX9_mendByText_41 : decode cX9_mendByText 41 = .ok (.invokevirtual 154, 3) := by decide +kernel
theorem dX9_mendByText_44 : decode cX9_mendByText 44 = .ok (.aload_n 0, 1) := by decide +kernel
theorem dX9_mendByText_45 : decode cX9_mendByText 45 = .ok (.getfield 57, 3) := by decide +kernel
theorem dX9_mendByText_48 : decode cX9_mendByText 48 = .ok (.iconst 3, 1) := by decide +kernel
theorem dX9_mendByText_49 : decode cX9_mendByText 49 = .ok (.aload_n 0, 1) := by decide +kernel
theorem dX9_mendByText_50 : decode cX9_mendByText 50 = .ok (.getfield 12, 3) := by decide +kernel
theorem dX9_mendByText_53 : decode cX9_mendByText 53 = .ok (.getfield 160, 3) := by decide +kernel
theorem dX9_mendByText_56 : decode cX9_mendByText 56 = .ok (.aload_n 0, 1) := by decide +kernel
theorem dX9_mendByText_57 : decode cX9_mendByText 57 = .ok (.getfield 21, 3) := by decide +kernel
theorem dX9_mendByText_60 : decode cX9_mendByText 60 = .ok (.getfield 113, 3) := by decide +kernel
theorem dX9_mendByText_63 : decode cX9_mendByText 63 = .ok (.iload_n 1, 1) := by decide +kernel
theorem dX9_mendByText_64 : decode cX9_mendByText 64 = .ok (.invokevirtual 106, 3) := by decide +kernel
theorem dX9_mendByText_67 : decode cX9_mendByText 67 = .ok (.invokevirtual 106, 3) := by decide +kernel
theorem dX9_mendByText_70 : decode cX9_mendByText 70 = .ok (.invokevirtual 154, 3) := by decide +kernel
theorem dX9_mendByText_73 : decode cX9_mendByText 73 = .ok (.aload_n 0, 1) := by decide +kernel
theorem dX9_mendByText_74 : decode cX9_mendByText 74 = .ok (.getfield 57, 3) := by decide +kernel
theorem dX9_mendByText_77 : decode cX9_mendByText 77 = .ok (.iconst 4, 1) := by decide +kernel
theorem dX9_mendByText_78 : decode cX9_mendByText 78 = .ok (.aload_n 0, 1) := by decide +kernel
theorem dX9_mendByText_79 : decode cX9_mendByText 79 = .ok (.getfield 40, 3) := by decide +kernel
theorem dX9_mendByText_82 : decode cX9_mendByText 82 = .ok (.iconst 0, 1) := by decide +kernel
theorem dX9_mendByText_83 : decode cX9_mendByText 83 = .ok (.invokevirtual 106, 3) := by decide +kernel
theorem dX9_mendByText_86 : decode cX9_mendByText 86 = .ok (.invokevirtual 154, 3) := by decide +kernel
theorem dX9_mendByText_89 : decode cX9_mendByText 89 = .ok (.aload_n 0, 1) := by decide +kernel
theorem dX9_mendByText_90 : decode cX9_mendByText 90 = .ok (.getfield 57, 3) := by decide +kernel
theorem dX9_mendByText_93 : decode cX9_mendByText 93 = .ok (.invokevirtual 157, 3) := by decide +kernel
theorem dX9_mendByText_96 : decode cX9_mendByText 96 = .ok (.ifCond .eq 7, 3) := by decide +kernel
theorem dX9_mendByText_99 : decode cX9_mendByText 99 = .ok (.iconst 1, 1) := by decide +kernel
theorem dX9_mendByText_100 : decode cX9_mendByText 100 = .ok (.goto 4, 3) := by decide +kernel
theorem dX9_mendByText_103 : decode cX9_mendByText 103 = .ok (.iconst 0, 1) := by decide +kernel
theorem dX9_mendByText_104 : decode cX9_mendByText 104 = .ok (.ireturn, 1) := by decide +kernel
theorem dX9_figure_0 : decode cX9_figure 0 = .ok (.iload_n 1, 1) := by decide +kernel
theorem dX9_figure_1 : decode cX9_figure 1 = .ok (.tableswitch 81 0 5 #[39, 44, 49, 60, 65, 70], 39) := by decide +kernel
theorem dX9_figure_40 : decode cX9_figure 40 = .ok (.aload_n 0, 1) := by decide +kernel
theorem dX9_figure_41 : decode cX9_figure 41 = .ok (.invokevirtual 167, 3) := by decide +kernel
theorem dX9_figure_44 : decode cX9_figure 44 = .ok (.ireturn, 1) := by decide +kernel
theorem dX9_figure_45 : decode cX9_figure 45 = .ok (.aload_n 0, 1) := by decide +kernel
theorem dX9_figure_46 : decode cX9_figure 46 = .ok (.invokevirtual 170, 3) := by decide +kernel
theorem dX9_figure_49 : decode cX9_figure 49 = .ok (.ireturn, 1) := by decide +kernel
theorem dX9_figure_50 : decode cX9_figure 50 = .ok (.aload_n 0, 1) := by decide +kernel
theorem dX9_figure_51 : decode cX9_figure 51 = .ok (.getfield 12, 3) := by decide +kernel
theorem dX9_figure_54 : decode cX9_figure 54 = .ok (.getfield 160, 3) := by decide +kernel
theorem dX9_figure_57 : decode cX9_figure 57 = .ok (.invokevirtual 173, 3) := by decide +kernel
theorem dX9_figure_60 : decode cX9_figure 60 = .ok (.ireturn, 1) := by decide +kernel
theorem dX9_figure_61 : decode cX9_figure 61 = .ok (.aload_n 0, 1) := by decide +kernel
theorem dX9_figure_62 : decode cX9_figure 62 = .ok (.getfield 96, 3) := by decide +kernel
theorem dX9_figure_65 : decode cX9_figure 65 = .ok (.ireturn, 1) := by decide +kernel
theorem dX9_figure_66 : decode cX9_figure 66 = .ok (.aload_n 0, 1) := by decide +kernel
theorem dX9_figure_67 : decode cX9_figure 67 = .ok (.getfield 93, 3) := by decide +kernel
theorem dX9_figure_70 : decode cX9_figure 70 = .ok (.ireturn, 1) := by decide +kernel
theorem dX9_figure_71 : decode cX9_figure 71 = .ok (.aload_n 0, 1) := by decide +kernel
theorem dX9_figure_72 : decode cX9_figure 72 = .ok (.getfield 21, 3) := by decide +kernel
theorem dX9_figure_75 : decode cX9_figure 75 = .ok (.getfield 110, 3) := by decide +kernel
theorem dX9_figure_78 : decode cX9_figure 78 = .ok (.invokevirtual 173, 3) := by decide +kernel
theorem dX9_figure_81 : decode cX9_figure 81 = .ok (.ireturn, 1) := by decide +kernel
theorem dX9_figure_82 : decode cX9_figure 82 = .ok (.aload_n 0, 1) := by decide +kernel
theorem dX9_figure_83 : decode cX9_figure 83 = .ok (.getfield 21, 3) := by decide +kernel
theorem dX9_figure_86 : decode cX9_figure 86 = .ok (.getfield 129, 3) := by decide +kernel
theorem dX9_figure_89 : decode cX9_figure 89 = .ok (.invokevirtual 173, 3) := by decide +kernel
theorem dX9_figure_92 : decode cX9_figure 92 = .ok (.ireturn, 1) := by decide +kernel
theorem dX9_held_0 : decode cX9_held 0 = .ok (.iconst 0, 1) := by decide +kernel
theorem dX9_held_1 : decode cX9_held 1 = .ok (.istore_n 1, 1) := by decide +kernel
theorem dX9_held_2 : decode cX9_held 2 = .ok (.iconst 0, 1) := by decide +kernel
theorem dX9_held_3 : decode cX9_held 3 = .ok (.istore_n 2, 1) := by decide +kernel
theorem dX9_held_4 : decode cX9_held 4 = .ok (.iload_n 2, 1) := by decide +kernel
theorem dX9_held_5 : decode cX9_held 5 = .ok (.aload_n 0, 1) := by decide +kernel
theorem dX9_held_6 : decode cX9_held 6 = .ok (.getfield 21, 3) := by decide +kernel
theorem dX9_held_9 : decode cX9_held 9 = .ok (.invokevirtual 176, 3) := by decide +kernel
theorem dX9_held_12 : decode cX9_held 12 = .ok (.if_icmp .ge 31, 3) := by decide +kernel
theorem dX9_held_15 : decode cX9_held 15 = .ok (.iload_n 1, 1) := by decide +kernel
theorem dX9_held_16 : decode cX9_held 16 = .ok (.aload_n 0, 1) := by decide +kernel
theorem dX9_held_17 : decode cX9_held 17 = .ok (.getfield 21, 3) := by decide +kernel
theorem dX9_held_20 : decode cX9_held 20 = .ok (.aload_n 0, 1) := by decide +kernel
theorem dX9_held_21 : decode cX9_held 21 = .ok (.getfield 21, 3) := by decide +kernel
theorem dX9_held_24 : decode cX9_held 24 = .ok (.getfield 113, 3) := by decide +kernel
theorem dX9_held_27 : decode cX9_held 27 = .ok (.iload_n 2, 1) := by decide +kernel
theorem dX9_held_28 : decode cX9_held 28 = .ok (.invokevirtual 106, 3) := by decide +kernel
theorem dX9_held_31 : decode cX9_held 31 = .ok (.iload_n 2, 1) := by decide +kernel
theorem dX9_held_32 : decode cX9_held 32 = .ok (.invokevirtual 117, 3) := by decide +kernel
theorem dX9_held_35 : decode cX9_held 35 = .ok (.iadd, 1) := by decide +kernel
theorem dX9_held_36 : decode cX9_held 36 = .ok (.istore_n 1, 1) := by decide +kernel
theorem dX9_held_37 : decode cX9_held 37 = .ok (.iinc 2 1, 3) := by decide +kernel
theorem dX9_held_40 : decode cX9_held 40 = .ok (.goto (-36), 3) := by decide +kernel
theorem dX9_held_43 : decode cX9_held 43 = .ok (.iconst 0, 1) := by decide +kernel
theorem dX9_held_44 : decode cX9_held 44 = .ok (.istore_n 2, 1) := by decide +kernel
theorem dX9_held_45 : decode cX9_held 45 = .ok (.iload_n 2, 1) := by decide +kernel
theorem dX9_held_46 : decode cX9_held 46 = .ok (.aload_n 0, 1) := by decide +kernel
theorem dX9_held_47 : decode cX9_held 47 = .ok (.getfield 37, 3) := by decide +kernel
theorem dX9_held_50 : decode cX9_held 50 = .ok (.invokevirtual 102, 3) := by decide +kernel
theorem dX9_held_53 : decode cX9_held 53 = .ok (.if_icmp .ge 32, 3) := by decide +kernel
theorem dX9_held_56 : decode cX9_held 56 = .ok (.iload_n 1, 1) := by decide +kernel
theorem dX9_held_57 : decode cX9_held 57 = .ok (.aload_n 0, 1) := by decide +kernel
theorem dX9_held_58 : decode cX9_held 58 = .ok (.iload_n 2, 1) := by decide +kernel
theorem dX9_held_59 : decode cX9_held 59 = .ok (.invokevirtual 177, 3) := by decide +kernel
theorem dX9_held_62 : decode cX9_held 62 = .ok (.ifCond .lt 14, 3) := by decide +kernel
theorem dX9_held_65 : decode cX9_held 65 = .ok (.aload_n 0, 1) := by decide +kernel
theorem dX9_held_66 : decode cX9_held 66 = .ok (.getfield 37, 3) := by decide +kernel
theorem dX9_held_69 : decode cX9_held 69 = .ok (.iload_n 2, 1) := by decide +kernel
theorem dX9_held_70 : decode cX9_held 70 = .ok (.invokevirtual 106, 3) := by decide +kernel
theorem dX9_held_73 : decode cX9_held 73 = .ok (.goto 4, 3) := by decide +kernel
theorem dX9_held_76 : decode cX9_held 76 = .ok (.iconst 0, 1) := by decide +kernel
theorem dX9_held_77 : decode cX9_held 77 = .ok (.iadd, 1) := by decide +kernel
theorem dX9_held_78 : decode cX9_held 78 = .ok (.istore_n 1, 1) := by decide +kernel
theorem dX9_held_79 : decode cX9_held 79 = .ok (.iinc 2 1, 3) := by decide +kernel
theorem dX9_held_82 : decode cX9_held 82 = .ok (.goto (-37), 3) := by decide +kernel
theorem dX9_held_85 : decode cX9_held 85 = .ok (.iload_n 1, 1) := by decide +kernel
theorem dX9_held_86 : decode cX9_held 86 = .ok (.ireturn, 1) := by decide +kernel
theorem dX9_most_0 : decode cX9_most 0 = .ok (.iconst 0, 1) := by decide +kernel
theorem dX9_most_1 : decode cX9_most 1 = .ok (.istore_n 1, 1) := by decide +kernel
theorem dX9_most_2 : decode cX9_most 2 = .ok (.iconst 0, 1) := by decide +kernel
theorem dX9_most_3 : decode cX9_most 3 = .ok (.istore_n 2, 1) := by decide +kernel
theorem dX9_most_4 : decode cX9_most 4 = .ok (.iload_n 2, 1) := by decide +kernel
theorem dX9_most_5 : decode cX9_most 5 = .ok (.aload_n 0, 1) := by decide +kernel
theorem dX9_most_6 : decode cX9_most 6 = .ok (.getfield 21, 3) := by decide +kernel
theorem dX9_most_9 : decode cX9_most 9 = .ok (.invokevirtual 176, 3) := by decide +kernel
theorem dX9_most_12 : decode cX9_most 12 = .ok (.if_icmp .ge 25, 3) := by decide +kernel
theorem dX9_most_15 : decode cX9_most 15 = .ok (.iload_n 1, 1) := by decide +kernel
theorem dX9_most_16 : decode cX9_most 16 = .ok (.aload_n 0, 1) := by decide +kernel
theorem dX9_most_17 : decode cX9_most 17 = .ok (.getfield 21, 3) := by decide +kernel
theorem dX9_most_20 : decode cX9_most 20 = .ok (.aload_n 0, 1) := by decide +kernel
theorem dX9_most_21 : decode cX9_most 21 = .ok (.iload_n 2, 1) := by decide +kernel
theorem dX9_most_22 : decode cX9_most 22 = .ok (.invokevirtual 180, 3) := by decide +kernel
theorem dX9_most_25 : decode cX9_most 25 = .ok (.iload_n 2, 1) := by decide +kernel
theorem dX9_most_26 : decode cX9_most 26 = .ok (.invokevirtual 117, 3) := by decide +kernel
theorem dX9_most_29 : decode cX9_most 29 = .ok (.iadd, 1) := by decide +kernel
theorem dX9_most_30 : decode cX9_most 30 = .ok (.istore_n 1, 1) := by decide +kernel
theorem dX9_most_31 : decode cX9_most 31 = .ok (.iinc 2 1, 3) := by decide +kernel
theorem dX9_most_34 : decode cX9_most 34 = .ok (.goto (-30), 3) := by decide +kernel
theorem dX9_most_37 : decode cX9_most 37 = .ok (.iload_n 1, 1) := by decide +kernel
theorem dX9_most_38 : decode cX9_most 38 = .ok (.ireturn, 1) := by decide +kernel
theorem dX9_goRound_0 : decode cX9_goRound 0 = .ok (.aload_n 0, 1) := by decide +kernel
theorem dX9_goRound_1 : decode cX9_goRound 1 = .ok (.getfield 12, 3) := by decide +kernel
theorem dX9_goRound_4 : decode cX9_goRound 4 = .ok (.getfield 160, 3) := by decide +kernel
theorem dX9_goRound_7 : decode cX9_goRound 7 = .ok (.iload_n 1, 1) := by decide +kernel
theorem dX9_goRound_8 : decode cX9_goRound 8 = .ok (.invokevirtual 106, 3) := by decide +kernel
theorem dX9_goRound_11 : decode cX9_goRound 11 = .ok (.istore_n 3, 1) := by decide +kernel
theorem dX9_goRound_12 : decode cX9_goRound 12 = .ok (.iconst 0, 1) := by decide +kernel
theorem dX9_goRound_13 : decode cX9_goRound 13 = .ok (.istore 4, 2) := by decide +kernel
theorem dX9_goRound_15 : decode cX9_goRound 15 = .ok (.iconst 0, 1) := by decide +kernel
theorem dX9_goRound_16 : decode cX9_goRound 16 = .ok (.istore 5, 2) := by decide +kernel
theorem dX9_goRound_18 : decode cX9_goRound 18 = .ok (.iconst 0, 1) := by decide +kernel
theorem dX9_goRound_19 : decode cX9_goRound 19 = .ok (.istore 6, 2) := by decide +kernel
theorem dX9_goRound_21 : decode cX9_goRound 21 = .ok (.iconst 0, 1) := by decide +kernel
theorem dX9_goRound_22 : decode cX9_goRound 22 = .ok (.istore 7, 2) := by decide +kernel
theorem dX9_goRound_24 : decode cX9_goRound 24 = .ok (.iload 7, 2) := by decide +kernel
theorem dX9_goRound_26 : decode cX9_goRound 26 = .ok (.aload_n 0, 1) := by decide +kernel
theorem dX9_goRound_27 : decode cX9_goRound 27 = .ok (.getfield 21, 3) := by decide +kernel
theorem dX9_goRound_30 : decode cX9_goRound 30 = .ok (.invokevirtual 176, 3) := by decide +kernel
theorem dX9_goRound_33 : decode cX9_goRound 33 = .ok (.if_icmp .ge 116, 3) := by decide +kernel
theorem dX9_goRound_36 : decode cX9_goRound 36 = .ok (.aload_n 0, 1) := by decide +kernel
theorem dX9_goRound_37 : decode cX9_goRound 37 = .ok (.getfield 21, 3) := by decide +kernel
theorem dX9_goRound_40 : decode cX9_goRound 40 = .ok (.getfield 129, 3) := by decide +kernel
theorem dX9_goRound_43 : decode cX9_goRound 43 = .ok (.iload 7, 2) := by decide +kernel
theorem dX9_goRound_45 : decode cX9_goRound 45 = .ok (.invokevirtual 106, 3) := by decide +kernel
theorem dX9_goRound_48 : decode cX9_goRound 48 = .ok (.istore 8, 2) := by decide +kernel
theorem dX9_goRound_50 : decode cX9_goRound 50 = .ok (.aload_n 0, 1) := by decide +kernel
theorem dX9_goRound_51 : decode cX9_goRound 51 = .ok (.getfield 21, 3) := by decide +kernel
theorem dX9_goRound_54 : decode cX9_goRound 54 = .ok (.iload_n 1, 1) := by decide +kernel
theorem dX9_goRound_55 : decode cX9_goRound 55 = .ok (.iload 7, 2) := by decide +kernel
theorem dX9_goRound_57 : decode cX9_goRound 57 = .ok (.invokevirtual 117, 3) := by decide +kernel
theorem dX9_goRound_60 : decode cX9_goRound 60 = .ok (.iload 8, 2) := by decide +kernel
theorem dX9_goRound_62 : decode cX9_goRound 62 = .ok (.isub, 1) := by decide +kernel
theorem dX9_goRound_63 : decode cX9_goRound 63 = .ok (.istore 9, 2) := by decide +kernel
theorem dX9_goRound_65 : decode cX9_goRound 65 = .ok (.aload_n 0, 1) := by decide +kernel
theorem dX9_goRound_66 : decode cX9_goRound 66 = .ok (.getfield 21, 3) := by decide +kernel
theorem dX9_goRound_69 : decode cX9_goRound 69 = .ok (.getfield 113, 3) := by decide +kernel
theorem dX9_goRound_72 : decode cX9_goRound 72 = .ok (.iload 7, 2) := by decide +kernel
theorem dX9_goRound_74 : decode cX9_goRound 74 = .ok (.invokevirtual 106, 3) := by decide +kernel
theorem dX9_goRound_77 : decode cX9_goRound 77 = .ok (.iload_n 1, 1) := by decide +kernel
theorem dX9_goRound_78 : decode cX9_goRound 78 = .ok (.if_icmp .eq 22, 3) := by decide +kernel
theorem dX9_goRound_81 : decode cX9_goRound 81 = .ok (.aload_n 0, 1) := by decide +kernel
theorem dX9_goRound_82 : decode cX9_goRound 82 = .ok (.getfield 21, 3) := by decide +kernel
theorem dX9_goRound_85 : decode cX9_goRound 85 = .ok (.getfield 183, 3) := by decide +kernel
theorem dX9_goRound_88 : decode cX9_goRound 88 = .ok (.iload 7, 2) := by decide +kernel
theorem dX9_goRound_90 : decode cX9_goRound 90 = .ok (.invokevirtual 106, 3) := by decide +kernel
theorem dX9_goRound_93 : decode cX9_goRound 93 = .ok (.ifCond .ne 7, 3) := by decide +kernel
theorem dX9_goRound_96 : decode cX9_goRound 96 = .ok (.iconst 1, 1) := by decide +kernel
theorem dX9_goRound_97 : decode cX9_goRound 97 = .ok (.goto 4, 3) := by decide +kernel
theorem dX9_goRound_100 : decode cX9_goRound 100 = .ok (.iconst 0, 1) := by decide +kernel
theorem dX9_goRound_101 : decode cX9_goRound 101 = .ok (.istore 10, 2) := by decide +kernel
theorem dX9_goRound_103 : decode cX9_goRound 103 = .ok (.iload 10, 2) := by decide +kernel
theorem dX9_goRound_105 : decode cX9_goRound 105 = .ok (.ifCond .eq 38, 3) := by decide +kernel
theorem dX9_goRound_108 : decode cX9_goRound 108 = .ok (.iload 9, 2) := by decide +kernel
theorem dX9_goRound_110 : decode cX9_goRound 110 = .ok (.ifCond .le 33, 3) := by decide +kernel
theorem dX9_goRound_113 : decode cX9_goRound 113 = .ok (.iload_n 3, 1) := by decide +kernel
theorem dX9_goRound_114 : decode cX9_goRound 114 = .ok (.iload 8, 2) := by decide +kernel
theorem dX9_goRound_116 : decode cX9_goRound 116 = .ok (.if_icmp .lt 27, 3) := by decide +kernel
theorem dX9_goRound_119 : decode cX9_goRound 119 = .ok (.iload_n 3, 1) := by decide +kernel
theorem dX9_goRound_120 : decode cX9_goRound 120 = .ok (.iload 8, 2) := by decide +kernel
theorem dX9_goRound_122 : decode cX9_goRound 122 = .ok (.isub, 1) := by decide +kernel
theorem dX9_goRound_123 : decode cX9_goRound 123 = .ok (.istore_n 3, 1) := by decide +kernel
theorem dX9_goRound_124 : decode cX9_goRound 124 = .ok (.iinc 4 1, 3) := by decide +kernel
theorem dX9_goRound_127 : decode cX9_goRound 127 = .ok (.iload 5, 2) := by decide +kernel
theorem dX9_goRound_129 : decode cX9_goRound 129 = .ok (.iload 9, 2) := by decide +kernel
theorem dX9_goRound_131 : decode cX9_goRound 131 = .ok (.iadd, 1) := by decide +kernel
theorem dX9_goRound_132 : decode cX9_goRound 132 = .ok (.istore 5, 2) := by decide +kernel
theorem dX9_goRound_134 : decode cX9_goRound 134 = .ok (.iload 6, 2) := by decide +kernel
theorem dX9_goRound_136 : decode cX9_goRound 136 = .ok (.iconst 1, 1) := by decide +kernel
theorem dX9_goRound_137 : decode cX9_goRound 137 = .ok (.iload 7, 2) := by decide +kernel
theorem dX9_goRound_139 : decode cX9_goRound 139 = .ok (.ishl, 1) := by decide +kernel
theorem dX9_goRound_140 : decode cX9_goRound 140 = .ok (.ior, 1) := by decide +kernel
theorem dX9_goRound_141 : decode cX9_goRound 141 = .ok (.istore 6, 2) := by decide +kernel
theorem dX9_goRound_143 : decode cX9_goRound 143 = .ok (.iinc 7 1, 3) := by decide +kernel
theorem dX9_goRound_146 : decode cX9_goRound 146 = .ok (.goto (-122), 3) := by decide +kernel
theorem dX9_goRound_149 : decode cX9_goRound 149 = .ok (.iload_n 2, 1) := by decide +kernel
theorem dX9_goRound_150 : decode cX9_goRound 150 = .ok (.ifCond .ne 8, 3) := by decide +kernel
theorem dX9_goRound_153 : decode cX9_goRound 153 = .ok (.iload 4, 2) := by decide +kernel
theorem dX9_goRound_155 : decode cX9_goRound 155 = .ok (.goto 15, 3) := by decide +kernel
theorem dX9_goRound_158 : decode cX9_goRound 158 = .ok (.iload_n 2, 1) := by decide +kernel
theorem dX9_goRound_159 : decode cX9_goRound 159 = .ok (.iconst 1, 1) := by decide +kernel
theorem dX9_goRound_160 : decode cX9_goRound 160 = .ok (.if_icmp .ne 8, 3) := by decide +kernel
theorem dX9_goRound_163 : decode cX9_goRound 163 = .ok (.iload 5, 2) := by decide +kernel
theorem dX9_goRound_165 : decode cX9_goRound 165 = .ok (.goto 5, 3) := by decide +kernel
theorem dX9_goRound_168 : decode cX9_goRound 168 = .ok (.iload 6, 2) := by decide +kernel
theorem dX9_goRound_170 : decode cX9_goRound 170 = .ok (.ireturn, 1) := by decide +kernel
theorem dX9_firstWrongOf_0 : decode cX9_firstWrongOf 0 = .ok (.iconst 0, 1) := by decide +kernel
theorem dX9_firstWrongOf_1 : decode cX9_firstWrongOf 1 = .ok (.istore_n 2, 1) := by decide +kernel
theorem dX9_firstWrongOf_2 : decode cX9_firstWrongOf 2 = .ok (.iconst 0, 1) := by decide +kernel
theorem dX9_firstWrongOf_3 : decode cX9_firstWrongOf 3 = .ok (.istore_n 3, 1) := by decide +kernel
theorem dX9_firstWrongOf_4 : decode cX9_firstWrongOf 4 = .ok (.iload_n 3, 1) := by decide +kernel
theorem dX9_firstWrongOf_5 : decode cX9_firstWrongOf 5 = .ok (.aload_n 0, 1) := by decide +kernel
theorem dX9_firstWrongOf_6 : decode cX9_firstWrongOf 6 = .ok (.getfield 21, 3) := by decide +kernel
theorem dX9_firstWrongOf_9 : decode cX9_firstWrongOf 9 = .ok (.invokevirtual 176, 3) := by decide +kernel
theorem dX9_firstWrongOf_12 : decode cX9_firstWrongOf 12 = .ok (.if_icmp .ge 54, 3) := by decide +kernel
theorem dX9_firstWrongOf_15 : decode cX9_firstWrongOf 15 = .ok (.aload_n 0, 1) := by decide +kernel
theorem dX9_firstWrongOf_16 : decode cX9_firstWrongOf 16 = .ok (.getfield 21, 3) := by decide +kernel
theorem dX9_firstWrongOf_19 : decode cX9_firstWrongOf 19 = .ok (.getfield 113, 3) := by decide +kernel
theorem dX9_firstWrongOf_22 : decode cX9_firstWrongOf 22 = .ok (.iload_n 3, 1) := by decide +kernel
theorem dX9_firstWrongOf_23 : decode cX9_firstWrongOf 23 = .ok (.invokevirtual 106, 3) := by decide +kernel
theorem dX9_firstWrongOf_26 : decode cX9_firstWrongOf 26 = .ok (.iload_n 1, 1) := by decide +kernel
theorem dX9_firstWrongOf_27 : decode cX9_firstWrongOf 27 = .ok (.if_icmp .ne 33, 3) := by decide +kernel
theorem dX9_firstWrongOf_30 : decode cX9_firstWrongOf 30 = .ok (.iload_n 2, 1) := by decide +kernel
theorem dX9_firstWrongOf_31 : decode cX9_firstWrongOf 31 = .ok (.aload_n 0, 1) := by decide +kernel
theorem dX9_firstWrongOf_32 : decode cX9_firstWrongOf 32 = .ok (.getfield 63, 3) := by decide +kernel
theorem dX9_firstWrongOf_35 : decode cX9_firstWrongOf 35 = .ok (.invokevirtual 102, 3) := by decide +kernel
theorem dX9_firstWrongOf_38 : decode cX9_firstWrongOf 38 = .ok (.if_icmp .ge 15, 3) := by decide +kernel
theorem dX9_firstWrongOf_41 : decode cX9_firstWrongOf 41 = .ok (.aload_n 0, 1) := by decide +kernel
theorem dX9_firstWrongOf_42 : decode cX9_firstWrongOf 42 = .ok (.getfield 63, 3) := by decide +kernel
theorem dX9_firstWrongOf_45 : decode cX9_firstWrongOf 45 = .ok (.iload_n 2, 1) := by decide +kernel
theorem dX9_firstWrongOf_46 : decode cX9_firstWrongOf 46 = .ok (.invokevirtual 106, 3) := by decide +kernel
theorem dX9_firstWrongOf_49 : decode cX9_firstWrongOf 49 = .ok (.iload_n 3, 1) := by decide +kernel
theorem dX9_firstWrongOf_50 : decode cX9_firstWrongOf 50 = .ok (.if_icmp .eq 7, 3) := by decide +kernel
theorem dX9_firstWrongOf_53 : decode cX9_firstWrongOf 53 = .ok (.iload_n 2, 1) := by decide +kernel
theorem dX9_firstWrongOf_54 : decode cX9_firstWrongOf 54 = .ok (.iconst 1, 1) := by decide +kernel
theorem dX9_firstWrongOf_55 : decode cX9_firstWrongOf 55 = .ok (.iadd, 1) := by decide +kernel
theorem dX9_firstWrongOf_56 : decode cX9_firstWrongOf 56 = .ok (.ireturn, 1) := by decide +kernel
theorem dX9_firstWrongOf_57 : decode cX9_firstWrongOf 57 = .ok (.iinc 2 1, 3) := by decide +kernel
theorem dX9_firstWrongOf_60 : decode cX9_firstWrongOf 60 = .ok (.iinc 3 1, 3) := by decide +kernel
theorem dX9_firstWrongOf_63 : decode cX9_firstWrongOf 63 = .ok (.goto (-59), 3) := by decide +kernel
theorem dX9_firstWrongOf_66 : decode cX9_firstWrongOf 66 = .ok (.iload_n 2, 1) := by decide +kernel
theorem dX9_firstWrongOf_67 : decode cX9_firstWrongOf 67 = .ok (.aload_n 0, 1) := by decide +kernel
theorem dX9_firstWrongOf_68 : decode cX9_firstWrongOf 68 = .ok (.getfield 63, 3) := by decide +kernel
theorem dX9_firstWrongOf_71 : decode cX9_firstWrongOf 71 = .ok (.invokevirtual 102, 3) := by decide +kernel
theorem dX9_firstWrongOf_74 : decode cX9_firstWrongOf 74 = .ok (.if_icmp .ge 9, 3) := by decide +kernel
theorem dX9_firstWrongOf_77 : decode cX9_firstWrongOf 77 = .ok (.iload_n 2, 1) := by decide +kernel
theorem dX9_firstWrongOf_78 : decode cX9_firstWrongOf 78 = .ok (.iconst 1, 1) := by decide +kernel
theorem dX9_firstWrongOf_79 : decode cX9_firstWrongOf 79 = .ok (.iadd, 1) := by decide +kernel
theorem dX9_firstWrongOf_80 : decode cX9_firstWrongOf 80 = .ok (.goto 4, 3) := by decide +kernel
theorem dX9_firstWrongOf_83 : decode cX9_firstWrongOf 83 = .ok (.iconst 0, 1) := by decide +kernel
theorem dX9_firstWrongOf_84 : decode cX9_firstWrongOf 84 = .ok (.ireturn, 1) := by decide +kernel
theorem dX9_nextComes_0 : decode cX9_nextComes 0 = .ok (.aload_n 0, 1) := by decide +kernel
theorem dX9_nextComes_1 : decode cX9_nextComes 1 = .ok (.aload_n 0, 1) := by decide +kernel
theorem dX9_nextComes_2 : decode cX9_nextComes 2 = .ok (.getfield 70, 3) := by decide +kernel
theorem dX9_nextComes_5 : decode cX9_nextComes 5 = .ok (.ldc 186, 2) := by decide +kernel
theorem dX9_nextComes_7 : decode cX9_nextComes 7 = .ok (.imul, 1) := by decide +kernel
theorem dX9_nextComes_8 : decode cX9_nextComes 8 = .ok (.sipush 12345, 3) := by decide +kernel
theorem dX9_nextComes_11 : decode cX9_nextComes 11 = .ok (.iadd, 1) := by decide +kernel
theorem dX9_nextComes_12 : decode cX9_nextComes 12 = .ok (.putfield 70, 3) := by decide +kernel
theorem dX9_nextComes_15 : decode cX9_nextComes 15 = .ok (.aload_n 0, 1) := by decide +kernel
theorem dX9_nextComes_16 : decode cX9_nextComes 16 = .ok (.getfield 12, 3) := by decide +kernel
theorem dX9_nextComes_19 : decode cX9_nextComes 19 = .ok (.getfield 187, 3) := by decide +kernel
theorem dX9_nextComes_22 : decode cX9_nextComes 22 = .ok (.iload_n 1, 1) := by decide +kernel
theorem dX9_nextComes_23 : decode cX9_nextComes 23 = .ok (.invokevirtual 106, 3) := by decide +kernel
theorem dX9_nextComes_26 : decode cX9_nextComes 26 = .ok (.istore_n 2, 1) := by decide +kernel
theorem dX9_nextComes_27 : decode cX9_nextComes 27 = .ok (.iload_n 2, 1) := by decide +kernel
theorem dX9_nextComes_28 : decode cX9_nextComes 28 = .ok (.ifCond .le 30, 3) := by decide +kernel
theorem dX9_nextComes_31 : decode cX9_nextComes 31 = .ok (.aload_n 0, 1) := by decide +kernel
theorem dX9_nextComes_32 : decode cX9_nextComes 32 = .ok (.getfield 70, 3) := by decide +kernel
theorem dX9_nextComes_35 : decode cX9_nextComes 35 = .ok (.bipush 8, 2) := by decide +kernel
theorem dX9_nextComes_37 : decode cX9_nextComes 37 = .ok (.iushr, 1) := by decide +kernel
theorem dX9_nextComes_38 : decode cX9_nextComes 38 = .ok (.iload_n 2, 1) := by decide +kernel
theorem dX9_nextComes_39 : decode cX9_nextComes 39 = .ok (.irem, 1) := by decide +kernel
theorem dX9_nextComes_40 : decode cX9_nextComes 40 = .ok (.aload_n 0, 1) := by decide +kernel
theorem dX9_nextComes_41 : decode cX9_nextComes 41 = .ok (.getfield 12, 3) := by decide +kernel
theorem dX9_nextComes_44 : decode cX9_nextComes 44 = .ok (.getfield 190, 3) := by decide +kernel
theorem dX9_nextComes_47 : decode cX9_nextComes 47 = .ok (.iload_n 1, 1) := by decide +kernel
theorem dX9_nextComes_48 : decode cX9_nextComes 48 = .ok (.invokevirtual 106, 3) := by decide +kernel
theorem dX9_nextComes_51 : decode cX9_nextComes 51 = .ok (.if_icmp .ge 7, 3) := by decide +kernel
theorem dX9_nextComes_54 : decode cX9_nextComes 54 = .ok (.iconst 1, 1) := by decide +kernel
theorem dX9_nextComes_55 : decode cX9_nextComes 55 = .ok (.goto 4, 3) := by decide +kernel
theorem dX9_nextComes_58 : decode cX9_nextComes 58 = .ok (.iconst 0, 1) := by decide +kernel
theorem dX9_nextComes_59 : decode cX9_nextComes 59 = .ok (.ireturn, 1) := by decide +kernel
theorem dX10_init_0 : decode cX10_init 0 = .ok (.aload_n 0, 1) := by decide +kernel
theorem dX10_init_1 : decode cX10_init 1 = .ok (.invokespecial 1, 3) := by decide +kernel
theorem dX10_init_4 : decode cX10_init 4 = .ok (.aload_n 0, 1) := by decide +kernel
theorem dX10_init_5 : decode cX10_init 5 = .ok (.new 7, 3) := by decide +kernel
theorem dX10_init_8 : decode cX10_init 8 = .ok (.dup, 1) := by decide +kernel
theorem dX10_init_9 : decode cX10_init 9 = .ok (.bipush 30, 2) := by decide +kernel
theorem dX10_init_11 : decode cX10_init 11 = .ok (.invokespecial 11, 3) := by decide +kernel
theorem dX10_init_14 : decode cX10_init 14 = .ok (.putfield 14, 3) := by decide +kernel
theorem dX10_init_17 : decode cX10_init 17 = .ok (.return_, 1) := by decide +kernel
theorem dX10_speak_0 : decode cX10_speak 0 = .ok (.aload_n 0, 1) := by decide +kernel
theorem dX10_speak_1 : decode cX10_speak 1 = .ok (.getfield 14, 3) := by decide +kernel
theorem dX10_speak_4 : decode cX10_speak 4 = .ok (.iconst 0, 1) := by decide +kernel
theorem dX10_speak_5 : decode cX10_speak 5 = .ok (.invokevirtual 18, 3) := by decide +kernel
theorem dX10_speak_8 : decode cX10_speak 8 = .ok (.aload_n 0, 1) := by decide +kernel
theorem dX10_speak_9 : decode cX10_speak 9 = .ok (.iconst 0, 1) := by decide +kernel
theorem dX10_speak_10 : decode cX10_speak 10 = .ok (.putfield 21, 3) := by decide +kernel
theorem dX10_speak_13 : decode cX10_speak 13 = .ok (.aload_n 0, 1) := by decide +kernel
theorem dX10_speak_14 : decode cX10_speak 14 = .ok (.aload_n 1, 1) := by decide +kernel
theorem dX10_speak_15 : decode cX10_speak 15 = .ok (.getfield 25, 3) := by decide +kernel
theorem dX10_speak_18 : decode cX10_speak 18 = .ok (.iload_n 2, 1) := by decide +kernel
theorem dX10_speak_19 : decode cX10_speak 19 = .ok (.invokevirtual 30, 3) := by decide +kernel
theorem dX10_speak_22 : decode cX10_speak 22 = .ok (.putfield 34, 3) := by decide +kernel
theorem dX10_speak_25 : decode cX10_speak 25 = .ok (.aload_n 0, 1) := by decide +kernel
theorem dX10_speak_26 : decode cX10_speak 26 = .ok (.iload_n 2, 1) := by decide +kernel
theorem dX10_speak_27 : decode cX10_speak 27 = .ok (.putfield 38, 3) := by decide +kernel
theorem dX10_speak_30 : decode cX10_speak 30 = .ok (.aload_n 0, 1) := by decide +kernel
theorem dX10_speak_31 : decode cX10_speak 31 = .ok (.aload_n 1, 1) := by decide +kernel
theorem dX10_speak_32 : decode cX10_speak 32 = .ok (.getfield 41, 3) := by decide +kernel
theorem dX10_speak_35 : decode cX10_speak 35 = .ok (.iload_n 2, 1) := by decide +kernel
theorem dX10_speak_36 : decode cX10_speak 36 = .ok (.invokevirtual 30, 3) := by decide +kernel
theorem dX10_speak_39 : decode cX10_speak 39 = .ok (.putfield 44, 3) := by decide +kernel
theorem dX10_speak_42 : decode cX10_speak 42 = .ok (.aload_n 0, 1) := by decide +kernel
theorem dX10_speak_43 : decode cX10_speak 43 = .ok (.aload_n 0, 1) := by decide +kernel
theorem dX10_speak_44 : decode cX10_speak 44 = .ok (.getfield 34, 3) := by decide +kernel
theorem dX10_speak_47 : decode cX10_speak 47 = .ok (.iload_n 3, 1) := by decide +kernel
theorem dX10_speak_48 : decode cX10_speak 48 = .ok (.iload 4, 2) := by decide +kernel
theorem dX10_speak_50 : decode cX10_speak 50 = .ok (.iconst 0, 1) := by decide +kernel
theorem dX10_speak_51 : decode cX10_speak 51 = .ok (.invokevirtual 47, 3) := by decide +kernel
theorem dX10_speak_54 : decode cX10_speak 54 = .ok (.ireturn, 1) := by decide +kernel
theorem dX10_say_0 : decode cX10_say 0 = .ok (.aload_n 0, 1) := by decide +kernel
theorem dX10_say_1 : decode cX10_say 1 = .ok (.getfield 21, 3) := by decide +kernel
theorem dX10_say_4 : decode cX10_say 4 = .ok (.ifCond .ne 10, 3) := by decide +kernel
theorem dX10_say_7 : decode cX10_say 7 = .ok (.iload 4, 2) := by decide +kernel
theorem dX10_say_9 : decode cX10_say 9 = .ok (.bipush 40, 2) := by decide +kernel
theorem dX10_say_11 : decode cX10_say 11 = .ok (.if_icmp .le 5, 3) := by decide +kernel
theorem dX10_say_14 : decode cX10_say 14 = .ok (.iconst 0, 1) := by decide +kernel
theorem dX10_say_15 : decode cX10_say 15 = .ok (.ireturn, 1) := by decide +kernel
theorem dX10_say_16 : decode cX10_say 16 = .ok (.iload_n 1, 1) := by decide +kernel
theorem dX10_say_17 : decode cX10_say 17 = .ok (.istore 5, 2) := by decide +kernel
theorem dX10_say_19 : decode cX10_say 19 = .ok (.iconst 0, 1) := by decide +kernel
theorem dX10_say_20 : decode cX10_say 20 = .ok (.istore 6, 2) := by decide +kernel
theorem dX10_say_22 : decode cX10_say 22 = .ok (.iload 6, 2) := by decide +kernel
theorem dX10_say_24 : decode cX10_say 24 = .ok (.iconst 3, 1) := by decide +kernel
theorem dX10_say_25 : decode cX10_say 25 = .ok (.if_icmp .ge 25, 3) := by decide +kernel
theorem dX10_say_28 : decode cX10_say 28 = .ok (.iload 5, 2) := by decide +kernel
theorem dX10_say_30 : decode cX10_say 30 = .ok (.iload_n 2, 1) := by decide +kernel
theorem dX10_say_31 : decode cX10_say 31 = .ok (.invokestatic 53, 3) := by decide +kernel
theorem dX10_say_34 : decode cX10_say 34 = .ok (.ifCond .ne 16, 3) := by decide +kernel
theorem dX10_say_37 : decode cX10_say 37 = .ok (.iload 5, 2) := by decide +kernel
theorem dX10_say_39 : decode cX10_say 39 = .ok (.invokestatic 57, 3) := by decide +kernel
theorem dX10_say_42 : decode cX10_say 42 = .ok (.istore 5, 2) := by decide +kernel
theorem dX10_say_44 : decode cX10_say 44 = .ok (.iinc 6 1, 3) := by decide +kernel
theorem dX10_say_47 : decode cX10_say 47 = .ok (.goto (-25), 3) := by decide +kernel
theorem dX10_say_50 : decode cX10_say 50 = .ok (.iload 5, 2) := by decide +kernel
theorem dX10_say_52 : decode cX10_say 52 = .ok (.iload_n 2, 1) := by decide +kernel
theorem dX10_say_53 : decode cX10_say 53 = .ok (.invokestatic 53, 3) := by decide +kernel
theorem dX10_say_56 : decode cX10_say 56 = .ok (.istore 6, 2) := by decide +kernel
theorem dX10_say_58 : decode cX10_say 58 = .ok (.aload_n 0, 1) := by decide +kernel
theorem dX10_say_59 : decode cX10_say 59 = .ok (.getfield 14, 3) := by decide +kernel
theorem dX10_say_62 : decode cX10_say 62 = .ok (.iload 6, 2) := by decide +kernel
theorem dX10_say_64 : decode cX10_say 64 = .ok (.invokevirtual 60, 3) := by decide +kernel
theorem dX10_say_67 : decode cX10_say 67 = .ok (.aload_n 0, 1) := by decide +kernel
theorem dX10_say_68 : decode cX10_say 68 = .ok (.iload 6, 2) := by decide +kernel
theorem dX10_say_70 : decode cX10_say 70 = .ok (.iload 5, 2) := by decide +kernel
theorem dX10_say_72 : decode cX10_say 72 = .ok (.invokestatic 57, 3) := by decide +kernel
theorem dX10_say_75 : decode cX10_say 75 = .ok (.iload_n 3, 1) := by decide +kernel
theorem dX10_say_76 : decode cX10_say 76 = .ok (.iload 4, 2) := by decide +kernel
theorem dX10_say_78 : decode cX10_say 78 = .ok (.iconst 1, 1) := by decide +kernel
theorem dX10_say_79 : decode cX10_say 79 = .ok (.iadd, 1) := by decide +kernel
theorem dX10_say_80 : decode cX10_say 80 = .ok (.invokevirtual 63, 3) := by decide +kernel
theorem dX10_say_83 : decode cX10_say 83 = .ok (.ireturn, 1) := by decide +kernel
theorem dX10_work_0 : decode cX10_work 0 = .ok (.iload_n 1, 1) := by decide +kernel
theorem dX10_work_1 : decode cX10_work 1 = .ok (.lookupswitch 308 #[(10, 123), (11, 130), (12, 145), (13, 163), (20, 169), (21, 181), (30, 204), (40, 216), (41, 228), (50, 243), (60, 255), (61, 267), (70, 290), (71, 293)], 123) := by decide +kernel
theorem dX10_work_124 : decode cX10_work 124 = .ok (.iload_n 3, 1) := by decide +kernel
theorem dX10_work_125 : decode cX10_work 125 = .ok (.aload_n 0, 1) := by decide +kernel
theorem dX10_work_126 : decode cX10_work 126 = .ok (.getfield 38, 3) := by decide +kernel
theorem dX10_work_129 : decode cX10_work 129 = .ok (.iadd, 1) := by decide +kernel
theorem dX10_work_130 : decode cX10_work 130 = .ok (.ireturn, 1) := by decide +kernel
theorem dX10_work_131 : decode cX10_work 131 = .ok (.aload_n 0, 1) := by decide +kernel
theorem dX10_work_132 : decode cX10_work 132 = .ok (.aload_n 0, 1) := by decide +kernel
theorem dX10_work_133 : decode cX10_work 133 = .ok (.getfield 34, 3) := by decide +kernel
theorem dX10_work_136 : decode cX10_work 136 = .ok (.iconst 0, 1) := by decide +kernel
theorem dX10_work_137 : decode cX10_work 137 = .ok (.iload_n 3, 1) := by decide +kernel
theorem dX10_work_138 : decode cX10_work 138 = .ok (.iload 4, 2) := by decide +kernel
theorem dX10_work_140 : decode cX10_work 140 = .ok (.invokevirtual 47, 3) := by decide +kernel
theorem dX10_work_143 : decode cX10_work 143 = .ok (.iconst 2, 1) := by decide +kernel
theorem dX10_work_144 : decode cX10_work 144 = .ok (.imul, 1) := by decide +kernel
theorem dX10_work_145 : decode cX10_work 145 = .ok (.ireturn, 1) := by decide +kernel
theorem dX10_work_146 : decode cX10_work 146 = .ok (.aload_n 0, 1) := by decide +kernel
theorem dX10_work_147 : decode cX10_work 147 = .ok (.aload_n 0, 1) := by decide +kernel
theorem dX10_work_148 : decode cX10_work 148 = .ok (.getfield 34, 3) := by decide +kernel
theorem dX10_work_151 : decode cX10_work 151 = .ok (.iconst 1, 1) := by decide +kernel
theorem dX10_work_152 : decode cX10_work 152 = .ok (.iload_n 3, 1) := by decide +kernel
theorem dX10_work_153 : decode cX10_work 153 = .ok (.iload 4, 2) := by decide +kernel
theorem dX10_work_155 : decode cX10_work 155 = .ok (.invokevirtual 47, 3) := by decide +kernel
theorem dX10_work_158 : decode cX10_work 158 = .ok (.aload_n 0, 1) := by decide +kernel
theorem dX10_work_159 : decode cX10_work 159 = .ok (.getfield 44, 3) := by decide +kernel
theorem dX10_work_162 : decode cX10_work 162 = .ok (.isub, 1) := by decide +kernel
theorem dX10_work_163 : decode cX10_work 163 = .ok (.ireturn, 1) := by decide +kernel
theorem dX10_work_164 : decode cX10_work 164 = .ok (.aload_n 0, 1) := by decide +kernel
theorem dX10_work_165 : decode cX10_work 165 = .ok (.iload_n 3, 1) := by decide +kernel
theorem dX10_work_166 : decode cX10_work 166 = .ok (.invokevirtual 66, 3) := by decide +kernel
theorem dX10_work_169 : decode cX10_work 169 = .ok (.ireturn, 1) := by decide +kernel
theorem dX10_work_170 : decode cX10_work 170 = .ok (.aload_n 0, 1) := by decide +kernel
theorem dX10_work_171 : decode cX10_work 171 = .ok (.iload_n 2, 1) := by decide +kernel
theorem dX10_work_172 : decode cX10_work 172 = .ok (.iconst 0, 1) := by decide +kernel
theorem dX10_work_173 : decode cX10_work 173 = .ok (.iload_n 3, 1) := by decide +kernel
theorem dX10_work_174 : decode cX10_work 174 = .ok (.iload 4, 2) := by decide +kernel
theorem dX10_work_176 : decode cX10_work 176 = .ok (.invokevirtual 47, 3) := by decide +kernel
theorem dX10_work_179 : decode cX10_work 179 = .ok (.iconst 5, 1) := by decide +kernel
theorem dX10_work_180 : decode cX10_work 180 = .ok (.iadd, 1) := by decide +kernel
theorem dX10_work_181 : decode cX10_work 181 = .ok (.ireturn, 1) := by decide +kernel
theorem dX10_work_182 : decode cX10_work 182 = .ok (.aload_n 0, 1) := by decide +kernel
theorem dX10_work_183 : decode cX10_work 183 = .ok (.iload_n 2, 1) := by decide +kernel
theorem dX10_work_184 : decode cX10_work 184 = .ok (.iconst 3, 1) := by decide +kernel
theorem dX10_work_185 : decode cX10_work 185 = .ok (.iload_n 3, 1) := by decide +kernel
theorem dX10_work_186 : decode cX10_work 186 = .ok (.iload 4, 2) := by decide +kernel
theorem dX10_work_188 : decode cX10_work 188 = .ok (.invokevirtual 47, 3) := by decide +kernel
theorem dX10_work_191 : decode cX10_work 191 = .ok (.aload_n 0, 1) := by decide +kernel
theorem dX10_work_192 : decode cX10_work 192 = .ok (.aload_n 0, 1) := by decide +kernel
theorem dX10_work_193 : decode cX10_work 193 = .ok (.getfield 34, 3) := by decide +kernel
theorem dX10_work_196 : decode cX10_work 196 = .ok (.iconst 1, 1) := by decide +kernel
theorem dX10_work_197 : decode cX10_work 197 = .ok (.iconst 1, 1) := by decide +kernel
theorem dX10_work_198 : decode cX10_work 198 = .ok (.iload 4, 2) := by decide +kernel
theorem dX10_work_200 : decode cX10_work 200 = .ok (.invokevirtual 47, 3) := by decide +kernel
theorem dX10_work_203 : decode cX10_work 203 = .ok (.iadd, 1) := by decide +kernel
theorem dX10_work_204 : decode cX10_work 204 = .ok (.ireturn, 1) := by decide +kernel
theorem dX10_work_205 : decode cX10_work 205 = .ok (.iconst 0, 1) := by decide +kernel
theorem dX10_work_206 : decode cX10_work 206 = .ok (.aload_n 0, 1) := by decide +kernel
theorem dX10_work_207 : decode cX10_work 207 = .ok (.iload_n 2, 1) := by decide +kernel
theorem dX10_work_208 : decode cX10_work 208 = .ok (.iconst 1, 1) := by decide +kernel
theorem dX10_work_209 : decode cX10_work 209 = .ok (.iload_n 3, 1) := by decide +kernel
theorem dX10_work_210 : decode cX10_work 210 = .ok (.iload 4, 2) := by decide +kernel
theorem dX10_work_212 : decode cX10_work 212 = .ok (.invokevirtual 47, 3) := by decide +kernel
theorem dX10_work_215 : decode cX10_work 215 = .ok (.isub, 1) := by decide +kernel
theorem dX10_work_216 : decode cX10_work 216 = .ok (.ireturn, 1) := by decide +kernel
theorem dX10_work_217 : decode cX10_work 217 = .ok (.aload_n 0, 1) := by decide +kernel
theorem dX10_work_218 : decode cX10_work 218 = .ok (.iload_n 2, 1) := by decide +kernel
theorem dX10_work_219 : decode cX10_work 219 = .ok (.iconst 0, 1) := by decide +kernel
theorem dX10_work_220 : decode cX10_work 220 = .ok (.iload_n 3, 1) := by decide +kernel
theorem dX10_work_221 : decode cX10_work 221 = .ok (.iconst 2, 1) := by decide +kernel
theorem dX10_work_222 : decode cX10_work 222 = .ok (.idiv, 1) := by decide +kernel
theorem dX10_work_223 : decode cX10_work 223 = .ok (.iload 4, 2) := by decide +kernel
theorem dX10_work_225 : decode cX10_work 225 = .ok (.invokevirtual 47, 3) := by decide +kernel
theorem dX10_work_228 : decode cX10_work 228 = .ok (.ireturn, 1) := by decide +kernel
theorem dX10_work_229 : decode cX10_work 229 = .ok (.aload_n 0, 1) := by decide +kernel
theorem dX10_work_230 : decode cX10_work 230 = .ok (.iload_n 2, 1) := by decide +kernel
theorem dX10_work_231 : decode cX10_work 231 = .ok (.iconst 2, 1) := by decide +kernel
theorem dX10_work_232 : decode cX10_work 232 = .ok (.iload_n 3, 1) := by decide +kernel
theorem dX10_work_233 : decode cX10_work 233 = .ok (.iload 4, 2) := by decide +kernel
theorem dX10_work_235 : decode cX10_work 235 = .ok (.invokevirtual 47, 3) := by decide +kernel
theorem dX10_work_238 : decode cX10_work 238 = .ok (.aload_n 0, 1) := by decide +kernel
theorem dX10_work_239 : decode cX10_work 239 = .ok (.getfield 38, 3) := by decide +kernel
theorem dX10_work_242 : decode cX10_work 242 = .ok (.ixor, 1) := by decide +kernel
theorem dX10_work_243 : decode cX10_work 243 = .ok (.ireturn, 1) := by decide +kernel
theorem dX10_work_244 : decode cX10_work 244 = .ok (.aload_n 0, 1) := by decide +kernel
theorem dX10_work_245 : decode cX10_work 245 = .ok (.iload_n 2, 1) := by decide +kernel
theorem dX10_work_246 : decode cX10_work 246 = .ok (.iconst 2, 1) := by decide +kernel
theorem dX10_work_247 : decode cX10_work 247 = .ok (.iload_n 3, 1) := by decide +kernel
theorem dX10_work_248 : decode cX10_work 248 = .ok (.iconst 1, 1) := by decide +kernel
theorem dX10_work_249 : decode cX10_work 249 = .ok (.iadd, 1) := by decide +kernel
theorem dX10_work_250 : decode cX10_work 250 = .ok (.iload 4, 2) := by decide +kernel
theorem dX10_work_252 : decode cX10_work 252 = .ok (.invokevirtual 47, 3) := by decide +kernel
theorem dX10_work_255 : decode cX10_work 255 = .ok (.ireturn, 1) := by decide +kernel
theorem dX10_work_256 : decode cX10_work 256 = .ok (.aload_n 0, 1) := by decide +kernel
theorem dX10_work_257 : decode cX10_work 257 = .ok (.iload_n 2, 1) := by decide +kernel
theorem dX10_work_258 : decode cX10_work 258 = .ok (.iconst 0, 1) := by decide +kernel
theorem dX10_work_259 : decode cX10_work 259 = .ok (.iload_n 3, 1) := by decide +kernel
theorem dX10_work_260 : decode cX10_work 260 = .ok (.iload 4, 2) := by decide +kernel
theorem dX10_work_262 : decode cX10_work 262 = .ok (.invokevirtual 47, 3) := by decide +kernel
theorem dX10_work_265 : decode cX10_work 265 = .ok (.iconst 3, 1) := by decide +kernel
theorem dX10_work_266 : decode cX10_work 266 = .ok (.imul, 1) := by decide +kernel
theorem dX10_work_267 : decode cX10_work 267 = .ok (.ireturn, 1) := by decide +kernel
theorem dX10_work_268 : decode cX10_work 268 = .ok (.aload_n 0, 1) := by decide +kernel
theorem dX10_work_269 : decode cX10_work 269 = .ok (.iload_n 2, 1) := by decide +kernel
theorem dX10_work_270 : decode cX10_work 270 = .ok (.iconst 3, 1) := by decide +kernel
theorem dX10_work_271 : decode cX10_work 271 = .ok (.iload_n 3, 1) := by decide +kernel
theorem dX10_work_272 : decode cX10_work 272 = .ok (.iload 4, 2) := by decide +kernel
theorem dX10_work_274 : decode cX10_work 274 = .ok (.invokevirtual 47, 3) := by decide +kernel
theorem dX10_work_277 : decode cX10_work 277 = .ok (.aload_n 0, 1) := by decide +kernel
theorem dX10_work_278 : decode cX10_work 278 = .ok (.aload_n 0, 1) := by decide +kernel
theorem dX10_work_279 : decode cX10_work 279 = .ok (.getfield 34, 3) := by decide +kernel
theorem dX10_work_282 : decode cX10_work 282 = .ok (.iconst 2, 1) := by decide +kernel
theorem dX10_work_283 : decode cX10_work 283 = .ok (.iconst 0, 1) := by decide +kernel
theorem dX10_work_284 : decode cX10_work 284 = .ok (.iload 4, 2) := by decide +kernel
theorem dX10_work_286 : decode cX10_work 286 = .ok (.invokevirtual 47, 3) := by decide +kernel
theorem dX10_work_289 : decode cX10_work 289 = .ok (.isub, 1) := by decide +kernel
theorem dX10_work_290 : decode cX10_work 290 = .ok (.ireturn, 1) := by decide +kernel
theorem dX10_work_291 : decode cX10_work 291 = .ok (.bipush 8, 2) := by decide +kernel
theorem dX10_work_293 : decode cX10_work 293 = .ok (.ireturn, 1) := by decide +kernel
theorem dX10_work_294 : decode cX10_work 294 = .ok (.aload_n 0, 1) := by decide +kernel
theorem dX10_work_295 : decode cX10_work 295 = .ok (.iload_n 2, 1) := by decide +kernel
theorem dX10_work_296 : decode cX10_work 296 = .ok (.iconst 1, 1) := by decide +kernel
theorem dX10_work_297 : decode cX10_work 297 = .ok (.iload_n 3, 1) := by decide +kernel
theorem dX10_work_298 : decode cX10_work 298 = .ok (.iload 4, 2) := by decide +kernel
theorem dX10_work_300 : decode cX10_work 300 = .ok (.invokevirtual 47, 3) := by decide +kernel
theorem dX10_work_303 : decode cX10_work 303 = .ok (.aload_n 0, 1) := by decide +kernel
theorem dX10_work_304 : decode cX10_work 304 = .ok (.getfield 38, 3) := by decide +kernel
theorem dX10_work_307 : decode cX10_work 307 = .ok (.iadd, 1) := by decide +kernel
theorem dX10_work_308 : decode cX10_work 308 = .ok (.ireturn, 1) := by decide +kernel
theorem dX10_work_309 : decode cX10_work 309 = .ok (.iconst 0, 1) := by decide +kernel
theorem dX10_work_310 : decode cX10_work 310 = .ok (.ireturn, 1) := by decide +kernel
theorem dX10_minded_0 : decode cX10_minded 0 = .ok (.aload_n 0, 1) := by decide +kernel
theorem dX10_minded_1 : decode cX10_minded 1 = .ok (.getfield 44, 3) := by decide +kernel
theorem dX10_minded_4 : decode cX10_minded 4 = .ok (.aload_n 0, 1) := by decide +kernel
theorem dX10_minded_5 : decode cX10_minded 5 = .ok (.getfield 38, 3) := by decide +kernel
theorem dX10_minded_8 : decode cX10_minded 8 = .ok (.isub, 1) := by decide +kernel
theorem dX10_minded_9 : decode cX10_minded 9 = .ok (.istore_n 2, 1) := by decide +kernel
theorem dX10_minded_10 : decode cX10_minded 10 = .ok (.iload_n 2, 1) := by decide +kernel
theorem dX10_minded_11 : decode cX10_minded 11 = .ok (.ifCond .ne 10, 3) := by decide +kernel
theorem dX10_minded_14 : decode cX10_minded 14 = .ok (.aload_n 0, 1) := by decide +kernel
theorem dX10_minded_15 : decode cX10_minded 15 = .ok (.iconst 1, 1) := by decide +kernel
theorem dX10_minded_16 : decode cX10_minded 16 = .ok (.putfield 21, 3) := by decide +kernel
theorem dX10_minded_19 : decode cX10_minded 19 = .ok (.iconst 0, 1) := by decide +kernel
theorem dX10_minded_20 : decode cX10_minded 20 = .ok (.ireturn, 1) := by decide +kernel
theorem dX10_minded_21 : decode cX10_minded 21 = .ok (.iload_n 1, 1) := by decide +kernel
theorem dX10_minded_22 : decode cX10_minded 22 = .ok (.iload_n 2, 1) := by decide +kernel
theorem dX10_minded_23 : decode cX10_minded 23 = .ok (.idiv, 1) := by decide +kernel
theorem dX10_minded_24 : decode cX10_minded 24 = .ok (.ireturn, 1) := by decide +kernel
theorem dX10_bodyOf_0 : decode cX10_bodyOf 0 = .ok (.iload_n 0, 1) := by decide +kernel
theorem dX10_bodyOf_1 : decode cX10_bodyOf 1 = .ok (.iconst 4, 1) := by decide +kernel
theorem dX10_bodyOf_2 : decode cX10_bodyOf 2 = .ok (.imul, 1) := by decide +kernel
theorem dX10_bodyOf_3 : decode cX10_bodyOf 3 = .ok (.iload_n 1, 1) := by decide +kernel
theorem dX10_bodyOf_4 : decode cX10_bodyOf 4 = .ok (.iadd, 1) := by decide +kernel
theorem dX10_bodyOf_5 : decode cX10_bodyOf 5 = .ok (.istore_n 2, 1) := by decide +kernel
theorem dX10_bodyOf_6 : decode cX10_bodyOf 6 = .ok (.iload_n 0, 1) := by decide +kernel
theorem dX10_bodyOf_7 : decode cX10_bodyOf 7 = .ok (.ifCond .lt 23, 3) := by decide +kernel
theorem dX10_bodyOf_10 : decode cX10_bodyOf 10 = .ok (.iload_n 2, 1) := by decide +kernel
theorem dX10_bodyOf_11 : decode cX10_bodyOf 11 = .ok (.ifCond .lt 19, 3) := by decide +kernel
theorem dX10_bodyOf_14 : decode cX10_bodyOf 14 = .ok (.iload_n 2, 1) := by decide +kernel
theorem dX10_bodyOf_15 : decode cX10_bodyOf 15 = .ok (.getstatic 69, 3) := by decide +kernel
theorem dX10_bodyOf_18 : decode cX10_bodyOf 18 = .ok (.arraylength, 1) := by decide +kernel
theorem dX10_bodyOf_19 : decode cX10_bodyOf 19 = .ok (.if_icmp .ge 11, 3) := by decide +kernel
theorem dX10_bodyOf_22 : decode cX10_bodyOf 22 = .ok (.getstatic 69, 3) := by decide +kernel
theorem dX10_bodyOf_25 : decode cX10_bodyOf 25 = .ok (.iload_n 2, 1) := by decide +kernel
theorem dX10_bodyOf_26 : decode cX10_bodyOf 26 = .ok (.iaload, 1) := by decide +kernel
theorem dX10_bodyOf_27 : decode cX10_bodyOf 27 = .ok (.goto 4, 3) := by decide +kernel
theorem dX10_bodyOf_30 : decode cX10_bodyOf 30 = .ok (.iconst 0, 1) := by decide +kernel
theorem dX10_bodyOf_31 : decode cX10_bodyOf 31 = .ok (.ireturn, 1) := by decide +kernel
theorem dJ11_isValidCodePoint_9a6ad_0 : decode cJ11_isValidCodePoint_9a6ad 0 = .ok (.iload_n 0, 1) := by decide +kernel
theorem dJ11_isValidCodePoint_9a6ad_1 : decode cJ11_isValidCodePoint_9a6ad 1 = .ok (.bipush 16, 2) := by decide +kernel
theorem dJ11_isValidCodePoint_9a6ad_3 : decode cJ11_isValidCodePoint_9a6ad 3 = .ok (.iushr, 1) := by decide +kernel
theorem dJ11_isValidCodePoint_9a6ad_4 : decode cJ11_isValidCodePoint_9a6ad 4 = .ok (.istore_n 1, 1) := by decide +kernel
theorem dJ11_isValidCodePoint_9a6ad_5 : decode cJ11_isValidCodePoint_9a6ad 5 = .ok (.iload_n 1, 1) := by decide +kernel
theorem dJ11_isValidCodePoint_9a6ad_6 : decode cJ11_isValidCodePoint_9a6ad 6 = .ok (.bipush 17, 2) := by decide +kernel
theorem dJ11_isValidCodePoint_9a6ad_8 : decode cJ11_isValidCodePoint_9a6ad 8 = .ok (.if_icmp .ge 7, 3) := by decide +kernel
theorem dJ11_isValidCodePoint_9a6ad_11 : decode cJ11_isValidCodePoint_9a6ad 11 = .ok (.iconst 1, 1) := by decide +kernel
theorem dJ11_isValidCodePoint_9a6ad_12 : decode cJ11_isValidCodePoint_9a6ad 12 = .ok (.goto 4, 3) := by decide +kernel
theorem dJ11_isValidCodePoint_9a6ad_15 : decode cJ11_isValidCodePoint_9a6ad 15 = .ok (.iconst 0, 1) := by decide +kernel
theorem dJ11_isValidCodePoint_9a6ad_16 : decode cJ11_isValidCodePoint_9a6ad 16 = .ok (.ireturn, 1) := by decide +kernel
theorem dJ11_highSurrogate_5068e_0 : decode cJ11_highSurrogate_5068e 0 = .ok (.iload_n 0, 1) := by decide +kernel
theorem dJ11_highSurrogate_5068e_1 : decode cJ11_highSurrogate_5068e 1 = .ok (.bipush 10, 2) := by decide +kernel
theorem dJ11_highSurrogate_5068e_3 : decode cJ11_highSurrogate_5068e 3 = .ok (.iushr, 1) := by decide +kernel
theorem dJ11_highSurrogate_5068e_4 : decode cJ11_highSurrogate_5068e 4 = .ok (.ldc 110, 2) := by decide +kernel
theorem dJ11_highSurrogate_5068e_6 : decode cJ11_highSurrogate_5068e 6 = .ok (.iadd, 1) := by decide +kernel
theorem dJ11_highSurrogate_5068e_7 : decode cJ11_highSurrogate_5068e 7 = .ok (.i2c, 1) := by decide +kernel
theorem dJ11_highSurrogate_5068e_8 : decode cJ11_highSurrogate_5068e 8 = .ok (.ireturn, 1) := by decide +kernel
theorem dJ11_lowSurrogate_5068e_0 : decode cJ11_lowSurrogate_5068e 0 = .ok (.iload_n 0, 1) := by decide +kernel
theorem dJ11_lowSurrogate_5068e_1 : decode cJ11_lowSurrogate_5068e 1 = .ok (.sipush 1023, 3) := by decide +kernel
theorem dJ11_lowSurrogate_5068e_4 : decode cJ11_lowSurrogate_5068e 4 = .ok (.iand, 1) := by decide +kernel
theorem dJ11_lowSurrogate_5068e_5 : decode cJ11_lowSurrogate_5068e 5 = .ok (.ldc 76, 2) := by decide +kernel
theorem dJ11_lowSurrogate_5068e_7 : decode cJ11_lowSurrogate_5068e 7 = .ok (.iadd, 1) := by decide +kernel
theorem dJ11_lowSurrogate_5068e_8 : decode cJ11_lowSurrogate_5068e 8 = .ok (.i2c, 1) := by decide +kernel
theorem dJ11_lowSurrogate_5068e_9 : decode cJ11_lowSurrogate_5068e 9 = .ok (.ireturn, 1) := by decide +kernel
theorem dJ9_abs_067f4_0 : decode cJ9_abs_067f4 0 = .ok (.lload_n 0, 1) := by decide +kernel
theorem dJ9_abs_067f4_1 : decode cJ9_abs_067f4 1 = .ok (.lconst 0, 1) := by decide +kernel
theorem dJ9_abs_067f4_2 : decode cJ9_abs_067f4 2 = .ok (.lcmp, 1) := by decide +kernel
theorem dJ9_abs_067f4_3 : decode cJ9_abs_067f4 3 = .ok (.ifCond .ge 8, 3) := by decide +kernel
theorem dJ9_abs_067f4_6 : decode cJ9_abs_067f4 6 = .ok (.lload_n 0, 1) := by decide +kernel
theorem dJ9_abs_067f4_7 : decode cJ9_abs_067f4 7 = .ok (.lneg, 1) := by decide +kernel
theorem dJ9_abs_067f4_8 : decode cJ9_abs_067f4 8 = .ok (.goto 4, 3) := by decide +kernel
theorem dJ9_abs_067f4_11 : decode cJ9_abs_067f4 11 = .ok (.lload_n 0, 1) := by decide +kernel
theorem dJ9_abs_067f4_12 : decode cJ9_abs_067f4 12 = .ok (.lreturn, 1) := by decide +kernel
theorem dJ9_max_7cf53_0 : decode cJ9_max_7cf53 0 = .ok (.iload_n 0, 1) := by decide +kernel
theorem dJ9_max_7cf53_1 : decode cJ9_max_7cf53 1 = .ok (.iload_n 1, 1) := by decide +kernel
theorem dJ9_max_7cf53_2 : decode cJ9_max_7cf53 2 = .ok (.if_icmp .lt 7, 3) := by decide +kernel
theorem dJ9_max_7cf53_5 : decode cJ9_max_7cf53 5 = .ok (.iload_n 0, 1) := by decide +kernel
theorem dJ9_max_7cf53_6 : decode cJ9_max_7cf53 6 = .ok (.goto 4, 3) := by decide +kernel
theorem dJ9_max_7cf53_9 : decode cJ9_max_7cf53 9 = .ok (.iload_n 1, 1) := by decide +kernel
theorem dJ9_max_7cf53_10 : decode cJ9_max_7cf53 10 = .ok (.ireturn, 1) := by decide +kernel
theorem dJ9_min_7cf53_0 : decode cJ9_min_7cf53 0 = .ok (.iload_n 0, 1) := by decide +kernel
theorem dJ9_min_7cf53_1 : decode cJ9_min_7cf53 1 = .ok (.iload_n 1, 1) := by decide +kernel
theorem dJ9_min_7cf53_2 : decode cJ9_min_7cf53 2 = .ok (.if_icmp .gt 7, 3) := by decide +kernel
theorem dJ9_min_7cf53_5 : decode cJ9_min_7cf53 5 = .ok (.iload_n 0, 1) := by decide +kernel
theorem dJ9_min_7cf53_6 : decode cJ9_min_7cf53 6 = .ok (.goto 4, 3) := by decide +kernel
theorem dJ9_min_7cf53_9 : decode cJ9_min_7cf53 9 = .ok (.iload_n 1, 1) := by decide +kernel
theorem dJ9_min_7cf53_10 : decode cJ9_min_7cf53 10 = .ok (.ireturn, 1) := by decide +kernel
theorem dJ0_length_8abf5_0 : decode cJ0_length_8abf5 0 = .ok (.aload_n 0, 1) := by decide +kernel
theorem dJ0_length_8abf5_1 : decode cJ0_length_8abf5 1 = .ok (.getfield 9, 3) := by decide +kernel
theorem dJ0_length_8abf5_4 : decode cJ0_length_8abf5 4 = .ok (.arraylength, 1) := by decide +kernel
theorem dJ0_length_8abf5_5 : decode cJ0_length_8abf5 5 = .ok (.aload_n 0, 1) := by decide +kernel
theorem dJ0_length_8abf5_6 : decode cJ0_length_8abf5 6 = .ok (.invokevirtual 335, 3) := by decide +kernel
theorem dJ0_length_8abf5_9 : decode cJ0_length_8abf5 9 = .ok (.ishr, 1) := by decide +kernel
theorem dJ0_length_8abf5_10 : decode cJ0_length_8abf5 10 = .ok (.ireturn, 1) := by decide +kernel
theorem dJ0_indexOf_0f7a4_0 : decode cJ0_indexOf_0f7a4 0 = .ok (.aload_n 0, 1) := by decide +kernel
theorem dJ0_indexOf_0f7a4_1 : decode cJ0_indexOf_0f7a4 1 = .ok (.iload_n 1, 1) := by decide +kernel
theorem dJ0_indexOf_0f7a4_2 : decode cJ0_indexOf_0f7a4 2 = .ok (.iconst 0, 1) := by decide +kernel
theorem dJ0_indexOf_0f7a4_3 : decode cJ0_indexOf_0f7a4 3 = .ok (.invokevirtual 633, 3) := by decide +kernel
theorem dJ0_indexOf_0f7a4_6 : decode cJ0_indexOf_0f7a4 6 = .ok (.ireturn, 1) := by decide +kernel
theorem dJ0_indexOf_7cf53_0 : decode cJ0_indexOf_7cf53 0 = .ok (.aload_n 0, 1) := by decide +kernel
theorem dJ0_indexOf_7cf53_1 : decode cJ0_indexOf_7cf53 1 = .ok (.invokevirtual 492, 3) := by decide +kernel
theorem dJ0_indexOf_7cf53_4 : decode cJ0_indexOf_7cf53 4 = .ok (.ifCond .eq 19, 3) := by decide +kernel
theorem dJ0_indexOf_7cf53_7 : decode cJ0_indexOf_7cf53 7 = .ok (.aload_n 0, 1) := by decide +kernel
theorem dJ0_indexOf_7cf53_8 : decode cJ0_indexOf_7cf53 8 = .ok (.getfield 9, 3) := by decide +kernel
theorem dJ0_indexOf_7cf53_11 : decode cJ0_indexOf_7cf53 11 = .ok (.iload_n 1, 1) := by decide +kernel
theorem dJ0_indexOf_7cf53_12 : decode cJ0_indexOf_7cf53 12 = .ok (.iload_n 2, 1) := by decide +kernel
theorem dJ0_indexOf_7cf53_13 : decode cJ0_indexOf_7cf53 13 = .ok (.aload_n 0, 1) := by decide +kernel
theorem dJ0_indexOf_7cf53_14 : decode cJ0_indexOf_7cf53 14 = .ok (.invokevirtual 505, 3) := by decide +kernel
theorem dJ0_indexOf_7cf53_17 : decode cJ0_indexOf_7cf53 17 = .ok (.invokestatic 637, 3) := by decide +kernel
theorem dJ0_indexOf_7cf53_20 : decode cJ0_indexOf_7cf53 20 = .ok (.goto 16, 3) := by decide +kernel
theorem dJ0_indexOf_7cf53_23 : decode cJ0_indexOf_7cf53 23 = .ok (.aload_n 0, 1) := by decide +kernel
theorem dJ0_indexOf_7cf53_24 : decode cJ0_indexOf_7cf53 24 = .ok (.getfield 9, 3) := by decide +kernel
theorem dJ0_indexOf_7cf53_27 : decode cJ0_indexOf_7cf53 27 = .ok (.iload_n 1, 1) := by decide +kernel
theorem dJ0_indexOf_7cf53_28 : decode cJ0_indexOf_7cf53 28 = .ok (.iload_n 2, 1) := by decide +kernel
theorem dJ0_indexOf_7cf53_29 : decode cJ0_indexOf_7cf53 29 = .ok (.aload_n 0, 1) := by decide +kernel
theorem dJ0_indexOf_7cf53_30 : decode cJ0_indexOf_7cf53 30 = .ok (.invokevirtual 505, 3) := by decide +kernel
theorem dJ0_indexOf_7cf53_33 : decode cJ0_indexOf_7cf53 33 = .ok (.invokestatic 640, 3) := by decide +kernel
theorem dJ0_indexOf_7cf53_36 : decode cJ0_indexOf_7cf53 36 = .ok (.ireturn, 1) := by decide +kernel
theorem dJ0_coder_7d493_0 : decode cJ0_coder_7d493 0 = .ok (.getstatic 38, 3) := by decide +kernel
theorem dJ0_coder_7d493_3 : decode cJ0_coder_7d493 3 = .ok (.ifCond .eq 10, 3) := by decide +kernel
theorem dJ0_coder_7d493_6 : decode cJ0_coder_7d493 6 = .ok (.aload_n 0, 1) := by decide +kernel
theorem dJ0_coder_7d493_7 : decode cJ0_coder_7d493 7 = .ok (.getfield 15, 3) := by decide +kernel
theorem dJ0_coder_7d493_10 : decode cJ0_coder_7d493 10 = .ok (.goto 4, 3) := by decide +kernel
theorem dJ0_coder_7d493_13 : decode cJ0_coder_7d493 13 = .ok (.iconst 1, 1) := by decide +kernel
theorem dJ0_coder_7d493_14 : decode cJ0_coder_7d493 14 = .ok (.ireturn, 1) := by decide +kernel
theorem dJ0_isLatin1_aae02_0 : decode cJ0_isLatin1_aae02 0 = .ok (.getstatic 38, 3) := by decide +kernel
theorem dJ0_isLatin1_aae02_3 : decode cJ0_isLatin1_aae02 3 = .ok (.ifCond .eq 14, 3) := by decide +kernel
theorem dJ0_isLatin1_aae02_6 : decode cJ0_isLatin1_aae02 6 = .ok (.aload_n 0, 1) := by decide +kernel
theorem dJ0_isLatin1_aae02_7 : decode cJ0_isLatin1_aae02 7 = .ok (.getfield 15, 3) := by decide +kernel
theorem dJ0_isLatin1_aae02_10 : decode cJ0_isLatin1_aae02 10 = .ok (.ifCond .ne 7, 3) := by decide +kernel
theorem dJ0_isLatin1_aae02_13 : decode cJ0_isLatin1_aae02 13 = .ok (.iconst 1, 1) := by decide +kernel
theorem dJ0_isLatin1_aae02_14 : decode cJ0_isLatin1_aae02 14 = .ok (.goto 4, 3) := by decide +kernel
theorem dJ0_isLatin1_aae02_17 : decode cJ0_isLatin1_aae02 17 = .ok (.iconst 0, 1) := by decide +kernel
theorem dJ0_isLatin1_aae02_18 : decode cJ0_isLatin1_aae02 18 = .ok (.ireturn, 1) := by decide +kernel
theorem dJ0_checkBoundsBeginEnd_23922_0 : decode cJ0_checkBoundsBeginEnd_23922 0 = .ok (.iload_n 0, 1) := by decide +kernel
theorem dJ0_checkBoundsBeginEnd_23922_1 : decode cJ0_checkBoundsBeginEnd_23922 1 = .ok (.iload_n 1, 1) := by decide +kernel
theorem dJ0_checkBoundsBeginEnd_23922_2 : decode cJ0_checkBoundsBeginEnd_23922 2 = .ok (.iload_n 2, 1) := by decide +kernel
theorem dJ0_checkBoundsBeginEnd_23922_3 : decode cJ0_checkBoundsBeginEnd_23922 3 = .ok (.getstatic 1053, 3) := by decide +kernel
theorem dJ0_checkBoundsBeginEnd_23922_6 : decode cJ0_checkBoundsBeginEnd_23922 6 = .ok (.invokestatic 1062, 3) := by decide +kernel
theorem dJ0_checkBoundsBeginEnd_23922_9 : decode cJ0_checkBoundsBeginEnd_23922 9 = .ok (.pop, 1) := by decide +kernel
theorem dJ0_checkBoundsBeginEnd_23922_10 : decode cJ0_checkBoundsBeginEnd_23922 10 = .ok (.return_, 1) := by decide +kernel
theorem dJ1_canEncode_9a6ad_0 : decode cJ1_canEncode_9a6ad 0 = .ok (.iload_n 0, 1) := by decide +kernel
theorem dJ1_canEncode_9a6ad_1 : decode cJ1_canEncode_9a6ad 1 = .ok (.ifCond .lt 14, 3) := by decide +kernel
theorem dJ1_canEncode_9a6ad_4 : decode cJ1_canEncode_9a6ad 4 = .ok (.iload_n 0, 1) := by decide +kernel
theorem dJ1_canEncode_9a6ad_5 : decode cJ1_canEncode_9a6ad 5 = .ok (.sipush 255, 3) := by decide +kernel
theorem dJ1_canEncode_9a6ad_8 : decode cJ1_canEncode_9a6ad 8 = .ok (.if_icmp .gt 7, 3) := by decide +kernel
theorem dJ1_canEncode_9a6ad_11 : decode cJ1_canEncode_9a6ad 11 = .ok (.iconst 1, 1) := by decide +kernel
theorem dJ1_canEncode_9a6ad_12 : decode cJ1_canEncode_9a6ad 12 = .ok (.goto 4, 3) := by decide +kernel
theorem dJ1_canEncode_9a6ad_15 : decode cJ1_canEncode_9a6ad 15 = .ok (.iconst 0, 1) := by decide +kernel
theorem dJ1_canEncode_9a6ad_16 : decode cJ1_canEncode_9a6ad 16 = .ok (.ireturn, 1) := by decide +kernel
theorem dJ1_indexOf_4cfef_0 : decode cJ1_indexOf_4cfef 0 = .ok (.iload_n 1, 1) := by decide +kernel
theorem dJ1_indexOf_4cfef_1 : decode cJ1_indexOf_4cfef 1 = .ok (.invokestatic 88, 3) := by decide +kernel
theorem dJ1_indexOf_4cfef_4 : decode cJ1_indexOf_4cfef 4 = .ok (.ifCond .ne 5, 3) := by decide +kernel
theorem dJ1_indexOf_4cfef_7 : decode cJ1_indexOf_4cfef 7 = .ok (.iconst (-1), 1) := by decide +kernel
theorem dJ1_indexOf_4cfef_8 : decode cJ1_indexOf_4cfef 8 = .ok (.ireturn, 1) := by decide +kernel
theorem dJ1_indexOf_4cfef_9 : decode cJ1_indexOf_4cfef 9 = .ok (.iload_n 2, 1) := by decide +kernel
theorem dJ1_indexOf_4cfef_10 : decode cJ1_indexOf_4cfef 10 = .ok (.iconst 0, 1) := by decide +kernel
theorem dJ1_indexOf_4cfef_11 : decode cJ1_indexOf_4cfef 11 = .ok (.invokestatic 92, 3) := by decide +kernel
theorem dJ1_indexOf_4cfef_14 : decode cJ1_indexOf_4cfef 14 = .ok (.istore_n 2, 1) := by decide +kernel
theorem dJ1_indexOf_4cfef_15 : decode cJ1_indexOf_4cfef 15 = .ok (.iload_n 3, 1) := by decide +kernel
theorem dJ1_indexOf_4cfef_16 : decode cJ1_indexOf_4cfef 16 = .ok (.aload_n 0, 1) := by decide +kernel
theorem dJ1_indexOf_4cfef_17 : decode cJ1_indexOf_4cfef 17 = .ok (.arraylength, 1) := by decide +kernel
theorem dJ1_indexOf_4cfef_18 : decode cJ1_indexOf_4cfef 18 = .ok (.invokestatic 38, 3) := by decide +kernel
theorem dJ1_indexOf_4cfef_21 : decode cJ1_indexOf_4cfef 21 = .ok (.istore_n 3, 1) := by decide +kernel
theorem dJ1_indexOf_4cfef_22 : decode cJ1_indexOf_4cfef 22 = .ok (.iload_n 2, 1) := by decide +kernel
theorem dJ1_indexOf_4cfef_23 : decode cJ1_indexOf_4cfef 23 = .ok (.iload_n 3, 1) := by decide +kernel
theorem dJ1_indexOf_4cfef_24 : decode cJ1_indexOf_4cfef 24 = .ok (.if_icmp .lt 5, 3) := by decide +kernel
theorem dJ1_indexOf_4cfef_27 : decode cJ1_indexOf_4cfef 27 = .ok (.iconst (-1), 1) := by decide +kernel
theorem dJ1_indexOf_4cfef_28 : decode cJ1_indexOf_4cfef 28 = .ok (.ireturn, 1) := by decide +kernel
theorem dJ1_indexOf_4cfef_29 : decode cJ1_indexOf_4cfef 29 = .ok (.aload_n 0, 1) := by decide +kernel
theorem dJ1_indexOf_4cfef_30 : decode cJ1_indexOf_4cfef 30 = .ok (.iload_n 1, 1) := by decide +kernel
theorem dJ1_indexOf_4cfef_31 : decode cJ1_indexOf_4cfef 31 = .ok (.iload_n 2, 1) := by decide +kernel
theorem dJ1_indexOf_4cfef_32 : decode cJ1_indexOf_4cfef 32 = .ok (.iload_n 3, 1) := by decide +kernel
theorem dJ1_indexOf_4cfef_33 : decode cJ1_indexOf_4cfef 33 = .ok (.invokestatic 95, 3) := by decide +kernel
theorem dJ1_indexOf_4cfef_36 : decode cJ1_indexOf_4cfef 36 = .ok (.ireturn, 1) := by decide +kernel
theorem dJ1_indexOfChar_4cfef_0 : decode cJ1_indexOfChar_4cfef 0 = .ok (.iload_n 1, 1) := by decide +kernel
theorem dJ1_indexOfChar_4cfef_1 : decode cJ1_indexOfChar_4cfef 1 = .ok (.i2b, 1) := by decide +kernel
theorem dJ1_indexOfChar_4cfef_2 : decode cJ1_indexOfChar_4cfef 2 = .ok (.istore 4, 2) := by decide +kernel
theorem dJ1_indexOfChar_4cfef_4 : decode cJ1_indexOfChar_4cfef 4 = .ok (.iload_n 2, 1) := by decide +kernel
theorem dJ1_indexOfChar_4cfef_5 : decode cJ1_indexOfChar_4cfef 5 = .ok (.istore 5, 2) := by decide +kernel
theorem dJ1_indexOfChar_4cfef_7 : decode cJ1_indexOfChar_4cfef 7 = .ok (.iload 5, 2) := by decide +kernel
theorem dJ1_indexOfChar_4cfef_9 : decode cJ1_indexOfChar_4cfef 9 = .ok (.iload_n 3, 1) := by decide +kernel
theorem dJ1_indexOfChar_4cfef_10 : decode cJ1_indexOfChar_4cfef 10 = .ok (.if_icmp .ge 21, 3) := by decide +kernel
theorem dJ1_indexOfChar_4cfef_13 : decode cJ1_indexOfChar_4cfef 13 = .ok (.aload_n 0, 1) := by decide +kernel
theorem dJ1_indexOfChar_4cfef_14 : decode cJ1_indexOfChar_4cfef 14 = .ok (.iload 5, 2) := by decide +kernel
theorem dJ1_indexOfChar_4cfef_16 : decode cJ1_indexOfChar_4cfef 16 = .ok (.baload, 1) := by decide +kernel
theorem dJ1_indexOfChar_4cfef_17 : decode cJ1_indexOfChar_4cfef 17 = .ok (.iload 4, 2) := by decide +kernel
theorem dJ1_indexOfChar_4cfef_19 : decode cJ1_indexOfChar_4cfef 19 = .ok (.if_icmp .ne 6, 3) := by decide +kernel
theorem dJ1_indexOfChar_4cfef_22 : decode cJ1_indexOfChar_4cfef 22 = .ok (.iload 5, 2) := by decide +kernel
theorem dJ1_indexOfChar_4cfef_24 : decode cJ1_indexOfChar_4cfef 24 = .ok (.ireturn, 1) := by decide +kernel
theorem dJ1_indexOfChar_4cfef_25 : decode cJ1_indexOfChar_4cfef 25 = .ok (.iinc 5 1, 3) := by decide +kernel
theorem dJ1_indexOfChar_4cfef_28 : decode cJ1_indexOfChar_4cfef 28 = .ok (.goto (-21), 3) := by decide +kernel
theorem dJ1_indexOfChar_4cfef_31 : decode cJ1_indexOfChar_4cfef 31 = .ok (.iconst (-1), 1) := by decide +kernel
theorem dJ1_indexOfChar_4cfef_32 : decode cJ1_indexOfChar_4cfef 32 = .ok (.ireturn, 1) := by decide +kernel
theorem dJ2_getChar_3b067_0 : decode cJ2_getChar_3b067 0 = .ok (.getstatic 44, 3) := by decide +kernel
theorem dJ2_getChar_3b067_3 : decode cJ2_getChar_3b067 3 = .ok (.ifCond .ne 25, 3) := by decide +kernel
theorem dJ2_getChar_3b067_6 : decode cJ2_getChar_3b067 6 = .ok (.iload_n 1, 1) := by decide +kernel
theorem dJ2_getChar_3b067_7 : decode cJ2_getChar_3b067 7 = .ok (.ifCond .lt 11, 3) := by decide +kernel
theorem dJ2_getChar_3b067_10 : decode cJ2_getChar_3b067 10 = .ok (.iload_n 1, 1) := by decide +kernel
theorem dJ2_getChar_3b067_11 : decode cJ2_getChar_3b067 11 = .ok (.aload_n 0, 1) := by decide +kernel
theorem dJ2_getChar_3b067_12 : decode cJ2_getChar_3b067 12 = .ok (.invokestatic 48, 3) := by decide +kernel
theorem dJ2_getChar_3b067_15 : decode cJ2_getChar_3b067 15 = .ok (.if_icmp .lt 13, 3) := by decide +kernel
theorem dJ2_getChar_3b067_18 : decode cJ2_getChar_3b067 18 = .ok (.new 52, 3) := by decide +kernel
theorem dJ2_getChar_3b067_21 : decode cJ2_getChar_3b067 21 = .ok (.dup, 1) := by decide +kernel
theorem dJ2_getChar_3b067_22 : decode cJ2_getChar_3b067 22 = .ok (.ldc 54, 2) := by decide +kernel
theorem dJ2_getChar_3b067_24 : decode cJ2_getChar_3b067 24 = .ok (.invokespecial 56, 3) := by decide +kernel
theorem dJ2_getChar_3b067_27 : decode cJ2_getChar_3b067 27 = .ok (.athrow, 1) := by decide +kernel
theorem dJ2_getChar_3b067_28 : decode cJ2_getChar_3b067 28 = .ok (.iload_n 1, 1) := by decide +kernel
theorem dJ2_getChar_3b067_29 : decode cJ2_getChar_3b067 29 = .ok (.iconst 1, 1) := by decide +kernel
theorem dJ2_getChar_3b067_30 : decode cJ2_getChar_3b067 30 = .ok (.ishl, 1) := by decide +kernel
theorem dJ2_getChar_3b067_31 : decode cJ2_getChar_3b067 31 = .ok (.istore_n 1, 1) := by decide +kernel
theorem dJ2_getChar_3b067_32 : decode cJ2_getChar_3b067 32 = .ok (.aload_n 0, 1) := by decide +kernel
theorem dJ2_getChar_3b067_33 : decode cJ2_getChar_3b067 33 = .ok (.iload_n 1, 1) := by decide +kernel
theorem dJ2_getChar_3b067_34 : decode cJ2_getChar_3b067 34 = .ok (.iinc 1 1, 3) := by decide +kernel
theorem dJ2_getChar_3b067_37 : decode cJ2_getChar_3b067 37 = .ok (.baload, 1) := by decide +kernel
theorem dJ2_getChar_3b067_38 : decode cJ2_getChar_3b067 38 = .ok (.sipush 255, 3) := by decide +kernel
theorem dJ2_getChar_3b067_41 : decode cJ2_getChar_3b067 41 = .ok (.iand, 1) := by decide +kernel
theorem dJ2_getChar_3b067_42 : decode cJ2_getChar_3b067 42 = .ok (.getstatic 59, 3) := by decide +kernel
theorem dJ2_getChar_3b067_45 : decode cJ2_getChar_3b067 45 = .ok (.ishl, 1) := by decide +kernel
theorem dJ2_getChar_3b067_46 : decode cJ2_getChar_3b067 46 = .ok (.aload_n 0, 1) := by decide +kernel
theorem dJ2_getChar_3b067_47 : decode cJ2_getChar_3b067 47 = .ok (.iload_n 1, 1) := by decide +kernel
theorem dJ2_getChar_3b067_48 : decode cJ2_getChar_3b067 48 = .ok (.baload, 1) := by decide +kernel
theorem dJ2_getChar_3b067_49 : decode cJ2_getChar_3b067 49 = .ok (.sipush 255, 3) := by decide +kernel
theorem dJ2_getChar_3b067_52 : decode cJ2_getChar_3b067 52 = .ok (.iand, 1) := by decide +kernel
theorem dJ2_getChar_3b067_53 : decode cJ2_getChar_3b067 53 = .ok (.getstatic 63, 3) := by decide +kernel
theorem dJ2_getChar_3b067_56 : decode cJ2_getChar_3b067 56 = .ok (.ishl, 1) := by decide +kernel
theorem dJ2_getChar_3b067_57 : decode cJ2_getChar_3b067 57 = .ok (.ior, 1) := by decide +kernel
theorem dJ2_getChar_3b067_58 : decode cJ2_getChar_3b067 58 = .ok (.i2c, 1) := by decide +kernel
theorem dJ2_getChar_3b067_59 : decode cJ2_getChar_3b067 59 = .ok (.ireturn, 1) := by decide +kernel
theorem dJ2_length_9d52b_0 : decode cJ2_length_9d52b 0 = .ok (.aload_n 0, 1) := by decide +kernel
theorem dJ2_length_9d52b_1 : decode cJ2_length_9d52b 1 = .ok (.arraylength, 1) := by decide +kernel
theorem dJ2_length_9d52b_2 : decode cJ2_length_9d52b 2 = .ok (.iconst 1, 1) := by decide +kernel
theorem dJ2_length_9d52b_3 : decode cJ2_length_9d52b 3 = .ok (.ishr, 1) := by decide +kernel
theorem dJ2_length_9d52b_4 : decode cJ2_length_9d52b 4 = .ok (.ireturn, 1) := by decide +kernel
theorem dJ2_indexOf_4cfef_0 : decode cJ2_indexOf_4cfef 0 = .ok (.iload_n 2, 1) := by decide +kernel
theorem dJ2_indexOf_4cfef_1 : decode cJ2_indexOf_4cfef 1 = .ok (.iconst 0, 1) := by decide +kernel
theorem dJ2_indexOf_4cfef_2 : decode cJ2_indexOf_4cfef 2 = .ok (.invokestatic 224, 3) := by decide +kernel
theorem dJ2_indexOf_4cfef_5 : decode cJ2_indexOf_4cfef 5 = .ok (.istore_n 2, 1) := by decide +kernel
theorem dJ2_indexOf_4cfef_6 : decode cJ2_indexOf_4cfef 6 = .ok (.iload_n 3, 1) := by decide +kernel
theorem dJ2_indexOf_4cfef_7 : decode cJ2_indexOf_4cfef 7 = .ok (.aload_n 0, 1) := by decide +kernel
theorem dJ2_indexOf_4cfef_8 : decode cJ2_indexOf_4cfef 8 = .ok (.arraylength, 1) := by decide +kernel
theorem dJ2_indexOf_4cfef_9 : decode cJ2_indexOf_4cfef 9 = .ok (.iconst 1, 1) := by decide +kernel
theorem dJ2_indexOf_4cfef_10 : decode cJ2_indexOf_4cfef 10 = .ok (.ishr, 1) := by decide +kernel
theorem dJ2_indexOf_4cfef_11 : decode cJ2_indexOf_4cfef 11 = .ok (.invokestatic 183, 3) := by decide +kernel
theorem dJ2_indexOf_4cfef_14 : decode cJ2_indexOf_4cfef 14 = .ok (.istore_n 3, 1) := by decide +kernel
theorem dJ2_indexOf_4cfef_15 : decode cJ2_indexOf_4cfef 15 = .ok (.iload_n 2, 1) := by decide +kernel
theorem dJ2_indexOf_4cfef_16 : decode cJ2_indexOf_4cfef 16 = .ok (.iload_n 3, 1) := by decide +kernel
theorem dJ2_indexOf_4cfef_17 : decode cJ2_indexOf_4cfef 17 = .ok (.if_icmp .lt 5, 3) := by decide +kernel
theorem dJ2_indexOf_4cfef_20 : decode cJ2_indexOf_4cfef 20 = .ok (.iconst (-1), 1) := by decide +kernel
theorem dJ2_indexOf_4cfef_21 : decode cJ2_indexOf_4cfef 21 = .ok (.ireturn, 1) := by decide +kernel
theorem dJ2_indexOf_4cfef_22 : decode cJ2_indexOf_4cfef 22 = .ok (.iload_n 1, 1) := by decide +kernel
theorem dJ2_indexOf_4cfef_23 : decode cJ2_indexOf_4cfef 23 = .ok (.ldc 227, 2) := by decide +kernel
theorem dJ2_indexOf_4cfef_25 : decode cJ2_indexOf_4cfef 25 = .ok (.if_icmp .ge 11, 3) := by decide +kernel
theorem dJ2_indexOf_4cfef_28 : decode cJ2_indexOf_4cfef 28 = .ok (.aload_n 0, 1) := by decide +kernel
theorem dJ2_indexOf_4cfef_29 : decode cJ2_indexOf_4cfef 29 = .ok (.iload_n 1, 1) := by decide +kernel
theorem dJ2_indexOf_4cfef_30 : decode cJ2_indexOf_4cfef 30 = .ok (.iload_n 2, 1) := by decide +kernel
theorem dJ2_indexOf_4cfef_31 : decode cJ2_indexOf_4cfef 31 = .ok (.iload_n 3, 1) := by decide +kernel
theorem dJ2_indexOf_4cfef_32 : decode cJ2_indexOf_4cfef 32 = .ok (.invokestatic 228, 3) := by decide +kernel
theorem dJ2_indexOf_4cfef_35 : decode cJ2_indexOf_4cfef 35 = .ok (.ireturn, 1) := by decide +kernel
theorem dJ2_indexOf_4cfef_36 : decode cJ2_indexOf_4cfef 36 = .ok (.aload_n 0, 1) := by decide +kernel
theorem dJ2_indexOf_4cfef_37 : decode cJ2_indexOf_4cfef 37 = .ok (.iload_n 1, 1) := by decide +kernel
theorem dJ2_indexOf_4cfef_38 : decode cJ2_indexOf_4cfef 38 = .ok (.iload_n 2, 1) := by decide +kernel
theorem dJ2_indexOf_4cfef_39 : decode cJ2_indexOf_4cfef 39 = .ok (.iload_n 3, 1) := by decide +kernel
theorem dJ2_indexOf_4cfef_40 : decode cJ2_indexOf_4cfef 40 = .ok (.invokestatic 232, 3) := by decide +kernel
theorem dJ2_indexOf_4cfef_43 : decode cJ2_indexOf_4cfef 43 = .ok (.ireturn, 1) := by decide +kernel
theorem dJ2_indexOfChar_4cfef_0 : decode cJ2_indexOfChar_4cfef 0 = .ok (.iload_n 2, 1) := by decide +kernel
theorem dJ2_indexOfChar_4cfef_1 : decode cJ2_indexOfChar_4cfef 1 = .ok (.iload_n 3, 1) := by decide +kernel
theorem dJ2_indexOfChar_4cfef_2 : decode cJ2_indexOfChar_4cfef 2 = .ok (.aload_n 0, 1) := by decide +kernel
theorem dJ2_indexOfChar_4cfef_3 : decode cJ2_indexOfChar_4cfef 3 = .ok (.invokestatic 96, 3) := by decide +kernel
theorem dJ2_indexOfChar_4cfef_6 : decode cJ2_indexOfChar_4cfef 6 = .ok (.aload_n 0, 1) := by decide +kernel
theorem dJ2_indexOfChar_4cfef_7 : decode cJ2_indexOfChar_4cfef 7 = .ok (.iload_n 1, 1) := by decide +kernel
theorem dJ2_indexOfChar_4cfef_8 : decode cJ2_indexOfChar_4cfef 8 = .ok (.iload_n 2, 1) := by decide +kernel
theorem dJ2_indexOfChar_4cfef_9 : decode cJ2_indexOfChar_4cfef 9 = .ok (.iload_n 3, 1) := by decide +kernel
theorem dJ2_indexOfChar_4cfef_10 : decode cJ2_indexOfChar_4cfef 10 = .ok (.invokestatic 244, 3) := by decide +kernel
theorem dJ2_indexOfChar_4cfef_13 : decode cJ2_indexOfChar_4cfef 13 = .ok (.ireturn, 1) := by decide +kernel
theorem dJ2_indexOfCharUnsafe_4cfef_0 : decode cJ2_indexOfCharUnsafe_4cfef 0 = .ok (.iload_n 2, 1) := by decide +kernel
theorem dJ2_indexOfCharUnsafe_4cfef_1 : decode cJ2_indexOfCharUnsafe_4cfef 1 = .ok (.istore 4, 2) := by decide +kernel
theorem dJ2_indexOfCharUnsafe_4cfef_3 : decode cJ2_indexOfCharUnsafe_4cfef 3 = .ok (.iload 4, 2) := by decide +kernel
theorem dJ2_indexOfCharUnsafe_4cfef_5 : decode cJ2_indexOfCharUnsafe_4cfef 5 = .ok (.iload_n 3, 1) := by decide +kernel
theorem dJ2_indexOfCharUnsafe_4cfef_6 : decode cJ2_indexOfCharUnsafe_4cfef 6 = .ok (.if_icmp .ge 22, 3) := by decide +kernel
theorem dJ2_indexOfCharUnsafe_4cfef_9 : decode cJ2_indexOfCharUnsafe_4cfef 9 = .ok (.aload_n 0, 1) := by decide +kernel
theorem dJ2_indexOfCharUnsafe_4cfef_10 : decode cJ2_indexOfCharUnsafe_4cfef 10 = .ok (.iload 4, 2) := by decide +kernel
theorem dJ2_indexOfCharUnsafe_4cfef_12 : decode cJ2_indexOfCharUnsafe_4cfef 12 = .ok (.invokestatic 71, 3) := by decide +kernel
theorem dJ2_indexOfCharUnsafe_4cfef_15 : decode cJ2_indexOfCharUnsafe_4cfef 15 = .ok (.iload_n 1, 1) := by decide +kernel
theorem dJ2_indexOfCharUnsafe_4cfef_16 : decode cJ2_indexOfCharUnsafe_4cfef 16 = .ok (.if_icmp .ne 6, 3) := by decide +kernel
theorem dJ2_indexOfCharUnsafe_4cfef_19 : decode cJ2_indexOfCharUnsafe_4cfef 19 = .ok (.iload 4, 2) := by decide +kernel
theorem dJ2_indexOfCharUnsafe_4cfef_21 : decode cJ2_indexOfCharUnsafe_4cfef 21 = .ok (.ireturn, 1) := by decide +kernel
theorem dJ2_indexOfCharUnsafe_4cfef_22 : decode cJ2_indexOfCharUnsafe_4cfef 22 = .ok (.iinc 4 1, 3) := by decide +kernel
theorem dJ2_indexOfCharUnsafe_4cfef_25 : decode cJ2_indexOfCharUnsafe_4cfef 25 = .ok (.goto (-22), 3) := by decide +kernel
theorem dJ2_indexOfCharUnsafe_4cfef_28 : decode cJ2_indexOfCharUnsafe_4cfef 28 = .ok (.iconst (-1), 1) := by decide +kernel
theorem dJ2_indexOfCharUnsafe_4cfef_29 : decode cJ2_indexOfCharUnsafe_4cfef 29 = .ok (.ireturn, 1) := by decide +kernel
theorem dJ2_indexOfSupplementary_4cfef_0 : decode cJ2_indexOfSupplementary_4cfef 0 = .ok (.iload_n 1, 1) := by decide +kernel
theorem dJ2_indexOfSupplementary_4cfef_1 : decode cJ2_indexOfSupplementary_4cfef 1 = .ok (.invokestatic 164, 3) := by decide +kernel
theorem dJ2_indexOfSupplementary_4cfef_4 : decode cJ2_indexOfSupplementary_4cfef 4 = .ok (.ifCond .eq 65, 3) := by decide +kernel
theorem dJ2_indexOfSupplementary_4cfef_7 : decode cJ2_indexOfSupplementary_4cfef 7 = .ok (.iload_n 1, 1) := by decide +kernel
theorem dJ2_indexOfSupplementary_4cfef_8 : decode cJ2_indexOfSupplementary_4cfef 8 = .ok (.invokestatic 157, 3) := by decide +kernel
theorem dJ2_indexOfSupplementary_4cfef_11 : decode cJ2_indexOfSupplementary_4cfef 11 = .ok (.istore 4, 2) := by decide +kernel
theorem dJ2_indexOfSupplementary_4cfef_13 : decode cJ2_indexOfSupplementary_4cfef 13 = .ok (.iload_n 1, 1) := by decide +kernel
theorem dJ2_indexOfSupplementary_4cfef_14 : decode cJ2_indexOfSupplementary_4cfef 14 = .ok (.invokestatic 161, 3) := by decide +kernel
theorem dJ2_indexOfSupplementary_4cfef_17 : decode cJ2_indexOfSupplementary_4cfef 17 = .ok (.istore 5, 2) := by decide +kernel
theorem dJ2_indexOfSupplementary_4cfef_19 : decode cJ2_indexOfSupplementary_4cfef 19 = .ok (.iload_n 2, 1) := by decide +kernel
theorem dJ2_indexOfSupplementary_4cfef_20 : decode cJ2_indexOfSupplementary_4cfef 20 = .ok (.iload_n 3, 1) := by decide +kernel
theorem dJ2_indexOfSupplementary_4cfef_21 : decode cJ2_indexOfSupplementary_4cfef 21 = .ok (.aload_n 0, 1) := by decide +kernel
theorem dJ2_indexOfSupplementary_4cfef_22 : decode cJ2_indexOfSupplementary_4cfef 22 = .ok (.invokestatic 96, 3) := by decide +kernel
theorem dJ2_indexOfSupplementary_4cfef_25 : decode cJ2_indexOfSupplementary_4cfef 25 = .ok (.iload_n 2, 1) := by decide +kernel
theorem dJ2_indexOfSupplementary_4cfef_26 : decode cJ2_indexOfSupplementary_4cfef 26 = .ok (.istore 6, 2) := by decide +kernel
theorem dJ2_indexOfSupplementary_4cfef_28 : decode cJ2_indexOfSupplementary_4cfef 28 = .ok (.iload 6, 2) := by decide +kernel
theorem dJ2_indexOfSupplementary_4cfef_30 : decode cJ2_indexOfSupplementary_4cfef 30 = .ok (.iload_n 3, 1) := by decide +kernel
theorem dJ2_indexOfSupplementary_4cfef_31 : decode cJ2_indexOfSupplementary_4cfef 31 = .ok (.iconst 1, 1) := by decide +kernel
theorem dJ2_indexOfSupplementary_4cfef_32 : decode cJ2_indexOfSupplementary_4cfef 32 = .ok (.isub, 1) := by decide +kernel
theorem dJ2_indexOfSupplementary_4cfef_33 : decode cJ2_indexOfSupplementary_4cfef 33 = .ok (.if_icmp .ge 36, 3) := by decide +kernel
theorem dJ2_indexOfSupplementary_4cfef_36 : decode cJ2_indexOfSupplementary_4cfef 36 = .ok (.aload_n 0, 1) := by decide +kernel
theorem dJ2_indexOfSupplementary_4cfef_37 : decode cJ2_indexOfSupplementary_4cfef 37 = .ok (.iload 6, 2) := by decide +kernel
theorem dJ2_indexOfSupplementary_4cfef_39 : decode cJ2_indexOfSupplementary_4cfef 39 = .ok (.invokestatic 71, 3) := by decide +kernel
theorem dJ2_indexOfSupplementary_4cfef_42 : decode cJ2_indexOfSupplementary_4cfef 42 = .ok (.iload 4, 2) := by decide +kernel
theorem dJ2_indexOfSupplementary_4cfef_44 : decode cJ2_indexOfSupplementary_4cfef 44 = .ok (.if_icmp .ne 19, 3) := by decide +kernel
theorem dJ2_indexOfSupplementary_4cfef_47 : decode cJ2_indexOfSupplementary_4cfef 47 = .ok (.aload_n 0, 1) := by decide +kernel
theorem dJ2_indexOfSupplementary_4cfef_48 : decode cJ2_indexOfSupplementary_4cfef 48 = .ok (.iload 6, 2) := by decide +kernel
theorem dJ2_indexOfSupplementary_4cfef_50 : decode cJ2_indexOfSupplementary_4cfef 50 = .ok (.iconst 1, 1) := by decide +kernel
theorem dJ2_indexOfSupplementary_4cfef_51 : decode cJ2_indexOfSupplementary_4cfef 51 = .ok (.iadd, 1) := by decide +kernel
theorem dJ2_indexOfSupplementary_4cfef_52 : decode cJ2_indexOfSupplementary_4cfef 52 = .ok (.invokestatic 71, 3) := by decide +kernel
theorem dJ2_indexOfSupplementary_4cfef_55 : decode cJ2_indexOfSupplementary_4cfef 55 = .ok (.iload 5, 2) := by decide +kernel
theorem dJ2_indexOfSupplementary_4cfef_57 : decode cJ2_indexOfSupplementary_4cfef 57 = .ok (.if_icmp .ne 6, 3) := by decide +kernel
theorem dJ2_indexOfSupplementary_4cfef_60 : decode cJ2_indexOfSupplementary_4cfef 60 = .ok (.iload 6, 2) := by decide +kernel
theorem dJ2_indexOfSupplementary_4cfef_62 : decode cJ2_indexOfSupplementary_4cfef 62 = .ok (.ireturn, 1) := by decide +kernel
theorem dJ2_indexOfSupplementary_4cfef_63 : decode cJ2_indexOfSupplementary_4cfef 63 = .ok (.iinc 6 1, 3) := by decide +kernel
theorem dJ2_indexOfSupplementary_4cfef_66 : decode cJ2_indexOfSupplementary_4cfef 66 = .ok (.goto (-38), 3) := by decide +kernel
theorem dJ2_indexOfSupplementary_4cfef_69 : decode cJ2_indexOfSupplementary_4cfef 69 = .ok (.iconst (-1), 1) := by decide +kernel
theorem dJ2_indexOfSupplementary_4cfef_70 : decode cJ2_indexOfSupplementary_4cfef 70 = .ok (.ireturn, 1) := by decide +kernel
theorem dJ2_checkBoundsBeginEnd_d044e_0 : decode cJ2_checkBoundsBeginEnd_d044e 0 = .ok (.iload_n 0, 1) := by decide +kernel
theorem dJ2_checkBoundsBeginEnd_d044e_1 : decode cJ2_checkBoundsBeginEnd_d044e 1 = .ok (.iload_n 1, 1) := by decide +kernel
theorem dJ2_checkBoundsBeginEnd_d044e_2 : decode cJ2_checkBoundsBeginEnd_d044e 2 = .ok (.aload_n 2, 1) := by decide +kernel
theorem dJ2_checkBoundsBeginEnd_d044e_3 : decode cJ2_checkBoundsBeginEnd_d044e 3 = .ok (.invokestatic 48, 3) := by decide +kernel
theorem dJ2_checkBoundsBeginEnd_d044e_6 : decode cJ2_checkBoundsBeginEnd_d044e 6 = .ok (.invokestatic 241, 3) := by decide +kernel
theorem dJ2_checkBoundsBeginEnd_d044e_9 : decode cJ2_checkBoundsBeginEnd_d044e 9 = .ok (.return_, 1) := by decide +kernel
theorem dJ3_checkFromToIndex_8c36e_0 : decode cJ3_checkFromToIndex_8c36e 0 = .ok (.iload_n 0, 1) := by decide +kernel
theorem dJ3_checkFromToIndex_8c36e_1 : decode cJ3_checkFromToIndex_8c36e 1 = .ok (.ifCond .lt 13, 3) := by decide +kernel
theorem dJ3_checkFromToIndex_8c36e_4 : decode cJ3_checkFromToIndex_8c36e 4 = .ok (.iload_n 0, 1) := by decide +kernel
theorem dJ3_checkFromToIndex_8c36e_5 : decode cJ3_checkFromToIndex_8c36e 5 = .ok (.iload_n 1, 1) := by decide +kernel
theorem dJ3_checkFromToIndex_8c36e_6 : decode cJ3_checkFromToIndex_8c36e 6 = .ok (.if_icmp .gt 8, 3) := by decide +kernel
theorem dJ3_checkFromToIndex_8c36e_9 : decode cJ3_checkFromToIndex_8c36e 9 = .ok (.iload_n 1, 1) := by decide +kernel
theorem dJ3_checkFromToIndex_8c36e_10 : decode cJ3_checkFromToIndex_8c36e 10 = .ok (.iload_n 2, 1) := by decide +kernel
theorem dJ3_checkFromToIndex_8c36e_11 : decode cJ3_checkFromToIndex_8c36e 11 = .ok (.if_icmp .le 11, 3) := by decide +kernel
theorem dJ3_checkFromToIndex_8c36e_14 : decode cJ3_checkFromToIndex_8c36e 14 = .ok (.aload_n 3, 1) := by decide +kernel
theorem dJ3_checkFromToIndex_8c36e_15 : decode cJ3_checkFromToIndex_8c36e 15 = .ok (.iload_n 0, 1) := by decide +kernel
theorem dJ3_checkFromToIndex_8c36e_16 : decode cJ3_checkFromToIndex_8c36e 16 = .ok (.iload_n 1, 1) := by decide +kernel
theorem dJ3_checkFromToIndex_8c36e_17 : decode cJ3_checkFromToIndex_8c36e 17 = .ok (.iload_n 2, 1) := by decide +kernel
theorem dJ3_checkFromToIndex_8c36e_18 : decode cJ3_checkFromToIndex_8c36e 18 = .ok (.invokestatic 99, 3) := by decide +kernel
theorem dJ3_checkFromToIndex_8c36e_21 : decode cJ3_checkFromToIndex_8c36e 21 = .ok (.athrow, 1) := by decide +kernel
theorem dJ3_checkFromToIndex_8c36e_22 : decode cJ3_checkFromToIndex_8c36e 22 = .ok (.iload_n 0, 1) := by decide +kernel
theorem dJ3_checkFromToIndex_8c36e_23 : decode cJ3_checkFromToIndex_8c36e 23 = .ok (.ireturn, 1) := by decide +kernel
