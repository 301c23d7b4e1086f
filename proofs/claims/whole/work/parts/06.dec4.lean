theorem dX12_pays_62 : decode cX12_pays 62 = .ok (.isub, 1) := by decide +kernel
theorem dX12_pays_63 : decode cX12_pays 63 = .ok (.iastore, 1) := by decide +kernel
theorem dX12_pays_64 : decode cX12_pays 64 = .ok (.aload_n 0, 1) := by decide +kernel
theorem dX12_pays_65 : decode cX12_pays 65 = .ok (.getfield 7, 3) := by decide +kernel
theorem dX12_pays_68 : decode cX12_pays 68 = .ok (.iconst 5, 1) := by decide +kernel
theorem dX12_pays_69 : decode cX12_pays 69 = .ok (.iload 4, 2) := by decide +kernel
theorem dX12_pays_71 : decode cX12_pays 71 = .ok (.ldc 181, 2) := by decide +kernel
theorem dX12_pays_73 : decode cX12_pays 73 = .ok (.aload_n 0, 1) := by decide +kernel
theorem dX12_pays_74 : decode cX12_pays 74 = .ok (.getfield 7, 3) := by decide +kernel
theorem dX12_pays_77 : decode cX12_pays 77 = .ok (.iconst 5, 1) := by decide +kernel
theorem dX12_pays_78 : decode cX12_pays 78 = .ok (.iaload, 1) := by decide +kernel
theorem dX12_pays_79 : decode cX12_pays 79 = .ok (.isub, 1) := by decide +kernel
theorem dX12_pays_80 : decode cX12_pays 80 = .ok (.if_icmp .le 8, 3) := by decide +kernel
theorem dX12_pays_83 : decode cX12_pays 83 = .ok (.ldc 181, 2) := by decide +kernel
theorem dX12_pays_85 : decode cX12_pays 85 = .ok (.goto 12, 3) := by decide +kernel
theorem dX12_pays_88 : decode cX12_pays 88 = .ok (.aload_n 0, 1) := by decide +kernel
theorem dX12_pays_89 : decode cX12_pays 89 = .ok (.getfield 7, 3) := by decide +kernel
theorem dX12_pays_92 : decode cX12_pays 92 = .ok (.iconst 5, 1) := by decide +kernel
theorem dX12_pays_93 : decode cX12_pays 93 = .ok (.iaload, 1) := by decide +kernel
theorem dX12_pays_94 : decode cX12_pays 94 = .ok (.iload 4, 2) := by decide +kernel
theorem dX12_pays_96 : decode cX12_pays 96 = .ok (.iadd, 1) := by decide +kernel
theorem dX12_pays_97 : decode cX12_pays 97 = .ok (.iastore, 1) := by decide +kernel
theorem dX12_pays_98 : decode cX12_pays 98 = .ok (.return_, 1) := by decide +kernel
theorem dX12_isAsked_0 : decode cX12_isAsked 0 = .ok (.aload_n 0, 1) := by decide +kernel
theorem dX12_isAsked_1 : decode cX12_isAsked 1 = .ok (.iload_n 1, 1) := by decide +kernel
theorem dX12_isAsked_2 : decode cX12_isAsked 2 = .ok (.invokevirtual 67, 3) := by decide +kernel
theorem dX12_isAsked_5 : decode cX12_isAsked 5 = .ok (.istore_n 2, 1) := by decide +kernel
theorem dX12_isAsked_6 : decode cX12_isAsked 6 = .ok (.aload_n 0, 1) := by decide +kernel
theorem dX12_isAsked_7 : decode cX12_isAsked 7 = .ok (.iload_n 1, 1) := by decide +kernel
theorem dX12_isAsked_8 : decode cX12_isAsked 8 = .ok (.iconst 1, 1) := by decide +kernel
theorem dX12_isAsked_9 : decode cX12_isAsked 9 = .ok (.invokevirtual 51, 3) := by decide +kernel
theorem dX12_isAsked_12 : decode cX12_isAsked 12 = .ok (.istore_n 3, 1) := by decide +kernel
theorem dX12_isAsked_13 : decode cX12_isAsked 13 = .ok (.iconst 0, 1) := by decide +kernel
theorem dX12_isAsked_14 : decode cX12_isAsked 14 = .ok (.istore 4, 2) := by decide +kernel
theorem dX12_isAsked_16 : decode cX12_isAsked 16 = .ok (.iload 4, 2) := by decide +kernel
theorem dX12_isAsked_18 : decode cX12_isAsked 18 = .ok (.aload_n 0, 1) := by decide +kernel
theorem dX12_isAsked_19 : decode cX12_isAsked 19 = .ok (.getfield 7, 3) := by decide +kernel
theorem dX12_isAsked_22 : decode cX12_isAsked 22 = .ok (.iconst 0, 1) := by decide +kernel
theorem dX12_isAsked_23 : decode cX12_isAsked 23 = .ok (.iaload, 1) := by decide +kernel
theorem dX12_isAsked_24 : decode cX12_isAsked 24 = .ok (.if_icmp .ge 152, 3) := by decide +kernel
theorem dX12_isAsked_27 : decode cX12_isAsked 27 = .ok (.iload 4, 2) := by decide +kernel
theorem dX12_isAsked_29 : decode cX12_isAsked 29 = .ok (.iload_n 2, 1) := by decide +kernel
theorem dX12_isAsked_30 : decode cX12_isAsked 30 = .ok (.if_icmp .eq 140, 3) := by decide +kernel
theorem dX12_isAsked_33 : decode cX12_isAsked 33 = .ok (.aload_n 0, 1) := by decide +kernel
theorem dX12_isAsked_34 : decode cX12_isAsked 34 = .ok (.invokevirtual 182, 3) := by decide +kernel
theorem dX12_isAsked_37 : decode cX12_isAsked 37 = .ok (.aload_n 0, 1) := by decide +kernel
theorem dX12_isAsked_38 : decode cX12_isAsked 38 = .ok (.iload 4, 2) := by decide +kernel
theorem dX12_isAsked_40 : decode cX12_isAsked 40 = .ok (.iconst 3, 1) := by decide +kernel
theorem dX12_isAsked_41 : decode cX12_isAsked 41 = .ok (.invokevirtual 79, 3) := by decide +kernel
theorem dX12_isAsked_44 : decode cX12_isAsked 44 = .ok (.irem, 1) := by decide +kernel
theorem dX12_isAsked_45 : decode cX12_isAsked 45 = .ok (.aload_n 0, 1) := by decide +kernel
theorem dX12_isAsked_46 : decode cX12_isAsked 46 = .ok (.iload 4, 2) := by decide +kernel
theorem dX12_isAsked_48 : decode cX12_isAsked 48 = .ok (.iconst 2, 1) := by decide +kernel
theorem dX12_isAsked_49 : decode cX12_isAsked 49 = .ok (.invokevirtual 79, 3) := by decide +kernel
theorem dX12_isAsked_52 : decode cX12_isAsked 52 = .ok (.if_icmp .lt 6, 3) := by decide +kernel
theorem dX12_isAsked_55 : decode cX12_isAsked 55 = .ok (.goto 115, 3) := by decide +kernel
theorem dX12_isAsked_58 : decode cX12_isAsked 58 = .ok (.aload_n 0, 1) := by decide +kernel
theorem dX12_isAsked_59 : decode cX12_isAsked 59 = .ok (.iload 4, 2) := by decide +kernel
theorem dX12_isAsked_61 : decode cX12_isAsked 61 = .ok (.iload_n 1, 1) := by decide +kernel
theorem dX12_isAsked_62 : decode cX12_isAsked 62 = .ok (.invokevirtual 73, 3) := by decide +kernel
theorem dX12_isAsked_65 : decode cX12_isAsked 65 = .ok (.iload_n 3, 1) := by decide +kernel
theorem dX12_isAsked_66 : decode cX12_isAsked 66 = .ok (.if_icmp .le 104, 3) := by decide +kernel
theorem dX12_isAsked_69 : decode cX12_isAsked 69 = .ok (.aload_n 0, 1) := by decide +kernel
theorem dX12_isAsked_70 : decode cX12_isAsked 70 = .ok (.iload 4, 2) := by decide +kernel
theorem dX12_isAsked_72 : decode cX12_isAsked 72 = .ok (.iconst 1, 1) := by decide +kernel
theorem dX12_isAsked_73 : decode cX12_isAsked 73 = .ok (.invokevirtual 79, 3) := by decide +kernel
theorem dX12_isAsked_76 : decode cX12_isAsked 76 = .ok (.iload_n 3, 1) := by decide +kernel
theorem dX12_isAsked_77 : decode cX12_isAsked 77 = .ok (.if_icmp .lt 93, 3) := by decide +kernel
theorem dX12_isAsked_80 : decode cX12_isAsked 80 = .ok (.aload_n 0, 1) := by decide +kernel
theorem dX12_isAsked_81 : decode cX12_isAsked 81 = .ok (.getfield 7, 3) := by decide +kernel
theorem dX12_isAsked_84 : decode cX12_isAsked 84 = .ok (.bipush 20, 2) := by decide +kernel
theorem dX12_isAsked_86 : decode cX12_isAsked 86 = .ok (.iconst 4, 1) := by decide +kernel
theorem dX12_isAsked_87 : decode cX12_isAsked 87 = .ok (.iload 4, 2) := by decide +kernel
theorem dX12_isAsked_89 : decode cX12_isAsked 89 = .ok (.imul, 1) := by decide +kernel
theorem dX12_isAsked_90 : decode cX12_isAsked 90 = .ok (.iadd, 1) := by decide +kernel
theorem dX12_isAsked_91 : decode cX12_isAsked 91 = .ok (.iconst 1, 1) := by decide +kernel
theorem dX12_isAsked_92 : decode cX12_isAsked 92 = .ok (.iadd, 1) := by decide +kernel
theorem dX12_isAsked_93 : decode cX12_isAsked 93 = .ok (.dup2, 1) := by decide +kernel
theorem dX12_isAsked_94 : decode cX12_isAsked 94 = .ok (.iaload, 1) := by decide +kernel
theorem dX12_isAsked_95 : decode cX12_isAsked 95 = .ok (.iload_n 3, 1) := by decide +kernel
theorem dX12_isAsked_96 : decode cX12_isAsked 96 = .ok (.isub, 1) := by decide +kernel
theorem dX12_isAsked_97 : decode cX12_isAsked 97 = .ok (.iastore, 1) := by decide +kernel
theorem dX12_isAsked_98 : decode cX12_isAsked 98 = .ok (.aload_n 0, 1) := by decide +kernel
theorem dX12_isAsked_99 : decode cX12_isAsked 99 = .ok (.iload_n 2, 1) := by decide +kernel
theorem dX12_isAsked_100 : decode cX12_isAsked 100 = .ok (.iload_n 3, 1) := by decide +kernel
theorem dX12_isAsked_101 : decode cX12_isAsked 101 = .ok (.invokevirtual 185, 3) := by decide +kernel
theorem dX12_isAsked_104 : decode cX12_isAsked 104 = .ok (.aload_n 0, 1) := by decide +kernel
theorem dX12_isAsked_105 : decode cX12_isAsked 105 = .ok (.getfield 7, 3) := by decide +kernel
theorem dX12_isAsked_108 : decode cX12_isAsked 108 = .ok (.bipush 44, 2) := by decide +kernel
theorem dX12_isAsked_110 : decode cX12_isAsked 110 = .ok (.iconst 4, 1) := by decide +kernel
theorem dX12_isAsked_111 : decode cX12_isAsked 111 = .ok (.iload_n 1, 1) := by decide +kernel
theorem dX12_isAsked_112 : decode cX12_isAsked 112 = .ok (.imul, 1) := by decide +kernel
theorem dX12_isAsked_113 : decode cX12_isAsked 113 = .ok (.iadd, 1) := by decide +kernel
theorem dX12_isAsked_114 : decode cX12_isAsked 114 = .ok (.iconst 0, 1) := by decide +kernel
theorem dX12_isAsked_115 : decode cX12_isAsked 115 = .ok (.iadd, 1) := by decide +kernel
theorem dX12_isAsked_116 : decode cX12_isAsked 116 = .ok (.iload 4, 2) := by decide +kernel
theorem dX12_isAsked_118 : decode cX12_isAsked 118 = .ok (.iastore, 1) := by decide +kernel
theorem dX12_isAsked_119 : decode cX12_isAsked 119 = .ok (.aload_n 0, 1) := by decide +kernel
theorem dX12_isAsked_120 : decode cX12_isAsked 120 = .ok (.getfield 7, 3) := by decide +kernel
theorem dX12_isAsked_123 : decode cX12_isAsked 123 = .ok (.iconst 4, 1) := by decide +kernel
theorem dX12_isAsked_124 : decode cX12_isAsked 124 = .ok (.dup2, 1) := by decide +kernel
theorem dX12_isAsked_125 : decode cX12_isAsked 125 = .ok (.iaload, 1) := by decide +kernel
theorem dX12_isAsked_126 : decode cX12_isAsked 126 = .ok (.iconst 1, 1) := by decide +kernel
theorem dX12_isAsked_127 : decode cX12_isAsked 127 = .ok (.iadd, 1) := by decide +kernel
theorem dX12_isAsked_128 : decode cX12_isAsked 128 = .ok (.iastore, 1) := by decide +kernel
theorem dX12_isAsked_129 : decode cX12_isAsked 129 = .ok (.aload_n 0, 1) := by decide +kernel
theorem dX12_isAsked_130 : decode cX12_isAsked 130 = .ok (.iload_n 1, 1) := by decide +kernel
theorem dX12_isAsked_131 : decode cX12_isAsked 131 = .ok (.iconst 2, 1) := by decide +kernel
theorem dX12_isAsked_132 : decode cX12_isAsked 132 = .ok (.invokevirtual 51, 3) := by decide +kernel
theorem dX12_isAsked_135 : decode cX12_isAsked 135 = .ok (.aload_n 0, 1) := by decide +kernel
theorem dX12_isAsked_136 : decode cX12_isAsked 136 = .ok (.getfield 7, 3) := by decide +kernel
theorem dX12_isAsked_139 : decode cX12_isAsked 139 = .ok (.bipush 11, 2) := by decide +kernel
theorem dX12_isAsked_141 : decode cX12_isAsked 141 = .ok (.iaload, 1) := by decide +kernel
theorem dX12_isAsked_142 : decode cX12_isAsked 142 = .ok (.isub, 1) := by decide +kernel
theorem dX12_isAsked_143 : decode cX12_isAsked 143 = .ok (.istore 5, 2) := by decide +kernel
theorem dX12_isAsked_145 : decode cX12_isAsked 145 = .ok (.aload_n 0, 1) := by decide +kernel
theorem dX12_isAsked_146 : decode cX12_isAsked 146 = .ok (.getfield 7, 3) := by decide +kernel
theorem dX12_isAsked_149 : decode cX12_isAsked 149 = .ok (.bipush 44, 2) := by decide +kernel
theorem dX12_isAsked_151 : decode cX12_isAsked 151 = .ok (.iconst 4, 1) := by decide +kernel
theorem dX12_isAsked_152 : decode cX12_isAsked 152 = .ok (.iload_n 1, 1) := by decide +kernel
theorem dX12_isAsked_153 : decode cX12_isAsked 153 = .ok (.imul, 1) := by decide +kernel
theorem dX12_isAsked_154 : decode cX12_isAsked 154 = .ok (.iadd, 1) := by decide +kernel
theorem dX12_isAsked_155 : decode cX12_isAsked 155 = .ok (.iconst 2, 1) := by decide +kernel
theorem dX12_isAsked_156 : decode cX12_isAsked 156 = .ok (.iadd, 1) := by decide +kernel
theorem dX12_isAsked_157 : decode cX12_isAsked 157 = .ok (.iload 5, 2) := by decide +kernel
theorem dX12_isAsked_159 : decode cX12_isAsked 159 = .ok (.ifCond .ge 7, 3) := by decide +kernel
theorem dX12_isAsked_162 : decode cX12_isAsked 162 = .ok (.iconst 0, 1) := by decide +kernel
theorem dX12_isAsked_163 : decode cX12_isAsked 163 = .ok (.goto 5, 3) := by decide +kernel
theorem dX12_isAsked_166 : decode cX12_isAsked 166 = .ok (.iload 5, 2) := by decide +kernel
theorem dX12_isAsked_168 : decode cX12_isAsked 168 = .ok (.iastore, 1) := by decide +kernel
theorem dX12_isAsked_169 : decode cX12_isAsked 169 = .ok (.return_, 1) := by decide +kernel
theorem dX12_isAsked_170 : decode cX12_isAsked 170 = .ok (.iinc 4 1, 3) := by decide +kernel
theorem dX12_isAsked_173 : decode cX12_isAsked 173 = .ok (.goto (-157), 3) := by decide +kernel
theorem dX12_isAsked_176 : decode cX12_isAsked 176 = .ok (.return_, 1) := by decide +kernel
theorem dX12_mends_0 : decode cX12_mends 0 = .ok (.aload_n 0, 1) := by decide +kernel
theorem dX12_mends_1 : decode cX12_mends 1 = .ok (.iload_n 1, 1) := by decide +kernel
theorem dX12_mends_2 : decode cX12_mends 2 = .ok (.invokevirtual 177, 3) := by decide +kernel
theorem dX12_mends_5 : decode cX12_mends 5 = .ok (.ifCond .eq 65, 3) := by decide +kernel
theorem dX12_mends_8 : decode cX12_mends 8 = .ok (.aload_n 0, 1) := by decide +kernel
theorem dX12_mends_9 : decode cX12_mends 9 = .ok (.getfield 7, 3) := by decide +kernel
theorem dX12_mends_12 : decode cX12_mends 12 = .ok (.bipush 20, 2) := by decide +kernel
theorem dX12_mends_14 : decode cX12_mends 14 = .ok (.iconst 4, 1) := by decide +kernel
theorem dX12_mends_15 : decode cX12_mends 15 = .ok (.aload_n 0, 1) := by decide +kernel
theorem dX12_mends_16 : decode cX12_mends 16 = .ok (.iload_n 1, 1) := by decide +kernel
theorem dX12_mends_17 : decode cX12_mends 17 = .ok (.invokevirtual 67, 3) := by decide +kernel
theorem dX12_mends_20 : decode cX12_mends 20 = .ok (.imul, 1) := by decide +kernel
theorem dX12_mends_21 : decode cX12_mends 21 = .ok (.iadd, 1) := by decide +kernel
theorem dX12_mends_22 : decode cX12_mends 22 = .ok (.iconst 1, 1) := by decide +kernel
theorem dX12_mends_23 : decode cX12_mends 23 = .ok (.iadd, 1) := by decide +kernel
theorem dX12_mends_24 : decode cX12_mends 24 = .ok (.dup2, 1) := by decide +kernel
theorem dX12_mends_25 : decode cX12_mends 25 = .ok (.iaload, 1) := by decide +kernel
theorem dX12_mends_26 : decode cX12_mends 26 = .ok (.aload_n 0, 1) := by decide +kernel
theorem dX12_mends_27 : decode cX12_mends 27 = .ok (.getfield 7, 3) := by decide +kernel
theorem dX12_mends_30 : decode cX12_mends 30 = .ok (.bipush 14, 2) := by decide +kernel
theorem dX12_mends_32 : decode cX12_mends 32 = .ok (.iaload, 1) := by decide +kernel
theorem dX12_mends_33 : decode cX12_mends 33 = .ok (.isub, 1) := by decide +kernel
theorem dX12_mends_34 : decode cX12_mends 34 = .ok (.iastore, 1) := by decide +kernel
theorem dX12_mends_35 : decode cX12_mends 35 = .ok (.aload_n 0, 1) := by decide +kernel
theorem dX12_mends_36 : decode cX12_mends 36 = .ok (.iload_n 1, 1) := by decide +kernel
theorem dX12_mends_37 : decode cX12_mends 37 = .ok (.iconst 2, 1) := by decide +kernel
theorem dX12_mends_38 : decode cX12_mends 38 = .ok (.invokevirtual 51, 3) := by decide +kernel
theorem dX12_mends_41 : decode cX12_mends 41 = .ok (.bipush 10, 2) := by decide +kernel
theorem dX12_mends_43 : decode cX12_mends 43 = .ok (.iadd, 1) := by decide +kernel
theorem dX12_mends_44 : decode cX12_mends 44 = .ok (.istore_n 2, 1) := by decide +kernel
theorem dX12_mends_45 : decode cX12_mends 45 = .ok (.aload_n 0, 1) := by decide +kernel
theorem dX12_mends_46 : decode cX12_mends 46 = .ok (.getfield 7, 3) := by decide +kernel
theorem dX12_mends_49 : decode cX12_mends 49 = .ok (.bipush 44, 2) := by decide +kernel
theorem dX12_mends_51 : decode cX12_mends 51 = .ok (.iconst 4, 1) := by decide +kernel
theorem dX12_mends_52 : decode cX12_mends 52 = .ok (.iload_n 1, 1) := by decide +kernel
theorem dX12_mends_53 : decode cX12_mends 53 = .ok (.imul, 1) := by decide +kernel
theorem dX12_mends_54 : decode cX12_mends 54 = .ok (.iadd, 1) := by decide +kernel
theorem dX12_mends_55 : decode cX12_mends 55 = .ok (.iconst 2, 1) := by decide +kernel
theorem dX12_mends_56 : decode cX12_mends 56 = .ok (.iadd, 1) := by decide +kernel
theorem dX12_mends_57 : decode cX12_mends 57 = .ok (.iload_n 2, 1) := by decide +kernel
theorem dX12_mends_58 : decode cX12_mends 58 = .ok (.bipush 100, 2) := by decide +kernel
theorem dX12_mends_60 : decode cX12_mends 60 = .ok (.if_icmp .le 8, 3) := by decide +kernel
theorem dX12_mends_63 : decode cX12_mends 63 = .ok (.bipush 100, 2) := by decide +kernel
theorem dX12_mends_65 : decode cX12_mends 65 = .ok (.goto 4, 3) := by decide +kernel
theorem dX12_mends_68 : decode cX12_mends 68 = .ok (.iload_n 2, 1) := by decide +kernel
theorem dX12_mends_69 : decode cX12_mends 69 = .ok (.iastore, 1) := by decide +kernel
theorem dX12_mends_70 : decode cX12_mends 70 = .ok (.return_, 1) := by decide +kernel
theorem dX12_sharesOut_0 : decode cX12_sharesOut 0 = .ok (.aload_n 0, 1) := by decide +kernel
theorem dX12_sharesOut_1 : decode cX12_sharesOut 1 = .ok (.getfield 7, 3) := by decide +kernel
theorem dX12_sharesOut_4 : decode cX12_sharesOut 4 = .ok (.iconst 0, 1) := by decide +kernel
theorem dX12_sharesOut_5 : decode cX12_sharesOut 5 = .ok (.iaload, 1) := by decide +kernel
theorem dX12_sharesOut_6 : decode cX12_sharesOut 6 = .ok (.istore_n 1, 1) := by decide +kernel
theorem dX12_sharesOut_7 : decode cX12_sharesOut 7 = .ok (.aload_n 0, 1) := by decide +kernel
theorem dX12_sharesOut_8 : decode cX12_sharesOut 8 = .ok (.getfield 7, 3) := by decide +kernel
theorem dX12_sharesOut_11 : decode cX12_sharesOut 11 = .ok (.bipush 12, 2) := by decide +kernel
theorem dX12_sharesOut_13 : decode cX12_sharesOut 13 = .ok (.iaload, 1) := by decide +kernel
theorem dX12_sharesOut_14 : decode cX12_sharesOut 14 = .ok (.ifCond .eq 7, 3) := by decide +kernel
theorem dX12_sharesOut_17 : decode cX12_sharesOut 17 = .ok (.iload_n 1, 1) := by decide +kernel
theorem dX12_sharesOut_18 : decode cX12_sharesOut 18 = .ok (.ifCond .ne 4, 3) := by decide +kernel
theorem dX12_sharesOut_21 : decode cX12_sharesOut 21 = .ok (.return_, 1) := by decide +kernel
theorem dX12_sharesOut_22 : decode cX12_sharesOut 22 = .ok (.aload_n 0, 1) := by decide +kernel
theorem dX12_sharesOut_23 : decode cX12_sharesOut 23 = .ok (.getfield 7, 3) := by decide +kernel
theorem dX12_sharesOut_26 : decode cX12_sharesOut 26 = .ok (.bipush 12, 2) := by decide +kernel
theorem dX12_sharesOut_28 : decode cX12_sharesOut 28 = .ok (.iaload, 1) := by decide +kernel
theorem dX12_sharesOut_29 : decode cX12_sharesOut 29 = .ok (.iconst 1, 1) := by decide +kernel
theorem dX12_sharesOut_30 : decode cX12_sharesOut 30 = .ok (.if_icmp .ne 44, 3) := by decide +kernel
theorem dX12_sharesOut_33 : decode cX12_sharesOut 33 = .ok (.aload_n 0, 1) := by decide +kernel
theorem dX12_sharesOut_34 : decode cX12_sharesOut 34 = .ok (.getfield 7, 3) := by decide +kernel
theorem dX12_sharesOut_37 : decode cX12_sharesOut 37 = .ok (.iconst 5, 1) := by decide +kernel
theorem dX12_sharesOut_38 : decode cX12_sharesOut 38 = .ok (.iaload, 1) := by decide +kernel
theorem dX12_sharesOut_39 : decode cX12_sharesOut 39 = .ok (.iload_n 1, 1) := by decide +kernel
theorem dX12_sharesOut_40 : decode cX12_sharesOut 40 = .ok (.idiv, 1) := by decide +kernel
theorem dX12_sharesOut_41 : decode cX12_sharesOut 41 = .ok (.istore_n 2, 1) := by decide +kernel
theorem dX12_sharesOut_42 : decode cX12_sharesOut 42 = .ok (.iconst 0, 1) := by decide +kernel
theorem dX12_sharesOut_43 : decode cX12_sharesOut 43 = .ok (.istore_n 3, 1) := by decide +kernel
theorem dX12_sharesOut_44 : decode cX12_sharesOut 44 = .ok (.iload_n 3, 1) := by decide +kernel
theorem dX12_sharesOut_45 : decode cX12_sharesOut 45 = .ok (.iload_n 1, 1) := by decide +kernel
theorem dX12_sharesOut_46 : decode cX12_sharesOut 46 = .ok (.if_icmp .ge 15, 3) := by decide +kernel
theorem dX12_sharesOut_49 : decode cX12_sharesOut 49 = .ok (.aload_n 0, 1) := by decide +kernel
theorem dX12_sharesOut_50 : decode cX12_sharesOut 50 = .ok (.iload_n 3, 1) := by decide +kernel
theorem dX12_sharesOut_51 : decode cX12_sharesOut 51 = .ok (.iload_n 2, 1) := by decide +kernel
theorem dX12_sharesOut_52 : decode cX12_sharesOut 52 = .ok (.invokevirtual 185, 3) := by decide +kernel
theorem dX12_sharesOut_55 : decode cX12_sharesOut 55 = .ok (.iinc 3 1, 3) := by decide +kernel
theorem dX12_sharesOut_58 : decode cX12_sharesOut 58 = .ok (.goto (-14), 3) := by decide +kernel
theorem dX12_sharesOut_61 : decode cX12_sharesOut 61 = .ok (.aload_n 0, 1) := by decide +kernel
theorem dX12_sharesOut_62 : decode cX12_sharesOut 62 = .ok (.getfield 7, 3) := by decide +kernel
theorem dX12_sharesOut_65 : decode cX12_sharesOut 65 = .ok (.iconst 5, 1) := by decide +kernel
theorem dX12_sharesOut_66 : decode cX12_sharesOut 66 = .ok (.dup2, 1) := by decide +kernel
theorem dX12_sharesOut_67 : decode cX12_sharesOut 67 = .ok (.iaload, 1) := by decide +kernel
theorem dX12_sharesOut_68 : decode cX12_sharesOut 68 = .ok (.iload_n 2, 1) := by decide +kernel
theorem dX12_sharesOut_69 : decode cX12_sharesOut 69 = .ok (.iload_n 1, 1) := by decide +kernel
theorem dX12_sharesOut_70 : decode cX12_sharesOut 70 = .ok (.imul, 1) := by decide +kernel
theorem dX12_sharesOut_71 : decode cX12_sharesOut 71 = .ok (.isub, 1) := by decide +kernel
theorem dX12_sharesOut_72 : decode cX12_sharesOut 72 = .ok (.iastore, 1) := by decide +kernel
theorem dX12_sharesOut_73 : decode cX12_sharesOut 73 = .ok (.return_, 1) := by decide +kernel
theorem dX12_sharesOut_74 : decode cX12_sharesOut 74 = .ok (.iconst 0, 1) := by decide +kernel
theorem dX12_sharesOut_75 : decode cX12_sharesOut 75 = .ok (.istore_n 2, 1) := by decide +kernel
theorem dX12_sharesOut_76 : decode cX12_sharesOut 76 = .ok (.iconst 1, 1) := by decide +kernel
theorem dX12_sharesOut_77 : decode cX12_sharesOut 77 = .ok (.istore_n 3, 1) := by decide +kernel
theorem dX12_sharesOut_78 : decode cX12_sharesOut 78 = .ok (.iload_n 3, 1) := by decide +kernel
theorem dX12_sharesOut_79 : decode cX12_sharesOut 79 = .ok (.iload_n 1, 1) := by decide +kernel
theorem dX12_sharesOut_80 : decode cX12_sharesOut 80 = .ok (.if_icmp .ge 30, 3) := by decide +kernel
theorem dX12_sharesOut_83 : decode cX12_sharesOut 83 = .ok (.aload_n 0, 1) := by decide +kernel
theorem dX12_sharesOut_84 : decode cX12_sharesOut 84 = .ok (.iload_n 3, 1) := by decide +kernel
theorem dX12_sharesOut_85 : decode cX12_sharesOut 85 = .ok (.iconst 1, 1) := by decide +kernel
theorem dX12_sharesOut_86 : decode cX12_sharesOut 86 = .ok (.invokevirtual 79, 3) := by decide +kernel
theorem dX12_sharesOut_89 : decode cX12_sharesOut 89 = .ok (.aload_n 0, 1) := by decide +kernel
theorem dX12_sharesOut_90 : decode cX12_sharesOut 90 = .ok (.iload_n 2, 1) := by decide +kernel
theorem dX12_sharesOut_91 : decode cX12_sharesOut 91 = .ok (.iconst 1, 1) := by decide +kernel
theorem dX12_sharesOut_92 : decode cX12_sharesOut 92 = .ok (.invokevirtual 79, 3) := by decide +kernel
theorem dX12_sharesOut_95 : decode cX12_sharesOut 95 = .ok (.if_icmp .ge 7, 3) := by decide +kernel
theorem dX12_sharesOut_98 : decode cX12_sharesOut 98 = .ok (.iload_n 3, 1) := by decide +kernel
theorem dX12_sharesOut_99 : decode cX12_sharesOut 99 = .ok (.goto 4, 3) := by decide +kernel
theorem dX12_sharesOut_102 : decode cX12_sharesOut 102 = .ok (.iload_n 2, 1) := by decide +kernel
theorem dX12_sharesOut_103 : decode cX12_sharesOut 103 = .ok (.istore_n 2, 1) := by decide +kernel
theorem dX12_sharesOut_104 : decode cX12_sharesOut 104 = .ok (.iinc 3 1, 3) := by decide +kernel
theorem dX12_sharesOut_107 : decode cX12_sharesOut 107 = .ok (.goto (-29), 3) := by decide +kernel
theorem dX12_sharesOut_110 : decode cX12_sharesOut 110 = .ok (.aload_n 0, 1) := by decide +kernel
theorem dX12_sharesOut_111 : decode cX12_sharesOut 111 = .ok (.iload_n 2, 1) := by decide +kernel
theorem dX12_sharesOut_112 : decode cX12_sharesOut 112 = .ok (.aload_n 0, 1) := by decide +kernel
theorem dX12_sharesOut_113 : decode cX12_sharesOut 113 = .ok (.getfield 7, 3) := by decide +kernel
theorem dX12_sharesOut_116 : decode cX12_sharesOut 116 = .ok (.iconst 5, 1) := by decide +kernel
theorem dX12_sharesOut_117 : decode cX12_sharesOut 117 = .ok (.iaload, 1) := by decide +kernel
theorem dX12_sharesOut_118 : decode cX12_sharesOut 118 = .ok (.invokevirtual 185, 3) := by decide +kernel
theorem dX12_sharesOut_121 : decode cX12_sharesOut 121 = .ok (.aload_n 0, 1) := by decide +kernel
theorem dX12_sharesOut_122 : decode cX12_sharesOut 122 = .ok (.getfield 7, 3) := by decide +kernel
theorem dX12_sharesOut_125 : decode cX12_sharesOut 125 = .ok (.iconst 5, 1) := by decide +kernel
theorem dX12_sharesOut_126 : decode cX12_sharesOut 126 = .ok (.iconst 0, 1) := by decide +kernel
theorem dX12_sharesOut_127 : decode cX12_sharesOut 127 = .ok (.iastore, 1) := by decide +kernel
theorem dX12_sharesOut_128 : decode cX12_sharesOut 128 = .ok (.return_, 1) := by decide +kernel
theorem dX12_year_0 : decode cX12_year 0 = .ok (.iconst 0, 1) := by decide +kernel
theorem dX12_year_1 : decode cX12_year 1 = .ok (.istore_n 1, 1) := by decide +kernel
theorem dX12_year_2 : decode cX12_year 2 = .ok (.iload_n 1, 1) := by decide +kernel
theorem dX12_year_3 : decode cX12_year 3 = .ok (.aload_n 0, 1) := by decide +kernel
theorem dX12_year_4 : decode cX12_year 4 = .ok (.getfield 7, 3) := by decide +kernel
theorem dX12_year_7 : decode cX12_year 7 = .ok (.iconst 1, 1) := by decide +kernel
theorem dX12_year_8 : decode cX12_year 8 = .ok (.iaload, 1) := by decide +kernel
theorem dX12_year_9 : decode cX12_year 9 = .ok (.if_icmp .ge 27, 3) := by decide +kernel
theorem dX12_year_12 : decode cX12_year 12 = .ok (.aload_n 0, 1) := by decide +kernel
theorem dX12_year_13 : decode cX12_year 13 = .ok (.getfield 7, 3) := by decide +kernel
theorem dX12_year_16 : decode cX12_year 16 = .ok (.bipush 44, 2) := by decide +kernel
theorem dX12_year_18 : decode cX12_year 18 = .ok (.iconst 4, 1) := by decide +kernel
theorem dX12_year_19 : decode cX12_year 19 = .ok (.iload_n 1, 1) := by decide +kernel
theorem dX12_year_20 : decode cX12_year 20 = .ok (.imul, 1) := by decide +kernel
theorem dX12_year_21 : decode cX12_year 21 = .ok (.iadd, 1) := by decide +kernel
theorem dX12_year_22 : decode cX12_year 22 = .ok (.iconst 1, 1) := by decide +kernel
theorem dX12_year_23 : decode cX12_year 23 = .ok (.iadd, 1) := by decide +kernel
theorem dX12_year_24 : decode cX12_year 24 = .ok (.aload_n 0, 1) := by decide +kernel
theorem dX12_year_25 : decode cX12_year 25 = .ok (.iload_n 1, 1) := by decide +kernel
theorem dX12_year_26 : decode cX12_year 26 = .ok (.invokevirtual 174, 3) := by decide +kernel
theorem dX12_year_29 : decode cX12_year 29 = .ok (.iastore, 1) := by decide +kernel
theorem dX12_year_30 : decode cX12_year 30 = .ok (.iinc 1 1, 3) := by decide +kernel
theorem dX12_year_33 : decode cX12_year 33 = .ok (.goto (-31), 3) := by decide +kernel
theorem dX12_year_36 : decode cX12_year 36 = .ok (.iconst 0, 1) := by decide +kernel
theorem dX12_year_37 : decode cX12_year 37 = .ok (.istore_n 1, 1) := by decide +kernel
theorem dX12_year_38 : decode cX12_year 38 = .ok (.iload_n 1, 1) := by decide +kernel
theorem dX12_year_39 : decode cX12_year 39 = .ok (.aload_n 0, 1) := by decide +kernel
theorem dX12_year_40 : decode cX12_year 40 = .ok (.getfield 7, 3) := by decide +kernel
theorem dX12_year_43 : decode cX12_year 43 = .ok (.iconst 1, 1) := by decide +kernel
theorem dX12_year_44 : decode cX12_year 44 = .ok (.iaload, 1) := by decide +kernel
theorem dX12_year_45 : decode cX12_year 45 = .ok (.if_icmp .ge 14, 3) := by decide +kernel
theorem dX12_year_48 : decode cX12_year 48 = .ok (.aload_n 0, 1) := by decide +kernel
theorem dX12_year_49 : decode cX12_year 49 = .ok (.iload_n 1, 1) := by decide +kernel
theorem dX12_year_50 : decode cX12_year 50 = .ok (.invokevirtual 188, 3) := by decide +kernel
theorem dX12_year_53 : decode cX12_year 53 = .ok (.iinc 1 1, 3) := by decide +kernel
theorem dX12_year_56 : decode cX12_year 56 = .ok (.goto (-18), 3) := by decide +kernel
theorem dX12_year_59 : decode cX12_year 59 = .ok (.iconst 0, 1) := by decide +kernel
theorem dX12_year_60 : decode cX12_year 60 = .ok (.istore_n 1, 1) := by decide +kernel
theorem dX12_year_61 : decode cX12_year 61 = .ok (.iload_n 1, 1) := by decide +kernel
theorem dX12_year_62 : decode cX12_year 62 = .ok (.aload_n 0, 1) := by decide +kernel
theorem dX12_year_63 : decode cX12_year 63 = .ok (.getfield 7, 3) := by decide +kernel
theorem dX12_year_66 : decode cX12_year 66 = .ok (.iconst 1, 1) := by decide +kernel
theorem dX12_year_67 : decode cX12_year 67 = .ok (.iaload, 1) := by decide +kernel
theorem dX12_year_68 : decode cX12_year 68 = .ok (.if_icmp .ge 23, 3) := by decide +kernel
theorem dX12_year_71 : decode cX12_year 71 = .ok (.aload_n 0, 1) := by decide +kernel
theorem dX12_year_72 : decode cX12_year 72 = .ok (.iload_n 1, 1) := by decide +kernel
theorem dX12_year_73 : decode cX12_year 73 = .ok (.iconst 3, 1) := by decide +kernel
theorem dX12_year_74 : decode cX12_year 74 = .ok (.invokevirtual 51, 3) := by decide +kernel
theorem dX12_year_77 : decode cX12_year 77 = .ok (.ifCond .ne 8, 3) := by decide +kernel
theorem dX12_year_80 : decode cX12_year 80 = .ok (.aload_n 0, 1) := by decide +kernel
theorem dX12_year_81 : decode cX12_year 81 = .ok (.iload_n 1, 1) := by decide +kernel
theorem dX12_year_82 : decode cX12_year 82 = .ok (.invokevirtual 192, 3) := by decide +kernel
theorem dX12_year_85 : decode cX12_year 85 = .ok (.iinc 1 1, 3) := by decide +kernel
theorem dX12_year_88 : decode cX12_year 88 = .ok (.goto (-27), 3) := by decide +kernel
theorem dX12_year_91 : decode cX12_year 91 = .ok (.iconst 0, 1) := by decide +kernel
theorem dX12_year_92 : decode cX12_year 92 = .ok (.istore_n 1, 1) := by decide +kernel
theorem dX12_year_93 : decode cX12_year 93 = .ok (.iload_n 1, 1) := by decide +kernel
theorem dX12_year_94 : decode cX12_year 94 = .ok (.aload_n 0, 1) := by decide +kernel
theorem dX12_year_95 : decode cX12_year 95 = .ok (.getfield 7, 3) := by decide +kernel
theorem dX12_year_98 : decode cX12_year 98 = .ok (.iconst 1, 1) := by decide +kernel
theorem dX12_year_99 : decode cX12_year 99 = .ok (.iaload, 1) := by decide +kernel
theorem dX12_year_100 : decode cX12_year 100 = .ok (.if_icmp .ge 14, 3) := by decide +kernel
theorem dX12_year_103 : decode cX12_year 103 = .ok (.aload_n 0, 1) := by decide +kernel
theorem dX12_year_104 : decode cX12_year 104 = .ok (.iload_n 1, 1) := by decide +kernel
theorem dX12_year_105 : decode cX12_year 105 = .ok (.invokevirtual 195, 3) := by decide +kernel
theorem dX12_year_108 : decode cX12_year 108 = .ok (.iinc 1 1, 3) := by decide +kernel
theorem dX12_year_111 : decode cX12_year 111 = .ok (.goto (-18), 3) := by decide +kernel
theorem dX12_year_114 : decode cX12_year 114 = .ok (.aload_n 0, 1) := by decide +kernel
theorem dX12_year_115 : decode cX12_year 115 = .ok (.invokevirtual 198, 3) := by decide +kernel
theorem dX12_year_118 : decode cX12_year 118 = .ok (.aload_n 0, 1) := by decide +kernel
theorem dX12_year_119 : decode cX12_year 119 = .ok (.getfield 7, 3) := by decide +kernel
theorem dX12_year_122 : decode cX12_year 122 = .ok (.iconst 3, 1) := by decide +kernel
theorem dX12_year_123 : decode cX12_year 123 = .ok (.dup2, 1) := by decide +kernel
theorem dX12_year_124 : decode cX12_year 124 = .ok (.iaload, 1) := by decide +kernel
theorem dX12_year_125 : decode cX12_year 125 = .ok (.iconst 1, 1) := by decide +kernel
theorem dX12_year_126 : decode cX12_year 126 = .ok (.iadd, 1) := by decide +kernel
theorem dX12_year_127 : decode cX12_year 127 = .ok (.iastore, 1) := by decide +kernel
theorem dX12_year_128 : decode cX12_year 128 = .ok (.return_, 1) := by decide +kernel
theorem dX12_go_0 : decode cX12_go 0 = .ok (.iconst 0, 1) := by decide +kernel
theorem dX12_go_1 : decode cX12_go 1 = .ok (.istore_n 2, 1) := by decide +kernel
theorem dX12_go_2 : decode cX12_go 2 = .ok (.iload_n 2, 1) := by decide +kernel
theorem dX12_go_3 : decode cX12_go 3 = .ok (.iload_n 1, 1) := by decide +kernel
theorem dX12_go_4 : decode cX12_go 4 = .ok (.if_icmp .ge 13, 3) := by decide +kernel
theorem dX12_go_7 : decode cX12_go 7 = .ok (.aload_n 0, 1) := by decide +kernel
theorem dX12_go_8 : decode cX12_go 8 = .ok (.invokevirtual 201, 3) := by decide +kernel
theorem dX12_go_11 : decode cX12_go 11 = .ok (.iinc 2 1, 3) := by decide +kernel
theorem dX12_go_14 : decode cX12_go 14 = .ok (.goto (-12), 3) := by decide +kernel
theorem dX12_go_17 : decode cX12_go 17 = .ok (.return_, 1) := by decide +kernel
theorem dX12_years_0 : decode cX12_years 0 = .ok (.iload_n 1, 1) := by decide +kernel
theorem dX12_years_1 : decode cX12_years 1 = .ok (.iconst 1, 1) := by decide +kernel
theorem dX12_years_2 : decode cX12_years 2 = .ok (.bipush 40, 2) := by decide +kernel
theorem dX12_years_4 : decode cX12_years 4 = .ok (.invokestatic 47, 3) := by decide +kernel
theorem dX12_years_7 : decode cX12_years 7 = .ok (.ifCond .ne 9, 3) := by decide +kernel
theorem dX12_years_10 : decode cX12_years 10 = .ok (.aload_n 0, 1) := by decide +kernel
theorem dX12_years_11 : decode cX12_years 11 = .ok (.iconst 1, 1) := by decide +kernel
theorem dX12_years_12 : decode cX12_years 12 = .ok (.invokevirtual 60, 3) := by decide +kernel
theorem dX12_years_15 : decode cX12_years 15 = .ok (.ireturn, 1) := by decide +kernel
theorem dX12_years_16 : decode cX12_years 16 = .ok (.aload_n 0, 1) := by decide +kernel
theorem dX12_years_17 : decode cX12_years 17 = .ok (.getfield 7, 3) := by decide +kernel
theorem dX12_years_20 : decode cX12_years 20 = .ok (.iconst 3, 1) := by decide +kernel
theorem dX12_years_21 : decode cX12_years 21 = .ok (.iaload, 1) := by decide +kernel
theorem dX12_years_22 : decode cX12_years 22 = .ok (.iload_n 1, 1) := by decide +kernel
theorem dX12_years_23 : decode cX12_years 23 = .ok (.iadd, 1) := by decide +kernel
theorem dX12_years_24 : decode cX12_years 24 = .ok (.sipush 9999, 3) := by decide +kernel
theorem dX12_years_27 : decode cX12_years 27 = .ok (.if_icmp .le 9, 3) := by decide +kernel
theorem dX12_years_30 : decode cX12_years 30 = .ok (.aload_n 0, 1) := by decide +kernel
theorem dX12_years_31 : decode cX12_years 31 = .ok (.iconst 3, 1) := by decide +kernel
theorem dX12_years_32 : decode cX12_years 32 = .ok (.invokevirtual 60, 3) := by decide +kernel
theorem dX12_years_35 : decode cX12_years 35 = .ok (.ireturn, 1) := by decide +kernel
theorem dX12_years_36 : decode cX12_years 36 = .ok (.aload_n 0, 1) := by decide +kernel
theorem dX12_years_37 : decode cX12_years 37 = .ok (.iload_n 1, 1) := by decide +kernel
theorem dX12_years_38 : decode cX12_years 38 = .ok (.invokevirtual 204, 3) := by decide +kernel
theorem dX12_years_41 : decode cX12_years 41 = .ok (.aload_n 0, 1) := by decide +kernel
theorem dX12_years_42 : decode cX12_years 42 = .ok (.getfield 7, 3) := by decide +kernel
theorem dX12_years_45 : decode cX12_years 45 = .ok (.iconst 4, 1) := by decide +kernel
theorem dX12_years_46 : decode cX12_years 46 = .ok (.iaload, 1) := by decide +kernel
theorem dX12_years_47 : decode cX12_years 47 = .ok (.ireturn, 1) := by decide +kernel
theorem dX12_seed_0 : decode cX12_seed 0 = .ok (.aload_n 0, 1) := by decide +kernel
theorem dX12_seed_1 : decode cX12_seed 1 = .ok (.getfield 7, 3) := by decide +kernel
theorem dX12_seed_4 : decode cX12_seed 4 = .ok (.bipush 8, 2) := by decide +kernel
theorem dX12_seed_6 : decode cX12_seed 6 = .ok (.iaload, 1) := by decide +kernel
theorem dX12_seed_7 : decode cX12_seed 7 = .ok (.istore_n 2, 1) := by decide +kernel
theorem dX12_seed_8 : decode cX12_seed 8 = .ok (.aload_n 0, 1) := by decide +kernel
theorem dX12_seed_9 : decode cX12_seed 9 = .ok (.getfield 7, 3) := by decide +kernel
theorem dX12_seed_12 : decode cX12_seed 12 = .ok (.bipush 8, 2) := by decide +kernel
theorem dX12_seed_14 : decode cX12_seed 14 = .ok (.iload_n 1, 1) := by decide +kernel
theorem dX12_seed_15 : decode cX12_seed 15 = .ok (.iastore, 1) := by decide +kernel
theorem dX12_seed_16 : decode cX12_seed 16 = .ok (.iload_n 2, 1) := by decide +kernel
theorem dX12_seed_17 : decode cX12_seed 17 = .ok (.ireturn, 1) := by decide +kernel
theorem dX12_allBelow_0 : decode cX12_allBelow 0 = .ok (.lconst 1, 1) := by decide +kernel
theorem dX12_allBelow_1 : decode cX12_allBelow 1 = .ok (.lstore_n 2, 1) := by decide +kernel
theorem dX12_allBelow_2 : decode cX12_allBelow 2 = .ok (.iconst 0, 1) := by decide +kernel
theorem dX12_allBelow_3 : decode cX12_allBelow 3 = .ok (.istore 4, 2) := by decide +kernel
theorem dX12_allBelow_5 : decode cX12_allBelow 5 = .ok (.iload 4, 2) := by decide +kernel
theorem dX12_allBelow_7 : decode cX12_allBelow 7 = .ok (.aload_n 0, 1) := by decide +kernel
theorem dX12_allBelow_8 : decode cX12_allBelow 8 = .ok (.getfield 7, 3) := by decide +kernel
theorem dX12_allBelow_11 : decode cX12_allBelow 11 = .ok (.iconst 0, 1) := by decide +kernel
theorem dX12_allBelow_12 : decode cX12_allBelow 12 = .ok (.iaload, 1) := by decide +kernel
theorem dX12_allBelow_13 : decode cX12_allBelow 13 = .ok (.if_icmp .ge 34, 3) := by decide +kernel
theorem dX12_allBelow_16 : decode cX12_allBelow 16 = .ok (.lload_n 2, 1) := by decide +kernel
theorem dX12_allBelow_17 : decode cX12_allBelow 17 = .ok (.iload 4, 2) := by decide +kernel
theorem dX12_allBelow_19 : decode cX12_allBelow 19 = .ok (.aload_n 0, 1) := by decide +kernel
theorem dX12_allBelow_20 : decode cX12_allBelow 20 = .ok (.iload_n 1, 1) := by decide +kernel
theorem dX12_allBelow_21 : decode cX12_allBelow 21 = .ok (.invokevirtual 67, 3) := by decide +kernel
theorem dX12_allBelow_24 : decode cX12_allBelow 24 = .ok (.if_icmp .ne 7, 3) := by decide +kernel
theorem dX12_allBelow_27 : decode cX12_allBelow 27 = .ok (.lconst 1, 1) := by decide +kernel
theorem dX12_allBelow_28 : decode cX12_allBelow 28 = .ok (.goto 11, 3) := by decide +kernel
theorem dX12_allBelow_31 : decode cX12_allBelow 31 = .ok (.aload_n 0, 1) := by decide +kernel
theorem dX12_allBelow_32 : decode cX12_allBelow 32 = .ok (.iload 4, 2) := by decide +kernel
theorem dX12_allBelow_34 : decode cX12_allBelow 34 = .ok (.iconst 3, 1) := by decide +kernel
theorem dX12_allBelow_35 : decode cX12_allBelow 35 = .ok (.invokevirtual 79, 3) := by decide +kernel
theorem dX12_allBelow_38 : decode cX12_allBelow 38 = .ok (.i2l, 1) := by decide +kernel
theorem dX12_allBelow_39 : decode cX12_allBelow 39 = .ok (.lmul, 1) := by decide +kernel
theorem dX12_allBelow_40 : decode cX12_allBelow 40 = .ok (.lstore_n 2, 1) := by decide +kernel
theorem dX12_allBelow_41 : decode cX12_allBelow 41 = .ok (.iinc 4 1, 3) := by decide +kernel
theorem dX12_allBelow_44 : decode cX12_allBelow 44 = .ok (.goto (-39), 3) := by decide +kernel
theorem dX12_allBelow_47 : decode cX12_allBelow 47 = .ok (.lload_n 2, 1) := by decide +kernel
theorem dX12_allBelow_48 : decode cX12_allBelow 48 = .ok (.lreturn, 1) := by decide +kernel
theorem dX12_nobody_0 : decode cX12_nobody 0 = .ok (.lconst 1, 1) := by decide +kernel
theorem dX12_nobody_1 : decode cX12_nobody 1 = .ok (.lstore_n 3, 1) := by decide +kernel
theorem dX12_nobody_2 : decode cX12_nobody 2 = .ok (.iconst 0, 1) := by decide +kernel
theorem dX12_nobody_3 : decode cX12_nobody 3 = .ok (.istore 5, 2) := by decide +kernel
theorem dX12_nobody_5 : decode cX12_nobody 5 = .ok (.iload 5, 2) := by decide +kernel
theorem dX12_nobody_7 : decode cX12_nobody 7 = .ok (.aload_n 0, 1) := by decide +kernel
theorem dX12_nobody_8 : decode cX12_nobody 8 = .ok (.getfield 7, 3) := by decide +kernel
theorem dX12_nobody_11 : decode cX12_nobody 11 = .ok (.iconst 0, 1) := by decide +kernel
theorem dX12_nobody_12 : decode cX12_nobody 12 = .ok (.iaload, 1) := by decide +kernel
theorem dX12_nobody_13 : decode cX12_nobody 13 = .ok (.if_icmp .ge 76, 3) := by decide +kernel
theorem dX12_nobody_16 : decode cX12_nobody 16 = .ok (.aload_n 0, 1) := by decide +kernel
theorem dX12_nobody_17 : decode cX12_nobody 17 = .ok (.iload 5, 2) := by decide +kernel
theorem dX12_nobody_19 : decode cX12_nobody 19 = .ok (.iload_n 1, 1) := by decide +kernel
theorem dX12_nobody_20 : decode cX12_nobody 20 = .ok (.invokevirtual 73, 3) := by decide +kernel
theorem dX12_nobody_23 : decode cX12_nobody 23 = .ok (.iload_n 2, 1) := by decide +kernel
theorem dX12_nobody_24 : decode cX12_nobody 24 = .ok (.if_icmp .le 7, 3) := by decide +kernel
theorem dX12_nobody_27 : decode cX12_nobody 27 = .ok (.iconst 1, 1) := by decide +kernel
theorem dX12_nobody_28 : decode cX12_nobody 28 = .ok (.goto 4, 3) := by decide +kernel
theorem dX12_nobody_31 : decode cX12_nobody 31 = .ok (.iconst 0, 1) := by decide +kernel
theorem dX12_nobody_32 : decode cX12_nobody 32 = .ok (.istore 6, 2) := by decide +kernel
theorem dX12_nobody_34 : decode cX12_nobody 34 = .ok (.lload_n 3, 1) := by decide +kernel
theorem dX12_nobody_35 : decode cX12_nobody 35 = .ok (.iload 5, 2) := by decide +kernel
theorem dX12_nobody_37 : decode cX12_nobody 37 = .ok (.aload_n 0, 1) := by decide +kernel
theorem dX12_nobody_38 : decode cX12_nobody 38 = .ok (.iload_n 1, 1) := by decide +kernel
theorem dX12_nobody_39 : decode cX12_nobody 39 = .ok (.invokevirtual 67, 3) := by decide +kernel
theorem dX12_nobody_42 : decode cX12_nobody 42 = .ok (.if_icmp .ne 7, 3) := by decide +kernel
theorem dX12_nobody_45 : decode cX12_nobody 45 = .ok (.lconst 1, 1) := by decide +kernel
theorem dX12_nobody_46 : decode cX12_nobody 46 = .ok (.goto 35, 3) := by decide +kernel
theorem dX12_nobody_49 : decode cX12_nobody 49 = .ok (.iload 6, 2) := by decide +kernel
theorem dX12_nobody_51 : decode cX12_nobody 51 = .ok (.ifCond .eq 22, 3) := by decide +kernel
theorem dX12_nobody_54 : decode cX12_nobody 54 = .ok (.aload_n 0, 1) := by decide +kernel
theorem dX12_nobody_55 : decode cX12_nobody 55 = .ok (.iload 5, 2) := by decide +kernel
theorem dX12_nobody_57 : decode cX12_nobody 57 = .ok (.iconst 3, 1) := by decide +kernel
theorem dX12_nobody_58 : decode cX12_nobody 58 = .ok (.invokevirtual 79, 3) := by decide +kernel
theorem dX12_nobody_61 : decode cX12_nobody 61 = .ok (.aload_n 0, 1) := by decide +kernel
theorem dX12_nobody_62 : decode cX12_nobody 62 = .ok (.iload 5, 2) := by decide +kernel
theorem dX12_nobody_64 : decode cX12_nobody 64 = .ok (.iconst 2, 1) := by decide +kernel
theorem dX12_nobody_65 : decode cX12_nobody 65 = .ok (.invokevirtual 79, 3) := by decide +kernel
theorem dX12_nobody_68 : decode cX12_nobody 68 = .ok (.isub, 1) := by decide +kernel
theorem dX12_nobody_69 : decode cX12_nobody 69 = .ok (.i2l, 1) := by decide +kernel
theorem dX12_nobody_70 : decode cX12_nobody 70 = .ok (.goto 11, 3) := by decide +kernel
theorem dX12_nobody_73 : decode cX12_nobody 73 = .ok (.aload_n 0, 1) := by decide +kernel
theorem dX12_nobody_74 : decode cX12_nobody 74 = .ok (.iload 5, 2) := by decide +kernel
theorem dX12_nobody_76 : decode cX12_nobody 76 = .ok (.iconst 3, 1) := by decide +kernel
theorem dX12_nobody_77 : decode cX12_nobody 77 = .ok (.invokevirtual 79, 3) := by decide +kernel
theorem dX12_nobody_80 : decode cX12_nobody 80 = .ok (.i2l, 1) := by decide +kernel
theorem dX12_nobody_81 : decode cX12_nobody 81 = .ok (.lmul, 1) := by decide +kernel
theorem dX12_nobody_82 : decode cX12_nobody 82 = .ok (.lstore_n 3, 1) := by decide +kernel
theorem dX12_nobody_83 : decode cX12_nobody 83 = .ok (.iinc 5 1, 3) := by decide +kernel
theorem dX12_nobody_86 : decode cX12_nobody 86 = .ok (.goto (-81), 3) := by decide +kernel
theorem dX12_nobody_89 : decode cX12_nobody 89 = .ok (.lload_n 3, 1) := by decide +kernel
theorem dX12_nobody_90 : decode cX12_nobody 90 = .ok (.lreturn, 1) := by decide +kernel
theorem dX12_gainOf_0 : decode cX12_gainOf 0 = .ok (.aload_n 0, 1) := by decide +kernel
theorem dX12_gainOf_1 : decode cX12_gainOf 1 = .ok (.iload_n 1, 1) := by decide +kernel
theorem dX12_gainOf_2 : decode cX12_gainOf 2 = .ok (.invokevirtual 207, 3) := by decide +kernel
theorem dX12_gainOf_5 : decode cX12_gainOf 5 = .ok (.lstore 4, 2) := by decide +kernel
theorem dX12_gainOf_7 : decode cX12_gainOf 7 = .ok (.aload_n 0, 1) := by decide +kernel
theorem dX12_gainOf_8 : decode cX12_gainOf 8 = .ok (.iload_n 1, 1) := by decide +kernel
theorem dX12_gainOf_9 : decode cX12_gainOf 9 = .ok (.iload_n 2, 1) := by decide +kernel
theorem dX12_gainOf_10 : decode cX12_gainOf 10 = .ok (.invokevirtual 211, 3) := by decide +kernel
theorem dX12_gainOf_13 : decode cX12_gainOf 13 = .ok (.lstore 6, 2) := by decide +kernel
theorem dX12_gainOf_15 : decode cX12_gainOf 15 = .ok (.aload_n 0, 1) := by decide +kernel
theorem dX12_gainOf_16 : decode cX12_gainOf 16 = .ok (.aload_n 0, 1) := by decide +kernel
theorem dX12_gainOf_17 : decode cX12_gainOf 17 = .ok (.iload_n 1, 1) := by decide +kernel
theorem dX12_gainOf_18 : decode cX12_gainOf 18 = .ok (.invokevirtual 67, 3) := by decide +kernel
theorem dX12_gainOf_21 : decode cX12_gainOf 21 = .ok (.iload_n 1, 1) := by decide +kernel
theorem dX12_gainOf_22 : decode cX12_gainOf 22 = .ok (.invokevirtual 73, 3) := by decide +kernel
theorem dX12_gainOf_25 : decode cX12_gainOf 25 = .ok (.i2l, 1) := by decide +kernel
theorem dX12_gainOf_26 : decode cX12_gainOf 26 = .ok (.lstore 8, 2) := by decide +kernel
theorem dX12_gainOf_28 : decode cX12_gainOf 28 = .ok (.ldc2_w 215, 3) := by decide +kernel
theorem dX12_gainOf_31 : decode cX12_gainOf 31 = .ok (.lload 4, 2) := by decide +kernel
theorem dX12_gainOf_33 : decode cX12_gainOf 33 = .ok (.lload 6, 2) := by decide +kernel
theorem dX12_gainOf_35 : decode cX12_gainOf 35 = .ok (.lsub, 1) := by decide +kernel
theorem dX12_gainOf_36 : decode cX12_gainOf 36 = .ok (.iload_n 2, 1) := by decide +kernel
theorem dX12_gainOf_37 : decode cX12_gainOf 37 = .ok (.i2l, 1) := by decide +kernel
theorem dX12_gainOf_38 : decode cX12_gainOf 38 = .ok (.lmul, 1) := by decide +kernel
theorem dX12_gainOf_39 : decode cX12_gainOf 39 = .ok (.lload 6, 2) := by decide +kernel
theorem dX12_gainOf_41 : decode cX12_gainOf 41 = .ok (.lload 8, 2) := by decide +kernel
theorem dX12_gainOf_43 : decode cX12_gainOf 43 = .ok (.lmul, 1) := by decide +kernel
theorem dX12_gainOf_44 : decode cX12_gainOf 44 = .ok (.ladd, 1) := by decide +kernel
theorem dX12_gainOf_45 : decode cX12_gainOf 45 = .ok (.lmul, 1) := by decide +kernel
theorem dX12_gainOf_46 : decode cX12_gainOf 46 = .ok (.iload_n 3, 1) := by decide +kernel
theorem dX12_gainOf_47 : decode cX12_gainOf 47 = .ok (.iload_n 2, 1) := by decide +kernel
theorem dX12_gainOf_48 : decode cX12_gainOf 48 = .ok (.imul, 1) := by decide +kernel
theorem dX12_gainOf_49 : decode cX12_gainOf 49 = .ok (.i2l, 1) := by decide +kernel
theorem dX12_gainOf_50 : decode cX12_gainOf 50 = .ok (.lload 4, 2) := by decide +kernel
theorem dX12_gainOf_52 : decode cX12_gainOf 52 = .ok (.lmul, 1) := by decide +kernel
theorem dX12_gainOf_53 : decode cX12_gainOf 53 = .ok (.lsub, 1) := by decide +kernel
theorem dX12_gainOf_54 : decode cX12_gainOf 54 = .ok (.lreturn, 1) := by decide +kernel
theorem dX12_lowest_0 : decode cX12_lowest 0 = .ok (.lload_n 0, 1) := by decide +kernel
theorem dX12_lowest_1 : decode cX12_lowest 1 = .ok (.lconst 0, 1) := by decide +kernel
theorem dX12_lowest_2 : decode cX12_lowest 2 = .ok (.lcmp, 1) := by decide +kernel
theorem dX12_lowest_3 : decode cX12_lowest 3 = .ok (.ifCond .ge 8, 3) := by decide +kernel
theorem dX12_lowest_6 : decode cX12_lowest 6 = .ok (.lload_n 0, 1) := by decide +kernel
theorem dX12_lowest_7 : decode cX12_lowest 7 = .ok (.lneg, 1) := by decide +kernel
theorem dX12_lowest_8 : decode cX12_lowest 8 = .ok (.goto 4, 3) := by decide +kernel
theorem dX12_lowest_11 : decode cX12_lowest 11 = .ok (.lload_n 0, 1) := by decide +kernel
theorem dX12_lowest_12 : decode cX12_lowest 12 = .ok (.lstore 5, 2) := by decide +kernel
theorem dX12_lowest_14 : decode cX12_lowest 14 = .ok (.lload_n 2, 1) := by decide +kernel
theorem dX12_lowest_15 : decode cX12_lowest 15 = .ok (.lstore 7, 2) := by decide +kernel
theorem dX12_lowest_17 : decode cX12_lowest 17 = .ok (.lload 7, 2) := by decide +kernel
theorem dX12_lowest_19 : decode cX12_lowest 19 = .ok (.lconst 0, 1) := by decide +kernel
theorem dX12_lowest_20 : decode cX12_lowest 20 = .ok (.lcmp, 1) := by decide +kernel
theorem dX12_lowest_21 : decode cX12_lowest 21 = .ok (.ifCond .eq 21, 3) := by decide +kernel
theorem dX12_lowest_24 : decode cX12_lowest 24 = .ok (.lload 5, 2) := by decide +kernel
theorem dX12_lowest_26 : decode cX12_lowest 26 = .ok (.lload 7, 2) := by decide +kernel
theorem dX12_lowest_28 : decode cX12_lowest 28 = .ok (.lrem, 1) := by decide +kernel
theorem dX12_lowest_29 : decode cX12_lowest 29 = .ok (.lstore 9, 2) := by decide +kernel
theorem dX12_lowest_31 : decode cX12_lowest 31 = .ok (.lload 7, 2) := by decide +kernel
theorem dX12_lowest_33 : decode cX12_lowest 33 = .ok (.lstore 5, 2) := by decide +kernel
theorem dX12_lowest_35 : decode cX12_lowest 35 = .ok (.lload 9, 2) := by decide +kernel
theorem dX12_lowest_37 : decode cX12_lowest 37 = .ok (.lstore 7, 2) := by decide +kernel
theorem dX12_lowest_39 : decode cX12_lowest 39 = .ok (.goto (-22), 3) := by decide +kernel
theorem dX12_lowest_42 : decode cX12_lowest 42 = .ok (.iload 4, 2) := by decide +kernel
theorem dX12_lowest_44 : decode cX12_lowest 44 = .ok (.ifCond .ne 10, 3) := by decide +kernel
theorem dX12_lowest_47 : decode cX12_lowest 47 = .ok (.lload_n 0, 1) := by decide +kernel
theorem dX12_lowest_48 : decode cX12_lowest 48 = .ok (.lload 5, 2) := by decide +kernel
theorem dX12_lowest_50 : decode cX12_lowest 50 = .ok (.ldiv, 1) := by decide +kernel
theorem dX12_lowest_51 : decode cX12_lowest 51 = .ok (.goto 7, 3) := by decide +kernel
theorem dX12_lowest_54 : decode cX12_lowest 54 = .ok (.lload_n 2, 1) := by decide +kernel
theorem dX12_lowest_55 : decode cX12_lowest 55 = .ok (.lload 5, 2) := by decide +kernel
theorem dX12_lowest_57 : decode cX12_lowest 57 = .ok (.ldiv, 1) := by decide +kernel
theorem dX12_lowest_58 : decode cX12_lowest 58 = .ok (.lreturn, 1) := by decide +kernel
theorem dX12_isPriced_0 : decode cX12_isPriced 0 = .ok (.aload_n 0, 1) := by decide +kernel
theorem dX12_isPriced_1 : decode cX12_isPriced 1 = .ok (.iload_n 1, 1) := by decide +kernel
theorem dX12_isPriced_2 : decode cX12_isPriced 2 = .ok (.invokevirtual 92, 3) := by decide +kernel
theorem dX12_isPriced_5 : decode cX12_isPriced 5 = .ok (.ifCond .eq 27, 3) := by decide +kernel
theorem dX12_isPriced_8 : decode cX12_isPriced 8 = .ok (.iload_n 2, 1) := by decide +kernel
theorem dX12_isPriced_9 : decode cX12_isPriced 9 = .ok (.iconst 0, 1) := by decide +kernel
theorem dX12_isPriced_10 : decode cX12_isPriced 10 = .ok (.sipush 9999, 3) := by decide +kernel
theorem dX12_isPriced_13 : decode cX12_isPriced 13 = .ok (.invokestatic 47, 3) := by decide +kernel
theorem dX12_isPriced_16 : decode cX12_isPriced 16 = .ok (.ifCond .eq 16, 3) := by decide +kernel
theorem dX12_isPriced_19 : decode cX12_isPriced 19 = .ok (.iload_n 3, 1) := by decide +kernel
theorem dX12_isPriced_20 : decode cX12_isPriced 20 = .ok (.iconst 0, 1) := by decide +kernel
theorem dX12_isPriced_21 : decode cX12_isPriced 21 = .ok (.iconst 1, 1) := by decide +kernel
theorem dX12_isPriced_22 : decode cX12_isPriced 22 = .ok (.invokestatic 47, 3) := by decide +kernel
theorem dX12_isPriced_25 : decode cX12_isPriced 25 = .ok (.ifCond .eq 7, 3) := by decide +kernel
theorem dX12_isPriced_28 : decode cX12_isPriced 28 = .ok (.iconst 1, 1) := by decide +kernel
theorem dX12_isPriced_29 : decode cX12_isPriced 29 = .ok (.goto 4, 3) := by decide +kernel
theorem dX12_isPriced_32 : decode cX12_isPriced 32 = .ok (.iconst 0, 1) := by decide +kernel
theorem dX12_isPriced_33 : decode cX12_isPriced 33 = .ok (.ireturn, 1) := by decide +kernel
theorem dX12_taken_0 : decode cX12_taken 0 = .ok (.aload_n 0, 1) := by decide +kernel
theorem dX12_taken_1 : decode cX12_taken 1 = .ok (.iload_n 1, 1) := by decide +kernel
theorem dX12_taken_2 : decode cX12_taken 2 = .ok (.iload_n 2, 1) := by decide +kernel
theorem dX12_taken_3 : decode cX12_taken 3 = .ok (.iload_n 3, 1) := by decide +kernel
theorem dX12_taken_4 : decode cX12_taken 4 = .ok (.invokevirtual 217, 3) := by decide +kernel
theorem dX12_taken_7 : decode cX12_taken 7 = .ok (.ifCond .ne 10, 3) := by decide +kernel
theorem dX12_taken_10 : decode cX12_taken 10 = .ok (.aload_n 0, 1) := by decide +kernel
theorem dX12_taken_11 : decode cX12_taken 11 = .ok (.iconst 1, 1) := by decide +kernel
theorem dX12_taken_12 : decode cX12_taken 12 = .ok (.invokevirtual 60, 3) := by decide +kernel
theorem dX12_taken_15 : decode cX12_taken 15 = .ok (.i2l, 1) := by decide +kernel
theorem dX12_taken_16 : decode cX12_taken 16 = .ok (.lreturn, 1) := by decide +kernel
theorem dX12_taken_17 : decode cX12_taken 17 = .ok (.aload_n 0, 1) := by decide +kernel
theorem dX12_taken_18 : decode cX12_taken 18 = .ok (.iload_n 1, 1) := by decide +kernel
theorem dX12_taken_19 : decode cX12_taken 19 = .ok (.invokevirtual 207, 3) := by decide +kernel
theorem dX12_taken_22 : decode cX12_taken 22 = .ok (.lstore 4, 2) := by decide +kernel
theorem dX12_taken_24 : decode cX12_taken 24 = .ok (.lload 4, 2) := by decide +kernel
theorem dX12_taken_26 : decode cX12_taken 26 = .ok (.aload_n 0, 1) := by decide +kernel
theorem dX12_taken_27 : decode cX12_taken 27 = .ok (.iload_n 1, 1) := by decide +kernel
theorem dX12_taken_28 : decode cX12_taken 28 = .ok (.iload_n 2, 1) := by decide +kernel
theorem dX12_taken_29 : decode cX12_taken 29 = .ok (.invokevirtual 211, 3) := by decide +kernel
theorem dX12_taken_32 : decode cX12_taken 32 = .ok (.lsub, 1) := by decide +kernel
theorem dX12_taken_33 : decode cX12_taken 33 = .ok (.lload 4, 2) := by decide +kernel
theorem dX12_taken_35 : decode cX12_taken 35 = .ok (.iload_n 3, 1) := by decide +kernel
theorem dX12_taken_36 : decode cX12_taken 36 = .ok (.invokestatic 220, 3) := by decide +kernel
theorem dX12_taken_39 : decode cX12_taken 39 = .ok (.lreturn, 1) := by decide +kernel
theorem dX12_gain_0 : decode cX12_gain 0 = .ok (.aload_n 0, 1) := by decide +kernel
theorem dX12_gain_1 : decode cX12_gain 1 = .ok (.iload_n 1, 1) := by decide +kernel
theorem dX12_gain_2 : decode cX12_gain 2 = .ok (.iload_n 2, 1) := by decide +kernel
theorem dX12_gain_3 : decode cX12_gain 3 = .ok (.iload_n 3, 1) := by decide +kernel
theorem dX12_gain_4 : decode cX12_gain 4 = .ok (.invokevirtual 217, 3) := by decide +kernel
theorem dX12_gain_7 : decode cX12_gain 7 = .ok (.ifCond .ne 10, 3) := by decide +kernel
theorem dX12_gain_10 : decode cX12_gain 10 = .ok (.aload_n 0, 1) := by decide +kernel
theorem dX12_gain_11 : decode cX12_gain 11 = .ok (.iconst 1, 1) := by decide +kernel
theorem dX12_gain_12 : decode cX12_gain 12 = .ok (.invokevirtual 60, 3) := by decide +kernel
theorem dX12_gain_15 : decode cX12_gain 15 = .ok (.i2l, 1) := by decide +kernel
theorem dX12_gain_16 : decode cX12_gain 16 = .ok (.lreturn, 1) := by decide +kernel
theorem dX12_gain_17 : decode cX12_gain 17 = .ok (.aload_n 0, 1) := by decide +kernel
theorem dX12_gain_18 : decode cX12_gain 18 = .ok (.iload_n 1, 1) := by decide +kernel
theorem dX12_gain_19 : decode cX12_gain 19 = .ok (.iload_n 2, 1) := by decide +kernel
theorem dX12_gain_20 : decode cX12_gain 20 = .ok (.aload_n 0, 1) := by decide +kernel
theorem dX12_gain_21 : decode cX12_gain 21 = .ok (.getfield 7, 3) := by decide +kernel
theorem dX12_gain_24 : decode cX12_gain 24 = .ok (.bipush 10, 2) := by decide +kernel
theorem dX12_gain_26 : decode cX12_gain 26 = .ok (.iaload, 1) := by decide +kernel
theorem dX12_gain_27 : decode cX12_gain 27 = .ok (.invokevirtual 224, 3) := by decide +kernel
theorem dX12_gain_30 : decode cX12_gain 30 = .ok (.ldc2_w 215, 3) := by decide +kernel
theorem dX12_gain_33 : decode cX12_gain 33 = .ok (.aload_n 0, 1) := by decide +kernel
theorem dX12_gain_34 : decode cX12_gain 34 = .ok (.iload_n 1, 1) := by decide +kernel
theorem dX12_gain_35 : decode cX12_gain 35 = .ok (.invokevirtual 207, 3) := by decide +kernel
theorem dX12_gain_38 : decode cX12_gain 38 = .ok (.lmul, 1) := by decide +kernel
theorem dX12_gain_39 : decode cX12_gain 39 = .ok (.iload_n 3, 1) := by decide +kernel
theorem dX12_gain_40 : decode cX12_gain 40 = .ok (.invokestatic 220, 3) := by decide +kernel
theorem dX12_gain_43 : decode cX12_gain 43 = .ok (.lreturn, 1) := by decide +kernel
theorem dX12_better_0 : decode cX12_better 0 = .ok (.iload_n 3, 1) := by decide +kernel
theorem dX12_better_1 : decode cX12_better 1 = .ok (.iconst 0, 1) := by decide +kernel
theorem dX12_better_2 : decode cX12_better 2 = .ok (.sipush 9999, 3) := by decide +kernel
theorem dX12_better_5 : decode cX12_better 5 = .ok (.invokestatic 47, 3) := by decide +kernel
theorem dX12_better_8 : decode cX12_better 8 = .ok (.ifCond .ne 5, 3) := by decide +kernel
theorem dX12_better_11 : decode cX12_better 11 = .ok (.iload_n 2, 1) := by decide +kernel
theorem dX12_better_12 : decode cX12_better 12 = .ok (.ireturn, 1) := by decide +kernel
theorem dX12_better_13 : decode cX12_better 13 = .ok (.aload_n 0, 1) := by decide +kernel
theorem dX12_better_14 : decode cX12_better 14 = .ok (.iload_n 1, 1) := by decide +kernel
theorem dX12_better_15 : decode cX12_better 15 = .ok (.iload_n 3, 1) := by decide +kernel
theorem dX12_better_16 : decode cX12_better 16 = .ok (.iload 4, 2) := by decide +kernel
theorem dX12_better_18 : decode cX12_better 18 = .ok (.invokevirtual 224, 3) := by decide +kernel
theorem dX12_better_21 : decode cX12_better 21 = .ok (.lstore 5, 2) := by decide +kernel
theorem dX12_better_23 : decode cX12_better 23 = .ok (.aload_n 0, 1) := by decide +kernel
theorem dX12_better_24 : decode cX12_better 24 = .ok (.iload_n 1, 1) := by decide +kernel
theorem dX12_better_25 : decode cX12_better 25 = .ok (.iload_n 2, 1) := by decide +kernel
theorem dX12_better_26 : decode cX12_better 26 = .ok (.iload 4, 2) := by decide +kernel
theorem dX12_better_28 : decode cX12_better 28 = .ok (.invokevirtual 224, 3) := by decide +kernel
theorem dX12_better_31 : decode cX12_better 31 = .ok (.lstore 7, 2) := by decide +kernel
theorem dX12_better_33 : decode cX12_better 33 = .ok (.lload 5, 2) := by decide +kernel
theorem dX12_better_35 : decode cX12_better 35 = .ok (.lload 7, 2) := by decide +kernel
theorem dX12_better_37 : decode cX12_better 37 = .ok (.lcmp, 1) := by decide +kernel
theorem dX12_better_38 : decode cX12_better 38 = .ok (.ifCond .gt 16, 3) := by decide +kernel
theorem dX12_better_41 : decode cX12_better 41 = .ok (.lload 5, 2) := by decide +kernel
theorem dX12_better_43 : decode cX12_better 43 = .ok (.lload 7, 2) := by decide +kernel
theorem dX12_better_45 : decode cX12_better 45 = .ok (.lcmp, 1) := by decide +kernel
theorem dX12_better_46 : decode cX12_better 46 = .ok (.ifCond .ne 12, 3) := by decide +kernel
theorem dX12_better_49 : decode cX12_better 49 = .ok (.iload_n 3, 1) := by decide +kernel
theorem dX12_better_50 : decode cX12_better 50 = .ok (.iload_n 2, 1) := by decide +kernel
theorem dX12_better_51 : decode cX12_better 51 = .ok (.if_icmp .ge 7, 3) := by decide +kernel
theorem dX12_better_54 : decode cX12_better 54 = .ok (.iload_n 3, 1) := by decide +kernel
theorem dX12_better_55 : decode cX12_better 55 = .ok (.goto 4, 3) := by decide +kernel
theorem dX12_better_58 : decode cX12_better 58 = .ok (.iload_n 2, 1) := by decide +kernel
theorem dX12_better_59 : decode cX12_better 59 = .ok (.ireturn, 1) := by decide +kernel
theorem dX12_bestWith_0 : decode cX12_bestWith 0 = .ok (.aload_n 0, 1) := by decide +kernel
theorem dX12_bestWith_1 : decode cX12_bestWith 1 = .ok (.iload_n 1, 1) := by decide +kernel
theorem dX12_bestWith_2 : decode cX12_bestWith 2 = .ok (.iconst 0, 1) := by decide +kernel
theorem dX12_bestWith_3 : decode cX12_bestWith 3 = .ok (.sipush 9999, 3) := by decide +kernel
theorem dX12_bestWith_6 : decode cX12_bestWith 6 = .ok (.iload_n 2, 1) := by decide +kernel
theorem dX12_bestWith_7 : decode cX12_bestWith 7 = .ok (.invokevirtual 228, 3) := by decide +kernel
theorem dX12_bestWith_10 : decode cX12_bestWith 10 = .ok (.istore_n 3, 1) := by decide +kernel
theorem dX12_bestWith_11 : decode cX12_bestWith 11 = .ok (.iconst 0, 1) := by decide +kernel
theorem dX12_bestWith_12 : decode cX12_bestWith 12 = .ok (.istore 4, 2) := by decide +kernel
theorem dX12_bestWith_14 : decode cX12_bestWith 14 = .ok (.iload 4, 2) := by decide +kernel
theorem dX12_bestWith_16 : decode cX12_bestWith 16 = .ok (.aload_n 0, 1) := by decide +kernel
theorem dX12_bestWith_17 : decode cX12_bestWith 17 = .ok (.getfield 7, 3) := by decide +kernel
theorem dX12_bestWith_20 : decode cX12_bestWith 20 = .ok (.iconst 0, 1) := by decide +kernel
theorem dX12_bestWith_21 : decode cX12_bestWith 21 = .ok (.iaload, 1) := by decide +kernel
theorem dX12_bestWith_22 : decode cX12_bestWith 22 = .ok (.if_icmp .ge 51, 3) := by decide +kernel
theorem dX12_bestWith_25 : decode cX12_bestWith 25 = .ok (.iload 4, 2) := by decide +kernel
theorem dX12_bestWith_27 : decode cX12_bestWith 27 = .ok (.aload_n 0, 1) := by decide +kernel
theorem dX12_bestWith_28 : decode cX12_bestWith 28 = .ok (.iload_n 1, 1) := by decide +kernel
theorem dX12_bestWith_29 : decode cX12_bestWith 29 = .ok (.invokevirtual 67, 3) := by decide +kernel
theorem dX12_bestWith_32 : decode cX12_bestWith 32 = .ok (.if_icmp .eq 35, 3) := by decide +kernel
theorem dX12_bestWith_35 : decode cX12_bestWith 35 = .ok (.aload_n 0, 1) := by decide +kernel
theorem dX12_bestWith_36 : decode cX12_bestWith 36 = .ok (.iload_n 1, 1) := by decide +kernel
theorem dX12_bestWith_37 : decode cX12_bestWith 37 = .ok (.iload_n 3, 1) := by decide +kernel
theorem dX12_bestWith_38 : decode cX12_bestWith 38 = .ok (.aload_n 0, 1) := by decide +kernel
theorem dX12_bestWith_39 : decode cX12_bestWith 39 = .ok (.iload 4, 2) := by decide +kernel
theorem dX12_bestWith_41 : decode cX12_bestWith 41 = .ok (.iload_n 1, 1) := by decide +kernel
theorem dX12_bestWith_42 : decode cX12_bestWith 42 = .ok (.invokevirtual 73, 3) := by decide +kernel
theorem dX12_bestWith_45 : decode cX12_bestWith 45 = .ok (.iload_n 2, 1) := by decide +kernel
theorem dX12_bestWith_46 : decode cX12_bestWith 46 = .ok (.invokevirtual 228, 3) := by decide +kernel
theorem dX12_bestWith_49 : decode cX12_bestWith 49 = .ok (.istore_n 3, 1) := by decide +kernel
theorem dX12_bestWith_50 : decode cX12_bestWith 50 = .ok (.aload_n 0, 1) := by decide +kernel
theorem dX12_bestWith_51 : decode cX12_bestWith 51 = .ok (.iload_n 1, 1) := by decide +kernel
theorem dX12_bestWith_52 : decode cX12_bestWith 52 = .ok (.iload_n 3, 1) := by decide +kernel
theorem dX12_bestWith_53 : decode cX12_bestWith 53 = .ok (.aload_n 0, 1) := by decide +kernel
theorem dX12_bestWith_54 : decode cX12_bestWith 54 = .ok (.iload 4, 2) := by decide +kernel
theorem dX12_bestWith_56 : decode cX12_bestWith 56 = .ok (.iload_n 1, 1) := by decide +kernel
theorem dX12_bestWith_57 : decode cX12_bestWith 57 = .ok (.invokevirtual 73, 3) := by decide +kernel
theorem dX12_bestWith_60 : decode cX12_bestWith 60 = .ok (.iconst 1, 1) := by decide +kernel
theorem dX12_bestWith_61 : decode cX12_bestWith 61 = .ok (.isub, 1) := by decide +kernel
theorem dX12_bestWith_62 : decode cX12_bestWith 62 = .ok (.iload_n 2, 1) := by decide +kernel
theorem dX12_bestWith_63 : decode cX12_bestWith 63 = .ok (.invokevirtual 228, 3) := by decide +kernel
theorem dX12_bestWith_66 : decode cX12_bestWith 66 = .ok (.istore_n 3, 1) := by decide +kernel
theorem dX12_bestWith_67 : decode cX12_bestWith 67 = .ok (.iinc 4 1, 3) := by decide +kernel
theorem dX12_bestWith_70 : decode cX12_bestWith 70 = .ok (.goto (-56), 3) := by decide +kernel
theorem dX12_bestWith_73 : decode cX12_bestWith 73 = .ok (.iload_n 3, 1) := by decide +kernel
theorem dX12_bestWith_74 : decode cX12_bestWith 74 = .ok (.ireturn, 1) := by decide +kernel
theorem dX12_bestOf_0 : decode cX12_bestOf 0 = .ok (.aload_n 0, 1) := by decide +kernel
theorem dX12_bestOf_1 : decode cX12_bestOf 1 = .ok (.iload_n 1, 1) := by decide +kernel
theorem dX12_bestOf_2 : decode cX12_bestOf 2 = .ok (.aload_n 0, 1) := by decide +kernel
theorem dX12_bestOf_3 : decode cX12_bestOf 3 = .ok (.getfield 7, 3) := by decide +kernel
theorem dX12_bestOf_6 : decode cX12_bestOf 6 = .ok (.bipush 10, 2) := by decide +kernel
theorem dX12_bestOf_8 : decode cX12_bestOf 8 = .ok (.iaload, 1) := by decide +kernel
theorem dX12_bestOf_9 : decode cX12_bestOf 9 = .ok (.invokevirtual 232, 3) := by decide +kernel
theorem dX12_bestOf_12 : decode cX12_bestOf 12 = .ok (.ireturn, 1) := by decide +kernel
theorem dX12_best_0 : decode cX12_best 0 = .ok (.aload_n 0, 1) := by decide +kernel
theorem dX12_best_1 : decode cX12_best 1 = .ok (.iload_n 1, 1) := by decide +kernel
theorem dX12_best_2 : decode cX12_best 2 = .ok (.invokevirtual 92, 3) := by decide +kernel
theorem dX12_best_5 : decode cX12_best 5 = .ok (.ifCond .eq 11, 3) := by decide +kernel
theorem dX12_best_8 : decode cX12_best 8 = .ok (.aload_n 0, 1) := by decide +kernel
theorem dX12_best_9 : decode cX12_best 9 = .ok (.iload_n 1, 1) := by decide +kernel
theorem dX12_best_10 : decode cX12_best 10 = .ok (.invokevirtual 165, 3) := by decide +kernel
theorem dX12_best_13 : decode cX12_best 13 = .ok (.goto 8, 3) := by decide +kernel
theorem dX12_best_16 : decode cX12_best 16 = .ok (.aload_n 0, 1) := by decide +kernel
theorem dX12_best_17 : decode cX12_best 17 = .ok (.iconst 1, 1) := by decide +kernel
theorem dX12_best_18 : decode cX12_best 18 = .ok (.invokevirtual 60, 3) := by decide +kernel
theorem dX12_best_21 : decode cX12_best 21 = .ok (.ireturn, 1) := by decide +kernel
theorem dX12_right_0 : decode cX12_right 0 = .ok (.aload_n 0, 1) := by decide +kernel
theorem dX12_right_1 : decode cX12_right 1 = .ok (.iload_n 1, 1) := by decide +kernel
theorem dX12_right_2 : decode cX12_right 2 = .ok (.invokevirtual 92, 3) := by decide +kernel
theorem dX12_right_5 : decode cX12_right 5 = .ok (.ifCond .ne 9, 3) := by decide +kernel
theorem dX12_right_8 : decode cX12_right 8 = .ok (.aload_n 0, 1) := by decide +kernel
theorem dX12_right_9 : decode cX12_right 9 = .ok (.iconst 1, 1) := by decide +kernel
theorem dX12_right_10 : decode cX12_right 10 = .ok (.invokevirtual 60, 3) := by decide +kernel
theorem dX12_right_13 : decode cX12_right 13 = .ok (.ireturn, 1) := by decide +kernel
theorem dX12_right_14 : decode cX12_right 14 = .ok (.iconst 0, 1) := by decide +kernel
theorem dX12_right_15 : decode cX12_right 15 = .ok (.istore_n 2, 1) := by decide +kernel
theorem dX12_right_16 : decode cX12_right 16 = .ok (.iload_n 2, 1) := by decide +kernel
theorem dX12_right_17 : decode cX12_right 17 = .ok (.bipush 99, 2) := by decide +kernel
theorem dX12_right_19 : decode cX12_right 19 = .ok (.if_icmp .gt 30, 3) := by decide +kernel
theorem dX12_right_22 : decode cX12_right 22 = .ok (.aload_n 0, 1) := by decide +kernel
theorem dX12_right_23 : decode cX12_right 23 = .ok (.iload_n 1, 1) := by decide +kernel
theorem dX12_right_24 : decode cX12_right 24 = .ok (.iload_n 2, 1) := by decide +kernel
theorem dX12_right_25 : decode cX12_right 25 = .ok (.invokevirtual 232, 3) := by decide +kernel
theorem dX12_right_28 : decode cX12_right 28 = .ok (.aload_n 0, 1) := by decide +kernel
theorem dX12_right_29 : decode cX12_right 29 = .ok (.aload_n 0, 1) := by decide +kernel
theorem dX12_right_30 : decode cX12_right 30 = .ok (.iload_n 1, 1) := by decide +kernel
theorem dX12_right_31 : decode cX12_right 31 = .ok (.invokevirtual 67, 3) := by decide +kernel
theorem dX12_right_34 : decode cX12_right 34 = .ok (.iload_n 1, 1) := by decide +kernel
theorem dX12_right_35 : decode cX12_right 35 = .ok (.invokevirtual 73, 3) := by decide +kernel
theorem dX12_right_38 : decode cX12_right 38 = .ok (.if_icmp .ne 5, 3) := by decide +kernel
theorem dX12_right_41 : decode cX12_right 41 = .ok (.iload_n 2, 1) := by decide +kernel
theorem dX12_right_42 : decode cX12_right 42 = .ok (.ireturn, 1) := by decide +kernel
theorem dX12_right_43 : decode cX12_right 43 = .ok (.iinc 2 1, 3) := by decide +kernel
theorem dX12_right_46 : decode cX12_right 46 = .ok (.goto (-30), 3) := by decide +kernel
theorem dX12_right_49 : decode cX12_right 49 = .ok (.aload_n 0, 1) := by decide +kernel
theorem dX12_right_50 : decode cX12_right 50 = .ok (.iconst 2, 1) := by decide +kernel
theorem dX12_right_51 : decode cX12_right 51 = .ok (.invokevirtual 60, 3) := by decide +kernel
theorem dX12_right_54 : decode cX12_right 54 = .ok (.ireturn, 1) := by decide +kernel
theorem dX12_sumOf_0 : decode cX12_sumOf 0 = .ok (.iconst 0, 1) := by decide +kernel
theorem dX12_sumOf_1 : decode cX12_sumOf 1 = .ok (.istore_n 2, 1) := by decide +kernel
theorem dX12_sumOf_2 : decode cX12_sumOf 2 = .ok (.iconst 0, 1) := by decide +kernel
theorem dX12_sumOf_3 : decode cX12_sumOf 3 = .ok (.istore_n 3, 1) := by decide +kernel
theorem dX12_sumOf_4 : decode cX12_sumOf 4 = .ok (.iload_n 3, 1) := by decide +kernel
theorem dX12_sumOf_5 : decode cX12_sumOf 5 = .ok (.aload_n 0, 1) := by decide +kernel
theorem dX12_sumOf_6 : decode cX12_sumOf 6 = .ok (.getfield 7, 3) := by decide +kernel
theorem dX12_sumOf_9 : decode cX12_sumOf 9 = .ok (.iconst 1, 1) := by decide +kernel
theorem dX12_sumOf_10 : decode cX12_sumOf 10 = .ok (.iaload, 1) := by decide +kernel
theorem dX12_sumOf_11 : decode cX12_sumOf 11 = .ok (.if_icmp .ge 67, 3) := by decide +kernel
theorem dX12_sumOf_14 : decode cX12_sumOf 14 = .ok (.iload_n 2, 1) := by decide +kernel
theorem dX12_sumOf_15 : decode cX12_sumOf 15 = .ok (.iload_n 1, 1) := by decide +kernel
theorem dX12_sumOf_16 : decode cX12_sumOf 16 = .ok (.ifCond .ne 16, 3) := by decide +kernel
theorem dX12_sumOf_19 : decode cX12_sumOf 19 = .ok (.aload_n 0, 1) := by decide +kernel
theorem dX12_sumOf_20 : decode cX12_sumOf 20 = .ok (.aload_n 0, 1) := by decide +kernel
theorem dX12_sumOf_21 : decode cX12_sumOf 21 = .ok (.iload_n 3, 1) := by decide +kernel
theorem dX12_sumOf_22 : decode cX12_sumOf 22 = .ok (.invokevirtual 67, 3) := by decide +kernel
theorem dX12_sumOf_25 : decode cX12_sumOf 25 = .ok (.iload_n 3, 1) := by decide +kernel
theorem dX12_sumOf_26 : decode cX12_sumOf 26 = .ok (.invokevirtual 73, 3) := by decide +kernel
theorem dX12_sumOf_29 : decode cX12_sumOf 29 = .ok (.goto 41, 3) := by decide +kernel
theorem dX12_sumOf_32 : decode cX12_sumOf 32 = .ok (.iload_n 1, 1) := by decide +kernel
theorem dX12_sumOf_33 : decode cX12_sumOf 33 = .ok (.iconst 1, 1) := by decide +kernel
theorem dX12_sumOf_34 : decode cX12_sumOf 34 = .ok (.if_icmp .ne 16, 3) := by decide +kernel
theorem dX12_sumOf_37 : decode cX12_sumOf 37 = .ok (.aload_n 0, 1) := by decide +kernel
theorem dX12_sumOf_38 : decode cX12_sumOf 38 = .ok (.aload_n 0, 1) := by decide +kernel
theorem dX12_sumOf_39 : decode cX12_sumOf 39 = .ok (.iload_n 3, 1) := by decide +kernel
theorem dX12_sumOf_40 : decode cX12_sumOf 40 = .ok (.invokevirtual 95, 3) := by decide +kernel
theorem dX12_sumOf_43 : decode cX12_sumOf 43 = .ok (.iload_n 3, 1) := by decide +kernel
theorem dX12_sumOf_44 : decode cX12_sumOf 44 = .ok (.invokevirtual 73, 3) := by decide +kernel
theorem dX12_sumOf_47 : decode cX12_sumOf 47 = .ok (.goto 23, 3) := by decide +kernel
theorem dX12_sumOf_50 : decode cX12_sumOf 50 = .ok (.iload_n 1, 1) := by decide +kernel
theorem dX12_sumOf_51 : decode cX12_sumOf 51 = .ok (.iconst 5, 1) := by decide +kernel
theorem dX12_sumOf_52 : decode cX12_sumOf 52 = .ok (.if_icmp .ne 12, 3) := by decide +kernel
theorem dX12_sumOf_55 : decode cX12_sumOf 55 = .ok (.aload_n 0, 1) := by decide +kernel
theorem dX12_sumOf_56 : decode cX12_sumOf 56 = .ok (.iload_n 3, 1) := by decide +kernel
theorem dX12_sumOf_57 : decode cX12_sumOf 57 = .ok (.iconst 2, 1) := by decide +kernel
theorem dX12_sumOf_58 : decode cX12_sumOf 58 = .ok (.invokevirtual 51, 3) := by decide +kernel
theorem dX12_sumOf_61 : decode cX12_sumOf 61 = .ok (.goto 9, 3) := by decide +kernel
theorem dX12_sumOf_64 : decode cX12_sumOf 64 = .ok (.aload_n 0, 1) := by decide +kernel
theorem dX12_sumOf_65 : decode cX12_sumOf 65 = .ok (.iload_n 3, 1) := by decide +kernel
theorem dX12_sumOf_66 : decode cX12_sumOf 66 = .ok (.iconst 1, 1) := by decide +kernel
theorem dX12_sumOf_67 : decode cX12_sumOf 67 = .ok (.invokevirtual 51, 3) := by decide +kernel
theorem dX12_sumOf_70 : decode cX12_sumOf 70 = .ok (.iadd, 1) := by decide +kernel
theorem dX12_sumOf_71 : decode cX12_sumOf 71 = .ok (.istore_n 2, 1) := by decide +kernel
theorem dX12_sumOf_72 : decode cX12_sumOf 72 = .ok (.iinc 3 1, 3) := by decide +kernel
theorem dX12_sumOf_75 : decode cX12_sumOf 75 = .ok (.goto (-71), 3) := by decide +kernel
theorem dX12_sumOf_78 : decode cX12_sumOf 78 = .ok (.iconst 0, 1) := by decide +kernel
theorem dX12_sumOf_79 : decode cX12_sumOf 79 = .ok (.istore_n 3, 1) := by decide +kernel
theorem dX12_sumOf_80 : decode cX12_sumOf 80 = .ok (.iload_n 3, 1) := by decide +kernel
theorem dX12_sumOf_81 : decode cX12_sumOf 81 = .ok (.aload_n 0, 1) := by decide +kernel
theorem dX12_sumOf_82 : decode cX12_sumOf 82 = .ok (.getfield 7, 3) := by decide +kernel
theorem dX12_sumOf_85 : decode cX12_sumOf 85 = .ok (.iconst 2, 1) := by decide +kernel
theorem dX12_sumOf_86 : decode cX12_sumOf 86 = .ok (.iaload, 1) := by decide +kernel
theorem dX12_sumOf_87 : decode cX12_sumOf 87 = .ok (.if_icmp .ge 34, 3) := by decide +kernel
theorem dX12_sumOf_90 : decode cX12_sumOf 90 = .ok (.iload_n 1, 1) := by decide +kernel
theorem dX12_sumOf_91 : decode cX12_sumOf 91 = .ok (.ifCond .ne 30, 3) := by decide +kernel
theorem dX12_sumOf_94 : decode cX12_sumOf 94 = .ok (.iload_n 2, 1) := by decide +kernel
theorem dX12_sumOf_95 : decode cX12_sumOf 95 = .ok (.aload_n 0, 1) := by decide +kernel
theorem dX12_sumOf_96 : decode cX12_sumOf 96 = .ok (.iload_n 3, 1) := by decide +kernel
theorem dX12_sumOf_97 : decode cX12_sumOf 97 = .ok (.invokevirtual 98, 3) := by decide +kernel
theorem dX12_sumOf_100 : decode cX12_sumOf 100 = .ok (.ifCond .ge 7, 3) := by decide +kernel
theorem dX12_sumOf_103 : decode cX12_sumOf 103 = .ok (.iconst 0, 1) := by decide +kernel
theorem dX12_sumOf_104 : decode cX12_sumOf 104 = .ok (.goto 9, 3) := by decide +kernel
theorem dX12_sumOf_107 : decode cX12_sumOf 107 = .ok (.aload_n 0, 1) := by decide +kernel
theorem dX12_sumOf_108 : decode cX12_sumOf 108 = .ok (.iload_n 3, 1) := by decide +kernel
theorem dX12_sumOf_109 : decode cX12_sumOf 109 = .ok (.iconst 2, 1) := by decide +kernel
theorem dX12_sumOf_110 : decode cX12_sumOf 110 = .ok (.invokevirtual 64, 3) := by decide +kernel
theorem dX12_sumOf_113 : decode cX12_sumOf 113 = .ok (.iadd, 1) := by decide +kernel
theorem dX12_sumOf_114 : decode cX12_sumOf 114 = .ok (.istore_n 2, 1) := by decide +kernel
theorem dX12_sumOf_115 : decode cX12_sumOf 115 = .ok (.iinc 3 1, 3) := by decide +kernel
theorem dX12_sumOf_118 : decode cX12_sumOf 118 = .ok (.goto (-38), 3) := by decide +kernel
theorem dX12_sumOf_121 : decode cX12_sumOf 121 = .ok (.iload_n 2, 1) := by decide +kernel
theorem dX12_sumOf_122 : decode cX12_sumOf 122 = .ok (.ireturn, 1) := by decide +kernel
theorem dX12_townOf_0 : decode cX12_townOf 0 = .ok (.iload_n 1, 1) := by decide +kernel
theorem dX12_townOf_1 : decode cX12_townOf 1 = .ok (.iconst 3, 1) := by decide +kernel
theorem dX12_townOf_2 : decode cX12_townOf 2 = .ok (.if_icmp .eq 8, 3) := by decide +kernel
theorem dX12_townOf_5 : decode cX12_townOf 5 = .ok (.iload_n 1, 1) := by decide +kernel
theorem dX12_townOf_6 : decode cX12_townOf 6 = .ok (.iconst 4, 1) := by decide +kernel
theorem dX12_townOf_7 : decode cX12_townOf 7 = .ok (.if_icmp .ne 19, 3) := by decide +kernel
theorem dX12_townOf_10 : decode cX12_townOf 10 = .ok (.aload_n 0, 1) := by decide +kernel
theorem dX12_townOf_11 : decode cX12_townOf 11 = .ok (.getfield 7, 3) := by decide +kernel
theorem dX12_townOf_14 : decode cX12_townOf 14 = .ok (.iload_n 1, 1) := by decide +kernel
theorem dX12_townOf_15 : decode cX12_townOf 15 = .ok (.iconst 3, 1) := by decide +kernel
theorem dX12_townOf_16 : decode cX12_townOf 16 = .ok (.if_icmp .ne 7, 3) := by decide +kernel
theorem dX12_townOf_19 : decode cX12_townOf 19 = .ok (.iconst 5, 1) := by decide +kernel
theorem dX12_townOf_20 : decode cX12_townOf 20 = .ok (.goto 4, 3) := by decide +kernel
theorem dX12_townOf_23 : decode cX12_townOf 23 = .ok (.iconst 4, 1) := by decide +kernel
theorem dX12_townOf_24 : decode cX12_townOf 24 = .ok (.iaload, 1) := by decide +kernel
theorem dX12_townOf_25 : decode cX12_townOf 25 = .ok (.ireturn, 1) := by decide +kernel
theorem dX12_townOf_26 : decode cX12_townOf 26 = .ok (.iload_n 1, 1) := by decide +kernel
theorem dX12_townOf_27 : decode cX12_townOf 27 = .ok (.iconst 2, 1) := by decide +kernel
theorem dX12_townOf_28 : decode cX12_townOf 28 = .ok (.if_icmp .eq 9, 3) := by decide +kernel
theorem dX12_townOf_31 : decode cX12_townOf 31 = .ok (.aload_n 0, 1) := by decide +kernel
theorem dX12_townOf_32 : decode cX12_townOf 32 = .ok (.iload_n 1, 1) := by decide +kernel
theorem dX12_townOf_33 : decode cX12_townOf 33 = .ok (.invokevirtual 235, 3) := by decide +kernel
theorem dX12_townOf_36 : decode cX12_townOf 36 = .ok (.ireturn, 1) := by decide +kernel
theorem dX12_townOf_37 : decode cX12_townOf 37 = .ok (.iconst 0, 1) := by decide +kernel
theorem dX12_townOf_38 : decode cX12_townOf 38 = .ok (.istore_n 2, 1) := by decide +kernel
theorem dX12_townOf_39 : decode cX12_townOf 39 = .ok (.iconst 0, 1) := by decide +kernel
theorem dX12_townOf_40 : decode cX12_townOf 40 = .ok (.istore_n 3, 1) := by decide +kernel
theorem dX12_townOf_41 : decode cX12_townOf 41 = .ok (.iload_n 3, 1) := by decide +kernel
theorem dX12_townOf_42 : decode cX12_townOf 42 = .ok (.aload_n 0, 1) := by decide +kernel
theorem dX12_townOf_43 : decode cX12_townOf 43 = .ok (.getfield 7, 3) := by decide +kernel
theorem dX12_townOf_46 : decode cX12_townOf 46 = .ok (.iconst 0, 1) := by decide +kernel
theorem dX12_townOf_47 : decode cX12_townOf 47 = .ok (.iaload, 1) := by decide +kernel
theorem dX12_townOf_48 : decode cX12_townOf 48 = .ok (.if_icmp .ge 18, 3) := by decide +kernel
theorem dX12_townOf_51 : decode cX12_townOf 51 = .ok (.iload_n 2, 1) := by decide +kernel
theorem dX12_townOf_52 : decode cX12_townOf 52 = .ok (.aload_n 0, 1) := by decide +kernel
theorem dX12_townOf_53 : decode cX12_townOf 53 = .ok (.iload_n 3, 1) := by decide +kernel
theorem dX12_townOf_54 : decode cX12_townOf 54 = .ok (.iconst 1, 1) := by decide +kernel
theorem dX12_townOf_55 : decode cX12_townOf 55 = .ok (.invokevirtual 79, 3) := by decide +kernel
theorem dX12_townOf_58 : decode cX12_townOf 58 = .ok (.iadd, 1) := by decide +kernel
theorem dX12_townOf_59 : decode cX12_townOf 59 = .ok (.istore_n 2, 1) := by decide +kernel
theorem dX12_townOf_60 : decode cX12_townOf 60 = .ok (.iinc 3 1, 3) := by decide +kernel
theorem dX12_townOf_63 : decode cX12_townOf 63 = .ok (.goto (-22), 3) := by decide +kernel
theorem dX12_townOf_66 : decode cX12_townOf 66 = .ok (.iload_n 2, 1) := by decide +kernel
theorem dX12_townOf_67 : decode cX12_townOf 67 = .ok (.ireturn, 1) := by decide +kernel
theorem dX12_town_0 : decode cX12_town 0 = .ok (.iload_n 1, 1) := by decide +kernel
theorem dX12_town_1 : decode cX12_town 1 = .ok (.iconst 0, 1) := by decide +kernel
theorem dX12_town_2 : decode cX12_town 2 = .ok (.bipush 6, 2) := by decide +kernel
theorem dX12_town_4 : decode cX12_town 4 = .ok (.invokestatic 47, 3) := by decide +kernel
theorem dX12_town_7 : decode cX12_town 7 = .ok (.ifCond .eq 11, 3) := by decide +kernel
theorem dX12_town_10 : decode cX12_town 10 = .ok (.aload_n 0, 1) := by decide +kernel
theorem dX12_town_11 : decode cX12_town 11 = .ok (.iload_n 1, 1) := by decide +kernel
theorem dX12_town_12 : decode cX12_town 12 = .ok (.invokevirtual 238, 3) := by decide +kernel
theorem dX12_town_15 : decode cX12_town 15 = .ok (.goto 8, 3) := by decide +kernel
theorem dX12_town_18 : decode cX12_town 18 = .ok (.aload_n 0, 1) := by decide +kernel
theorem dX12_town_19 : decode cX12_town 19 = .ok (.iconst 1, 1) := by decide +kernel
theorem dX12_town_20 : decode cX12_town 20 = .ok (.invokevirtual 60, 3) := by decide +kernel
theorem dX12_town_23 : decode cX12_town 23 = .ok (.ireturn, 1) := by decide +kernel
theorem dX12_firm_0 : decode cX12_firm 0 = .ok (.aload_n 0, 1) := by decide +kernel
theorem dX12_firm_1 : decode cX12_firm 1 = .ok (.iload_n 1, 1) := by decide +kernel
theorem dX12_firm_2 : decode cX12_firm 2 = .ok (.invokevirtual 76, 3) := by decide +kernel
theorem dX12_firm_5 : decode cX12_firm 5 = .ok (.ifCond .eq 12, 3) := by decide +kernel
theorem dX12_firm_8 : decode cX12_firm 8 = .ok (.iload_n 2, 1) := by decide +kernel
theorem dX12_firm_9 : decode cX12_firm 9 = .ok (.iconst 0, 1) := by decide +kernel
theorem dX12_firm_10 : decode cX12_firm 10 = .ok (.iconst 2, 1) := by decide +kernel
theorem dX12_firm_11 : decode cX12_firm 11 = .ok (.invokestatic 47, 3) := by decide +kernel
theorem dX12_firm_14 : decode cX12_firm 14 = .ok (.ifCond .ne 9, 3) := by decide +kernel
theorem dX12_firm_17 : decode cX12_firm 17 = .ok (.aload_n 0, 1) := by decide +kernel
theorem dX12_firm_18 : decode cX12_firm 18 = .ok (.iconst 1, 1) := by decide +kernel
theorem dX12_firm_19 : decode cX12_firm 19 = .ok (.invokevirtual 60, 3) := by decide +kernel
theorem dX12_firm_22 : decode cX12_firm 22 = .ok (.ireturn, 1) := by decide +kernel
theorem dX12_firm_23 : decode cX12_firm 23 = .ok (.aload_n 0, 1) := by decide +kernel
theorem dX12_firm_24 : decode cX12_firm 24 = .ok (.iload_n 1, 1) := by decide +kernel
theorem dX12_firm_25 : decode cX12_firm 25 = .ok (.iconst 1, 1) := by decide +kernel
theorem dX12_firm_26 : decode cX12_firm 26 = .ok (.invokevirtual 79, 3) := by decide +kernel
theorem dX12_firm_29 : decode cX12_firm 29 = .ok (.istore_n 3, 1) := by decide +kernel
theorem dX12_firm_30 : decode cX12_firm 30 = .ok (.iconst 0, 1) := by decide +kernel
theorem dX12_firm_31 : decode cX12_firm 31 = .ok (.istore 4, 2) := by decide +kernel
theorem dX12_firm_33 : decode cX12_firm 33 = .ok (.iconst 0, 1) := by decide +kernel
theorem dX12_firm_34 : decode cX12_firm 34 = .ok (.istore 5, 2) := by decide +kernel
theorem dX12_firm_36 : decode cX12_firm 36 = .ok (.iconst 0, 1) := by decide +kernel
theorem dX12_firm_37 : decode cX12_firm 37 = .ok (.istore 6, 2) := by decide +kernel
theorem dX12_firm_39 : decode cX12_firm 39 = .ok (.iconst 0, 1) := by decide +kernel
theorem dX12_firm_40 : decode cX12_firm 40 = .ok (.istore 7, 2) := by decide +kernel
theorem dX12_firm_42 : decode cX12_firm 42 = .ok (.iload 7, 2) := by decide +kernel
theorem dX12_firm_44 : decode cX12_firm 44 = .ok (.aload_n 0, 1) := by decide +kernel
theorem dX12_firm_45 : decode cX12_firm 45 = .ok (.getfield 7, 3) := by decide +kernel
theorem dX12_firm_48 : decode cX12_firm 48 = .ok (.iconst 1, 1) := by decide +kernel
theorem dX12_firm_49 : decode cX12_firm 49 = .ok (.iaload, 1) := by decide +kernel
theorem dX12_firm_50 : decode cX12_firm 50 = .ok (.if_icmp .ge 134, 3) := by decide +kernel
theorem dX12_firm_53 : decode cX12_firm 53 = .ok (.aload_n 0, 1) := by decide +kernel
theorem dX12_firm_54 : decode cX12_firm 54 = .ok (.iload 7, 2) := by decide +kernel
theorem dX12_firm_56 : decode cX12_firm 56 = .ok (.iconst 1, 1) := by decide +kernel
theorem dX12_firm_57 : decode cX12_firm 57 = .ok (.invokevirtual 51, 3) := by decide +kernel
theorem dX12_firm_60 : decode cX12_firm 60 = .ok (.istore 8, 2) := by decide +kernel
theorem dX12_firm_62 : decode cX12_firm 62 = .ok (.aload_n 0, 1) := by decide +kernel
theorem dX12_firm_63 : decode cX12_firm 63 = .ok (.iload 7, 2) := by decide +kernel
theorem dX12_firm_65 : decode cX12_firm 65 = .ok (.invokevirtual 67, 3) := by decide +kernel
theorem dX12_firm_68 : decode cX12_firm 68 = .ok (.iload_n 1, 1) := by decide +kernel
theorem dX12_firm_69 : decode cX12_firm 69 = .ok (.if_icmp .eq 35, 3) := by decide +kernel
theorem dX12_firm_72 : decode cX12_firm 72 = .ok (.aload_n 0, 1) := by decide +kernel
theorem dX12_firm_73 : decode cX12_firm 73 = .ok (.iload 7, 2) := by decide +kernel
theorem dX12_firm_75 : decode cX12_firm 75 = .ok (.iconst 3, 1) := by decide +kernel
theorem dX12_firm_76 : decode cX12_firm 76 = .ok (.invokevirtual 51, 3) := by decide +kernel
theorem dX12_firm_79 : decode cX12_firm 79 = .ok (.ifCond .ne 25, 3) := by decide +kernel
theorem dX12_firm_82 : decode cX12_firm 82 = .ok (.aload_n 0, 1) := by decide +kernel
theorem dX12_firm_83 : decode cX12_firm 83 = .ok (.iload_n 1, 1) := by decide +kernel
theorem dX12_firm_84 : decode cX12_firm 84 = .ok (.iload 7, 2) := by decide +kernel
theorem dX12_firm_86 : decode cX12_firm 86 = .ok (.invokevirtual 73, 3) := by decide +kernel
theorem dX12_firm_89 : decode cX12_firm 89 = .ok (.iload 8, 2) := by decide +kernel
theorem dX12_firm_91 : decode cX12_firm 91 = .ok (.if_icmp .le 13, 3) := by decide +kernel
theorem dX12_firm_94 : decode cX12_firm 94 = .ok (.iload_n 3, 1) := by decide +kernel
theorem dX12_firm_95 : decode cX12_firm 95 = .ok (.iload 8, 2) := by decide +kernel
theorem dX12_firm_97 : decode cX12_firm 97 = .ok (.if_icmp .lt 7, 3) := by decide +kernel
theorem dX12_firm_100 : decode cX12_firm 100 = .ok (.iconst 1, 1) := by decide +kernel
theorem dX12_firm_101 : decode cX12_firm 101 = .ok (.goto 4, 3) := by decide +kernel
theorem dX12_firm_104 : decode cX12_firm 104 = .ok (.iconst 0, 1) := by decide +kernel
theorem dX12_firm_105 : decode cX12_firm 105 = .ok (.istore 9, 2) := by decide +kernel
theorem dX12_firm_107 : decode cX12_firm 107 = .ok (.iload_n 3, 1) := by decide +kernel
theorem dX12_firm_108 : decode cX12_firm 108 = .ok (.iload 9, 2) := by decide +kernel
theorem dX12_firm_110 : decode cX12_firm 110 = .ok (.ifCond .eq 8, 3) := by decide +kernel
theorem dX12_firm_113 : decode cX12_firm 113 = .ok (.iload 8, 2) := by decide +kernel
theorem dX12_firm_115 : decode cX12_firm 115 = .ok (.goto 4, 3) := by decide +kernel
theorem dX12_firm_118 : decode cX12_firm 118 = .ok (.iconst 0, 1) := by decide +kernel
theorem dX12_firm_119 : decode cX12_firm 119 = .ok (.isub, 1) := by decide +kernel
theorem dX12_firm_120 : decode cX12_firm 120 = .ok (.istore_n 3, 1) := by decide +kernel
theorem dX12_firm_121 : decode cX12_firm 121 = .ok (.iload 4, 2) := by decide +kernel
theorem dX12_firm_123 : decode cX12_firm 123 = .ok (.iload 9, 2) := by decide +kernel
theorem dX12_firm_125 : decode cX12_firm 125 = .ok (.ifCond .eq 7, 3) := by decide +kernel
theorem dX12_firm_128 : decode cX12_firm 128 = .ok (.iconst 1, 1) := by decide +kernel
theorem dX12_firm_129 : decode cX12_firm 129 = .ok (.goto 4, 3) := by decide +kernel
theorem dX12_firm_132 : decode cX12_firm 132 = .ok (.iconst 0, 1) := by decide +kernel
theorem dX12_firm_133 : decode cX12_firm 133 = .ok (.iadd, 1) := by decide +kernel
theorem dX12_firm_134 : decode cX12_firm 134 = .ok (.istore 4, 2) := by decide +kernel
theorem dX12_firm_136 : decode cX12_firm 136 = .ok (.iload 5, 2) := by decide +kernel
theorem dX12_firm_138 : decode cX12_firm 138 = .ok (.iload 9, 2) := by decide +kernel
theorem dX12_firm_140 : decode cX12_firm 140 = .ok (.ifCond .eq 16, 3) := by decide +kernel
theorem dX12_firm_143 : decode cX12_firm 143 = .ok (.aload_n 0, 1) := by decide +kernel
theorem dX12_firm_144 : decode cX12_firm 144 = .ok (.iload_n 1, 1) := by decide +kernel
theorem dX12_firm_145 : decode cX12_firm 145 = .ok (.iload 7, 2) := by decide +kernel
theorem dX12_firm_147 : decode cX12_firm 147 = .ok (.invokevirtual 73, 3) := by decide +kernel
theorem dX12_firm_150 : decode cX12_firm 150 = .ok (.iload 8, 2) := by decide +kernel
theorem dX12_firm_152 : decode cX12_firm 152 = .ok (.isub, 1) := by decide +kernel
theorem dX12_firm_153 : decode cX12_firm 153 = .ok (.goto 4, 3) := by decide +kernel
theorem dX12_firm_156 : decode cX12_firm 156 = .ok (.iconst 0, 1) := by decide +kernel
theorem dX12_firm_157 : decode cX12_firm 157 = .ok (.iadd, 1) := by decide +kernel
theorem dX12_firm_158 : decode cX12_firm 158 = .ok (.istore 5, 2) := by decide +kernel
theorem dX12_firm_160 : decode cX12_firm 160 = .ok (.iload 6, 2) := by decide +kernel
theorem dX12_firm_162 : decode cX12_firm 162 = .ok (.iload 9, 2) := by decide +kernel
theorem dX12_firm_164 : decode cX12_firm 164 = .ok (.ifCond .eq 10, 3) := by decide +kernel
theorem dX12_firm_167 : decode cX12_firm 167 = .ok (.iconst 1, 1) := by decide +kernel
theorem dX12_firm_168 : decode cX12_firm 168 = .ok (.iload 7, 2) := by decide +kernel
theorem dX12_firm_170 : decode cX12_firm 170 = .ok (.ishl, 1) := by decide +kernel
theorem dX12_firm_171 : decode cX12_firm 171 = .ok (.goto 4, 3) := by decide +kernel
theorem dX12_firm_174 : decode cX12_firm 174 = .ok (.iconst 0, 1) := by decide +kernel
theorem dX12_firm_175 : decode cX12_firm 175 = .ok (.ior, 1) := by decide +kernel
theorem dX12_firm_176 : decode cX12_firm 176 = .ok (.istore 6, 2) := by decide +kernel
theorem dX12_firm_178 : decode cX12_firm 178 = .ok (.iinc 7 1, 3) := by decide +kernel
theorem dX12_firm_181 : decode cX12_firm 181 = .ok (.goto (-139), 3) := by decide +kernel
theorem dX12_firm_184 : decode cX12_firm 184 = .ok (.iload_n 2, 1) := by decide +kernel
theorem dX12_firm_185 : decode cX12_firm 185 = .ok (.ifCond .ne 8, 3) := by decide +kernel
theorem dX12_firm_188 : decode cX12_firm 188 = .ok (.iload 4, 2) := by decide +kernel
theorem dX12_firm_190 : decode cX12_firm 190 = .ok (.goto 15, 3) := by decide +kernel
theorem dX12_firm_193 : decode cX12_firm 193 = .ok (.iload_n 2, 1) := by decide +kernel
theorem dX12_firm_194 : decode cX12_firm 194 = .ok (.iconst 1, 1) := by decide +kernel
theorem dX12_firm_195 : decode cX12_firm 195 = .ok (.if_icmp .ne 8, 3) := by decide +kernel
theorem dX12_firm_198 : decode cX12_firm 198 = .ok (.iload 5, 2) := by decide +kernel
theorem dX12_firm_200 : decode cX12_firm 200 = .ok (.goto 5, 3) := by decide +kernel
theorem dX12_firm_203 : decode cX12_firm 203 = .ok (.iload 6, 2) := by decide +kernel
theorem dX12_firm_205 : decode cX12_firm 205 = .ok (.ireturn, 1) := by decide +kernel
theorem dX12_then_0 : decode cX12_then 0 = .ok (.iload_n 1, 1) := by decide +kernel
theorem dX12_then_1 : decode cX12_then 1 = .ok (.iconst 0, 1) := by decide +kernel
theorem dX12_then_2 : decode cX12_then 2 = .ok (.bipush 40, 2) := by decide +kernel
theorem dX12_then_4 : decode cX12_then 4 = .ok (.invokestatic 47, 3) := by decide +kernel
theorem dX12_then_7 : decode cX12_then 7 = .ok (.ifCond .eq 13, 3) := by decide +kernel
theorem dX12_then_10 : decode cX12_then 10 = .ok (.iload_n 2, 1) := by decide +kernel
theorem dX12_then_11 : decode cX12_then 11 = .ok (.iconst 0, 1) := by decide +kernel
theorem dX12_then_12 : decode cX12_then 12 = .ok (.bipush 6, 2) := by decide +kernel
theorem dX12_then_14 : decode cX12_then 14 = .ok (.invokestatic 47, 3) := by decide +kernel
theorem dX12_then_17 : decode cX12_then 17 = .ok (.ifCond .ne 9, 3) := by decide +kernel
theorem dX12_then_20 : decode cX12_then 20 = .ok (.aload_n 0, 1) := by decide +kernel
theorem dX12_then_21 : decode cX12_then 21 = .ok (.iconst 1, 1) := by decide +kernel
theorem dX12_then_22 : decode cX12_then 22 = .ok (.invokevirtual 60, 3) := by decide +kernel
theorem dX12_then_25 : decode cX12_then 25 = .ok (.ireturn, 1) := by decide +kernel
theorem dX12_then_26 : decode cX12_then 26 = .ok (.aload_n 0, 1) := by decide +kernel
theorem dX12_then_27 : decode cX12_then 27 = .ok (.getfield 7, 3) := by decide +kernel
theorem dX12_then_30 : decode cX12_then 30 = .ok (.aload_n 0, 1) := by decide +kernel
theorem dX12_then_31 : decode cX12_then 31 = .ok (.getfield 16, 3) := by decide +kernel
theorem dX12_then_34 : decode cX12_then 34 = .ok (.invokestatic 241, 3) := by decide +kernel
theorem dX12_then_37 : decode cX12_then 37 = .ok (.aload_n 0, 1) := by decide +kernel
theorem dX12_then_38 : decode cX12_then 38 = .ok (.iload_n 1, 1) := by decide +kernel
theorem dX12_then_39 : decode cX12_then 39 = .ok (.invokevirtual 204, 3) := by decide +kernel
theorem dX12_then_42 : decode cX12_then 42 = .ok (.aload_n 0, 1) := by decide +kernel
theorem dX12_then_43 : decode cX12_then 43 = .ok (.iload_n 2, 1) := by decide +kernel
theorem dX12_then_44 : decode cX12_then 44 = .ok (.invokevirtual 238, 3) := by decide +kernel
theorem dX12_then_47 : decode cX12_then 47 = .ok (.istore_n 3, 1) := by decide +kernel
theorem dX12_then_48 : decode cX12_then 48 = .ok (.aload_n 0, 1) := by decide +kernel
theorem dX12_then_49 : decode cX12_then 49 = .ok (.getfield 16, 3) := by decide +kernel
theorem dX12_then_52 : decode cX12_then 52 = .ok (.aload_n 0, 1) := by decide +kernel
theorem dX12_then_53 : decode cX12_then 53 = .ok (.getfield 7, 3) := by decide +kernel
theorem dX12_then_56 : decode cX12_then 56 = .ok (.invokestatic 241, 3) := by decide +kernel
theorem dX12_then_59 : decode cX12_then 59 = .ok (.iload_n 3, 1) := by decide +kernel
theorem dX12_then_60 : decode cX12_then 60 = .ok (.ireturn, 1) := by decide +kernel
theorem dX12_whose_0 : decode cX12_whose 0 = .ok (.iload_n 1, 1) := by decide +kernel
theorem dX12_whose_1 : decode cX12_whose 1 = .ok (.iconst 0, 1) := by decide +kernel
theorem dX12_whose_2 : decode cX12_whose 2 = .ok (.bipush 40, 2) := by decide +kernel
theorem dX12_whose_4 : decode cX12_whose 4 = .ok (.invokestatic 47, 3) := by decide +kernel
theorem dX12_whose_7 : decode cX12_whose 7 = .ok (.ifCond .eq 11, 3) := by decide +kernel
theorem dX12_whose_10 : decode cX12_whose 10 = .ok (.aload_n 0, 1) := by decide +kernel
theorem dX12_whose_11 : decode cX12_whose 11 = .ok (.iload_n 2, 1) := by decide +kernel
theorem dX12_whose_12 : decode cX12_whose 12 = .ok (.invokevirtual 92, 3) := by decide +kernel
theorem dX12_whose_15 : decode cX12_whose 15 = .ok (.ifCond .ne 9, 3) := by decide +kernel
theorem dX12_whose_18 : decode cX12_whose 18 = .ok (.aload_n 0, 1) := by decide +kernel
theorem dX12_whose_19 : decode cX12_whose 19 = .ok (.iconst 1, 1) := by decide +kernel
theorem dX12_whose_20 : decode cX12_whose 20 = .ok (.invokevirtual 60, 3) := by decide +kernel
theorem dX12_whose_23 : decode cX12_whose 23 = .ok (.ireturn, 1) := by decide +kernel
theorem dX12_whose_24 : decode cX12_whose 24 = .ok (.aload_n 0, 1) := by decide +kernel
theorem dX12_whose_25 : decode cX12_whose 25 = .ok (.getfield 7, 3) := by decide +kernel
theorem dX12_whose_28 : decode cX12_whose 28 = .ok (.aload_n 0, 1) := by decide +kernel
theorem dX12_whose_29 : decode cX12_whose 29 = .ok (.getfield 16, 3) := by decide +kernel
theorem dX12_whose_32 : decode cX12_whose 32 = .ok (.invokestatic 241, 3) := by decide +kernel
theorem dX12_whose_35 : decode cX12_whose 35 = .ok (.aload_n 0, 1) := by decide +kernel
theorem dX12_whose_36 : decode cX12_whose 36 = .ok (.iload_n 1, 1) := by decide +kernel
theorem dX12_whose_37 : decode cX12_whose 37 = .ok (.invokevirtual 204, 3) := by decide +kernel
theorem dX12_whose_40 : decode cX12_whose 40 = .ok (.aload_n 0, 1) := by decide +kernel
theorem dX12_whose_41 : decode cX12_whose 41 = .ok (.iload_n 2, 1) := by decide +kernel
theorem dX12_whose_42 : decode cX12_whose 42 = .ok (.invokevirtual 67, 3) := by decide +kernel
theorem dX12_whose_45 : decode cX12_whose 45 = .ok (.istore_n 3, 1) := by decide +kernel
theorem dX12_whose_46 : decode cX12_whose 46 = .ok (.aload_n 0, 1) := by decide +kernel
theorem dX12_whose_47 : decode cX12_whose 47 = .ok (.getfield 16, 3) := by decide +kernel
theorem dX12_whose_50 : decode cX12_whose 50 = .ok (.aload_n 0, 1) := by decide +kernel
theorem dX12_whose_51 : decode cX12_whose 51 = .ok (.getfield 7, 3) := by decide +kernel
theorem dX12_whose_54 : decode cX12_whose 54 = .ok (.invokestatic 241, 3) := by decide +kernel
theorem dX12_whose_57 : decode cX12_whose 57 = .ok (.iload_n 3, 1) := by decide +kernel
theorem dX12_whose_58 : decode cX12_whose 58 = .ok (.ireturn, 1) := by decide +kernel
theorem dX12_part_0 : decode cX12_part 0 = .ok (.iload_n 1, 1) := by decide +kernel
theorem dX12_part_1 : decode cX12_part 1 = .ok (.iconst 0, 1) := by decide +kernel
theorem dX12_part_2 : decode cX12_part 2 = .ok (.bipush 40, 2) := by decide +kernel
theorem dX12_part_4 : decode cX12_part 4 = .ok (.invokestatic 47, 3) := by decide +kernel
theorem dX12_part_7 : decode cX12_part 7 = .ok (.ifCond .ne 9, 3) := by decide +kernel
theorem dX12_part_10 : decode cX12_part 10 = .ok (.aload_n 0, 1) := by decide +kernel
theorem dX12_part_11 : decode cX12_part 11 = .ok (.iconst 1, 1) := by decide +kernel
theorem dX12_part_12 : decode cX12_part 12 = .ok (.invokevirtual 60, 3) := by decide +kernel
theorem dX12_part_15 : decode cX12_part 15 = .ok (.ireturn, 1) := by decide +kernel
theorem dX12_part_16 : decode cX12_part 16 = .ok (.aload_n 0, 1) := by decide +kernel
theorem dX12_part_17 : decode cX12_part 17 = .ok (.getfield 7, 3) := by decide +kernel
theorem dX12_part_20 : decode cX12_part 20 = .ok (.aload_n 0, 1) := by decide +kernel
theorem dX12_part_21 : decode cX12_part 21 = .ok (.getfield 16, 3) := by decide +kernel
theorem dX12_part_24 : decode cX12_part 24 = .ok (.invokestatic 241, 3) := by decide +kernel
theorem dX12_part_27 : decode cX12_part 27 = .ok (.iconst (-1), 1) := by decide +kernel
theorem dX12_part_28 : decode cX12_part 28 = .ok (.istore_n 2, 1) := by decide +kernel
theorem dX12_part_29 : decode cX12_part 29 = .ok (.iconst 0, 1) := by decide +kernel
theorem dX12_part_30 : decode cX12_part 30 = .ok (.istore_n 3, 1) := by decide +kernel
theorem dX12_part_31 : decode cX12_part 31 = .ok (.iconst 0, 1) := by decide +kernel
theorem dX12_part_32 : decode cX12_part 32 = .ok (.istore 4, 2) := by decide +kernel
theorem dX12_part_34 : decode cX12_part 34 = .ok (.iload 4, 2) := by decide +kernel
theorem dX12_part_36 : decode cX12_part 36 = .ok (.bipush 30, 2) := by decide +kernel
theorem dX12_part_38 : decode cX12_part 38 = .ok (.if_icmp .gt 71, 3) := by decide +kernel
theorem dX12_part_41 : decode cX12_part 41 = .ok (.aload_n 0, 1) := by decide +kernel
theorem dX12_part_42 : decode cX12_part 42 = .ok (.getfield 7, 3) := by decide +kernel
theorem dX12_part_45 : decode cX12_part 45 = .ok (.bipush 10, 2) := by decide +kernel
theorem dX12_part_47 : decode cX12_part 47 = .ok (.iload 4, 2) := by decide +kernel
theorem dX12_part_49 : decode cX12_part 49 = .ok (.iastore, 1) := by decide +kernel
theorem dX12_part_50 : decode cX12_part 50 = .ok (.aload_n 0, 1) := by decide +kernel
theorem dX12_part_51 : decode cX12_part 51 = .ok (.iload_n 1, 1) := by decide +kernel
theorem dX12_part_52 : decode cX12_part 52 = .ok (.invokevirtual 204, 3) := by decide +kernel
theorem dX12_part_55 : decode cX12_part 55 = .ok (.aload_n 0, 1) := by decide +kernel
theorem dX12_part_56 : decode cX12_part 56 = .ok (.iconst 0, 1) := by decide +kernel
theorem dX12_part_57 : decode cX12_part 57 = .ok (.invokevirtual 238, 3) := by decide +kernel
theorem dX12_part_60 : decode cX12_part 60 = .ok (.istore 5, 2) := by decide +kernel
theorem dX12_part_62 : decode cX12_part 62 = .ok (.aload_n 0, 1) := by decide +kernel
theorem dX12_part_63 : decode cX12_part 63 = .ok (.getfield 16, 3) := by decide +kernel
theorem dX12_part_66 : decode cX12_part 66 = .ok (.aload_n 0, 1) := by decide +kernel
theorem dX12_part_67 : decode cX12_part 67 = .ok (.getfield 7, 3) := by decide +kernel
theorem dX12_part_70 : decode cX12_part 70 = .ok (.invokestatic 241, 3) := by decide +kernel
theorem dX12_part_73 : decode cX12_part 73 = .ok (.iload_n 2, 1) := by decide +kernel
theorem dX12_part_74 : decode cX12_part 74 = .ok (.ifCond .lt 9, 3) := by decide +kernel
theorem dX12_part_77 : decode cX12_part 77 = .ok (.iload 5, 2) := by decide +kernel
theorem dX12_part_79 : decode cX12_part 79 = .ok (.iload_n 3, 1) := by decide +kernel
theorem dX12_part_80 : decode cX12_part 80 = .ok (.if_icmp .le 8, 3) := by decide +kernel
theorem dX12_part_83 : decode cX12_part 83 = .ok (.iload 4, 2) := by decide +kernel
theorem dX12_part_85 : decode cX12_part 85 = .ok (.goto 4, 3) := by decide +kernel
theorem dX12_part_88 : decode cX12_part 88 = .ok (.iload_n 2, 1) := by decide +kernel
theorem dX12_part_89 : decode cX12_part 89 = .ok (.istore_n 2, 1) := by decide +kernel
theorem dX12_part_90 : decode cX12_part 90 = .ok (.iload_n 2, 1) := by decide +kernel
theorem dX12_part_91 : decode cX12_part 91 = .ok (.iload 4, 2) := by decide +kernel
theorem dX12_part_93 : decode cX12_part 93 = .ok (.if_icmp .ne 8, 3) := by decide +kernel
theorem dX12_part_96 : decode cX12_part 96 = .ok (.iload 5, 2) := by decide +kernel
theorem dX12_part_98 : decode cX12_part 98 = .ok (.goto 4, 3) := by decide +kernel
theorem dX12_part_101 : decode cX12_part 101 = .ok (.iload_n 3, 1) := by decide +kernel
theorem dX12_part_102 : decode cX12_part 102 = .ok (.istore_n 3, 1) := by decide +kernel
theorem dX12_part_103 : decode cX12_part 103 = .ok (.iinc 4 1, 3) := by decide +kernel
theorem dX12_part_106 : decode cX12_part 106 = .ok (.goto (-72), 3) := by decide +kernel
theorem dX12_part_109 : decode cX12_part 109 = .ok (.iload_n 2, 1) := by decide +kernel
theorem dX12_part_110 : decode cX12_part 110 = .ok (.ireturn, 1) := by decide +kernel
theorem dX12_begins_0 : decode cX12_begins 0 = .ok (.aload_n 0, 1) := by decide +kernel
theorem dX12_begins_1 : decode cX12_begins 1 = .ok (.getfield 245, 3) := by decide +kernel
theorem dX12_begins_4 : decode cX12_begins 4 = .ok (.bipush 30, 2) := by decide +kernel
theorem dX12_begins_6 : decode cX12_begins 6 = .ok (.if_icmp .ge 23, 3) := by decide +kernel
theorem dX12_begins_9 : decode cX12_begins 9 = .ok (.aload_n 0, 1) := by decide +kernel
theorem dX12_begins_10 : decode cX12_begins 10 = .ok (.getfield 31, 3) := by decide +kernel
theorem dX12_begins_13 : decode cX12_begins 13 = .ok (.aload_n 0, 1) := by decide +kernel
theorem dX12_begins_14 : decode cX12_begins 14 = .ok (.getfield 245, 3) := by decide +kernel
theorem dX12_begins_17 : decode cX12_begins 17 = .ok (.iload_n 1, 1) := by decide +kernel
theorem dX12_begins_18 : decode cX12_begins 18 = .ok (.iastore, 1) := by decide +kernel
theorem dX12_begins_19 : decode cX12_begins 19 = .ok (.aload_n 0, 1) := by decide +kernel
theorem dX12_begins_20 : decode cX12_begins 20 = .ok (.dup, 1) := by decide +kernel
theorem dX12_begins_21 : decode cX12_begins 21 = .ok (.getfield 245, 3) := by decide +kernel
theorem dX12_begins_24 : decode cX12_begins 24 = .ok (.iconst 1, 1) := by decide +kernel
theorem dX12_begins_25 : decode cX12_begins 25 = .ok (.iadd, 1) := by decide +kernel
theorem dX12_begins_26 : decode cX12_begins 26 = .ok (.putfield 245, 3) := by decide +kernel
theorem dX12_begins_29 : decode cX12_begins 29 = .ok (.return_, 1) := by decide +kernel
theorem dX12_above_0 : decode cX12_above 0 = .ok (.iload_n 0, 1) := by decide +kernel
theorem dX12_above_1 : decode cX12_above 1 = .ok (.iconst 2, 1) := by decide +kernel
theorem dX12_above_2 : decode cX12_above 2 = .ok (.if_icmp .eq 14, 3) := by decide +kernel
theorem dX12_above_5 : decode cX12_above 5 = .ok (.iload_n 0, 1) := by decide +kernel
theorem dX12_above_6 : decode cX12_above 6 = .ok (.iconst 3, 1) := by decide +kernel
theorem dX12_above_7 : decode cX12_above 7 = .ok (.if_icmp .eq 9, 3) := by decide +kernel
theorem dX12_above_10 : decode cX12_above 10 = .ok (.iload_n 0, 1) := by decide +kernel
theorem dX12_above_11 : decode cX12_above 11 = .ok (.bipush 6, 2) := by decide +kernel
theorem dX12_above_13 : decode cX12_above 13 = .ok (.if_icmp .ne 7, 3) := by decide +kernel
theorem dX12_above_16 : decode cX12_above 16 = .ok (.iconst 1, 1) := by decide +kernel
theorem dX12_above_17 : decode cX12_above 17 = .ok (.goto 4, 3) := by decide +kernel
theorem dX12_above_20 : decode cX12_above 20 = .ok (.iconst 0, 1) := by decide +kernel
theorem dX12_above_21 : decode cX12_above 21 = .ok (.ireturn, 1) := by decide +kernel
theorem dX12_kindNow_0 : decode cX12_kindNow 0 = .ok (.aload_n 0, 1) := by decide +kernel
theorem dX12_kindNow_1 : decode cX12_kindNow 1 = .ok (.aload_n 0, 1) := by decide +kernel
theorem dX12_kindNow_2 : decode cX12_kindNow 2 = .ok (.getfield 248, 3) := by decide +kernel
theorem dX12_kindNow_5 : decode cX12_kindNow 5 = .ok (.iconst 0, 1) := by decide +kernel
theorem dX12_kindNow_6 : decode cX12_kindNow 6 = .ok (.invokevirtual 79, 3) := by decide +kernel
theorem dX12_kindNow_9 : decode cX12_kindNow 9 = .ok (.ireturn, 1) := by decide +kernel
theorem dX12_partNow_0 : decode cX12_partNow 0 = .ok (.aload_n 0, 1) := by decide +kernel
theorem dX12_partNow_1 : decode cX12_partNow 1 = .ok (.aload_n 0, 1) := by decide +kernel
theorem dX12_partNow_2 : decode cX12_partNow 2 = .ok (.getfield 248, 3) := by decide +kernel
theorem dX12_partNow_5 : decode cX12_partNow 5 = .ok (.iconst 2, 1) := by decide +kernel
theorem dX12_partNow_6 : decode cX12_partNow 6 = .ok (.invokevirtual 79, 3) := by decide +kernel
theorem dX12_partNow_9 : decode cX12_partNow 9 = .ok (.ireturn, 1) := by decide +kernel
theorem dX12_calls_0 : decode cX12_calls 0 = .ok (.iload_n 1, 1) := by decide +kernel
theorem dX12_calls_1 : decode cX12_calls 1 = .ok (.tableswitch 120 0 6 #[43, 56, 120, 74, 120, 111, 92], 43) := by decide +kernel
theorem dX12_calls_44 : decode cX12_calls 44 = .ok (.aload_n 0, 1) := by decide +kernel
theorem dX12_calls_45 : decode cX12_calls 45 = .ok (.bipush 10, 2) := by decide +kernel
theorem dX12_calls_47 : decode cX12_calls 47 = .ok (.invokevirtual 251, 3) := by decide +kernel
theorem dX12_calls_50 : decode cX12_calls 50 = .ok (.iload_n 2, 1) := by decide +kernel
theorem dX12_calls_51 : decode cX12_calls 51 = .ok (.aload_n 0, 1) := by decide +kernel
theorem dX12_calls_52 : decode cX12_calls 52 = .ok (.getfield 248, 3) := by decide +kernel
theorem dX12_calls_55 : decode cX12_calls 55 = .ok (.iadd, 1) := by decide +kernel
theorem dX12_calls_56 : decode cX12_calls 56 = .ok (.ireturn, 1) := by decide +kernel
theorem dX12_calls_57 : decode cX12_calls 57 = .ok (.aload_n 0, 1) := by decide +kernel
theorem dX12_calls_58 : decode cX12_calls 58 = .ok (.bipush 20, 2) := by decide +kernel
theorem dX12_calls_60 : decode cX12_calls 60 = .ok (.invokevirtual 251, 3) := by decide +kernel
theorem dX12_calls_63 : decode cX12_calls 63 = .ok (.aload_n 0, 1) := by decide +kernel
theorem dX12_calls_64 : decode cX12_calls 64 = .ok (.iconst 1, 1) := by decide +kernel
theorem dX12_calls_65 : decode cX12_calls 65 = .ok (.invokestatic 254, 3) := by decide +kernel
theorem dX12_calls_68 : decode cX12_calls 68 = .ok (.iload_n 2, 1) := by decide +kernel
theorem dX12_calls_69 : decode cX12_calls 69 = .ok (.invokevirtual 257, 3) := by decide +kernel
theorem dX12_calls_72 : decode cX12_calls 72 = .ok (.iconst 5, 1) := by decide +kernel
theorem dX12_calls_73 : decode cX12_calls 73 = .ok (.iadd, 1) := by decide +kernel
theorem dX12_calls_74 : decode cX12_calls 74 = .ok (.ireturn, 1) := by decide +kernel
theorem dX12_calls_75 : decode cX12_calls 75 = .ok (.aload_n 0, 1) := by decide +kernel
theorem dX12_calls_76 : decode cX12_calls 76 = .ok (.bipush 40, 2) := by decide +kernel
theorem dX12_calls_78 : decode cX12_calls 78 = .ok (.invokevirtual 251, 3) := by decide +kernel
theorem dX12_calls_81 : decode cX12_calls 81 = .ok (.aload_n 0, 1) := by decide +kernel
theorem dX12_calls_82 : decode cX12_calls 82 = .ok (.iconst 3, 1) := by decide +kernel
theorem dX12_calls_83 : decode cX12_calls 83 = .ok (.invokestatic 254, 3) := by decide +kernel
theorem dX12_calls_86 : decode cX12_calls 86 = .ok (.iload_n 2, 1) := by decide +kernel
theorem dX12_calls_87 : decode cX12_calls 87 = .ok (.iconst 2, 1) := by decide +kernel
theorem dX12_calls_88 : decode cX12_calls 88 = .ok (.idiv, 1) := by decide +kernel
theorem dX12_calls_89 : decode cX12_calls 89 = .ok (.invokevirtual 257, 3) := by decide +kernel
theorem dX12_calls_92 : decode cX12_calls 92 = .ok (.ireturn, 1) := by decide +kernel
theorem dX12_calls_93 : decode cX12_calls 93 = .ok (.aload_n 0, 1) := by decide +kernel
theorem dX12_calls_94 : decode cX12_calls 94 = .ok (.bipush 60, 2) := by decide +kernel
theorem dX12_calls_96 : decode cX12_calls 96 = .ok (.invokevirtual 251, 3) := by decide +kernel
theorem dX12_calls_99 : decode cX12_calls 99 = .ok (.aload_n 0, 1) := by decide +kernel
theorem dX12_calls_100 : decode cX12_calls 100 = .ok (.bipush 6, 2) := by decide +kernel
theorem dX12_calls_102 : decode cX12_calls 102 = .ok (.invokestatic 254, 3) := by decide +kernel
theorem dX12_calls_105 : decode cX12_calls 105 = .ok (.iload_n 2, 1) := by decide +kernel
theorem dX12_calls_106 : decode cX12_calls 106 = .ok (.invokevirtual 257, 3) := by decide +kernel
theorem dX12_calls_109 : decode cX12_calls 109 = .ok (.iconst 3, 1) := by decide +kernel
theorem dX12_calls_110 : decode cX12_calls 110 = .ok (.imul, 1) := by decide +kernel
theorem dX12_calls_111 : decode cX12_calls 111 = .ok (.ireturn, 1) := by decide +kernel
theorem dX12_calls_112 : decode cX12_calls 112 = .ok (.aload_n 0, 1) := by decide +kernel
theorem dX12_calls_113 : decode cX12_calls 113 = .ok (.bipush 70, 2) := by decide +kernel
theorem dX12_calls_115 : decode cX12_calls 115 = .ok (.invokevirtual 251, 3) := by decide +kernel
theorem dX12_calls_118 : decode cX12_calls 118 = .ok (.bipush 8, 2) := by decide +kernel
theorem dX12_calls_120 : decode cX12_calls 120 = .ok (.ireturn, 1) := by decide +kernel
theorem dX12_calls_121 : decode cX12_calls 121 = .ok (.aload_n 0, 1) := by decide +kernel
theorem dX12_calls_122 : decode cX12_calls 122 = .ok (.iload_n 1, 1) := by decide +kernel
theorem dX12_calls_123 : decode cX12_calls 123 = .ok (.invokestatic 254, 3) := by decide +kernel
theorem dX12_calls_126 : decode cX12_calls 126 = .ok (.iload_n 2, 1) := by decide +kernel
theorem dX12_calls_127 : decode cX12_calls 127 = .ok (.invokevirtual 257, 3) := by decide +kernel
theorem dX12_calls_130 : decode cX12_calls 130 = .ok (.ireturn, 1) := by decide +kernel
theorem dX12_buys_0 : decode cX12_buys 0 = .ok (.iload_n 1, 1) := by decide +kernel
theorem dX12_buys_1 : decode cX12_buys 1 = .ok (.lookupswitch 92 #[(0, 35), (2, 53), (5, 71)], 35) := by decide +kernel
theorem dX12_buys_36 : decode cX12_buys 36 = .ok (.aload_n 0, 1) := by decide +kernel
theorem dX12_buys_37 : decode cX12_buys 37 = .ok (.bipush 11, 2) := by decide +kernel
theorem dX12_buys_39 : decode cX12_buys 39 = .ok (.invokevirtual 251, 3) := by decide +kernel
theorem dX12_buys_42 : decode cX12_buys 42 = .ok (.aload_n 0, 1) := by decide +kernel
theorem dX12_buys_43 : decode cX12_buys 43 = .ok (.aload_n 0, 1) := by decide +kernel
theorem dX12_buys_44 : decode cX12_buys 44 = .ok (.invokevirtual 260, 3) := by decide +kernel
theorem dX12_buys_47 : decode cX12_buys 47 = .ok (.iload_n 2, 1) := by decide +kernel
theorem dX12_buys_48 : decode cX12_buys 48 = .ok (.invokevirtual 257, 3) := by decide +kernel
theorem dX12_buys_51 : decode cX12_buys 51 = .ok (.iconst 2, 1) := by decide +kernel
theorem dX12_buys_52 : decode cX12_buys 52 = .ok (.imul, 1) := by decide +kernel
theorem dX12_buys_53 : decode cX12_buys 53 = .ok (.ireturn, 1) := by decide +kernel
theorem dX12_buys_54 : decode cX12_buys 54 = .ok (.aload_n 0, 1) := by decide +kernel
theorem dX12_buys_55 : decode cX12_buys 55 = .ok (.bipush 30, 2) := by decide +kernel
theorem dX12_buys_57 : decode cX12_buys 57 = .ok (.invokevirtual 251, 3) := by decide +kernel
theorem dX12_buys_60 : decode cX12_buys 60 = .ok (.iconst 0, 1) := by decide +kernel
theorem dX12_buys_61 : decode cX12_buys 61 = .ok (.aload_n 0, 1) := by decide +kernel
theorem dX12_buys_62 : decode cX12_buys 62 = .ok (.iconst 2, 1) := by decide +kernel
theorem dX12_buys_63 : decode cX12_buys 63 = .ok (.invokestatic 254, 3) := by decide +kernel
theorem dX12_buys_66 : decode cX12_buys 66 = .ok (.iload_n 2, 1) := by decide +kernel
theorem dX12_buys_67 : decode cX12_buys 67 = .ok (.invokevirtual 263, 3) := by decide +kernel
theorem dX12_buys_70 : decode cX12_buys 70 = .ok (.isub, 1) := by decide +kernel
theorem dX12_buys_71 : decode cX12_buys 71 = .ok (.ireturn, 1) := by decide +kernel
theorem dX12_buys_72 : decode cX12_buys 72 = .ok (.aload_n 0, 1) := by decide +kernel
theorem dX12_buys_73 : decode cX12_buys 73 = .ok (.bipush 71, 2) := by decide +kernel
theorem dX12_buys_75 : decode cX12_buys 75 = .ok (.invokevirtual 251, 3) := by decide +kernel
theorem dX12_buys_78 : decode cX12_buys 78 = .ok (.aload_n 0, 1) := by decide +kernel
theorem dX12_buys_79 : decode cX12_buys 79 = .ok (.iconst 5, 1) := by decide +kernel
theorem dX12_buys_80 : decode cX12_buys 80 = .ok (.invokestatic 254, 3) := by decide +kernel
theorem dX12_buys_83 : decode cX12_buys 83 = .ok (.iload_n 2, 1) := by decide +kernel
theorem dX12_buys_84 : decode cX12_buys 84 = .ok (.invokevirtual 263, 3) := by decide +kernel
theorem dX12_buys_87 : decode cX12_buys 87 = .ok (.aload_n 0, 1) := by decide +kernel
theorem dX12_buys_88 : decode cX12_buys 88 = .ok (.getfield 248, 3) := by decide +kernel
theorem dX12_buys_91 : decode cX12_buys 91 = .ok (.iadd, 1) := by decide +kernel
theorem dX12_buys_92 : decode cX12_buys 92 = .ok (.ireturn, 1) := by decide +kernel
theorem dX12_buys_93 : decode cX12_buys 93 = .ok (.aload_n 0, 1) := by decide +kernel
theorem dX12_buys_94 : decode cX12_buys 94 = .ok (.iload_n 1, 1) := by decide +kernel
theorem dX12_buys_95 : decode cX12_buys 95 = .ok (.invokestatic 254, 3) := by decide +kernel
theorem dX12_buys_98 : decode cX12_buys 98 = .ok (.iload_n 2, 1) := by decide +kernel
theorem dX12_buys_99 : decode cX12_buys 99 = .ok (.invokevirtual 263, 3) := by decide +kernel
theorem dX12_buys_102 : decode cX12_buys 102 = .ok (.ireturn, 1) := by decide +kernel
theorem dX12_gives_0 : decode cX12_gives 0 = .ok (.iload_n 1, 1) := by decide +kernel
theorem dX12_gives_1 : decode cX12_gives 1 = .ok (.tableswitch 95 0 4 #[35, 95, 95, 56, 77], 35) := by decide +kernel
theorem dX12_gives_36 : decode cX12_gives 36 = .ok (.aload_n 0, 1) := by decide +kernel
theorem dX12_gives_37 : decode cX12_gives 37 = .ok (.bipush 12, 2) := by decide +kernel
theorem dX12_gives_39 : decode cX12_gives 39 = .ok (.invokevirtual 251, 3) := by decide +kernel
theorem dX12_gives_42 : decode cX12_gives 42 = .ok (.aload_n 0, 1) := by decide +kernel
theorem dX12_gives_43 : decode cX12_gives 43 = .ok (.aload_n 0, 1) := by decide +kernel
theorem dX12_gives_44 : decode cX12_gives 44 = .ok (.invokevirtual 260, 3) := by decide +kernel
theorem dX12_gives_47 : decode cX12_gives 47 = .ok (.iload_n 2, 1) := by decide +kernel
theorem dX12_gives_48 : decode cX12_gives 48 = .ok (.invokevirtual 263, 3) := by decide +kernel
theorem dX12_gives_51 : decode cX12_gives 51 = .ok (.aload_n 0, 1) := by decide +kernel
theorem dX12_gives_52 : decode cX12_gives 52 = .ok (.invokevirtual 266, 3) := by decide +kernel
theorem dX12_gives_55 : decode cX12_gives 55 = .ok (.isub, 1) := by decide +kernel
theorem dX12_gives_56 : decode cX12_gives 56 = .ok (.ireturn, 1) := by decide +kernel
theorem dX12_gives_57 : decode cX12_gives 57 = .ok (.aload_n 0, 1) := by decide +kernel
theorem dX12_gives_58 : decode cX12_gives 58 = .ok (.bipush 41, 2) := by decide +kernel
theorem dX12_gives_60 : decode cX12_gives 60 = .ok (.invokevirtual 251, 3) := by decide +kernel
theorem dX12_gives_63 : decode cX12_gives 63 = .ok (.aload_n 0, 1) := by decide +kernel
theorem dX12_gives_64 : decode cX12_gives 64 = .ok (.iconst 3, 1) := by decide +kernel
theorem dX12_gives_65 : decode cX12_gives 65 = .ok (.invokestatic 254, 3) := by decide +kernel
theorem dX12_gives_68 : decode cX12_gives 68 = .ok (.iload_n 2, 1) := by decide +kernel
theorem dX12_gives_69 : decode cX12_gives 69 = .ok (.invokevirtual 269, 3) := by decide +kernel
theorem dX12_gives_72 : decode cX12_gives 72 = .ok (.aload_n 0, 1) := by decide +kernel
theorem dX12_gives_73 : decode cX12_gives 73 = .ok (.getfield 248, 3) := by decide +kernel
theorem dX12_gives_76 : decode cX12_gives 76 = .ok (.ixor, 1) := by decide +kernel
theorem dX12_gives_77 : decode cX12_gives 77 = .ok (.ireturn, 1) := by decide +kernel
theorem dX12_gives_78 : decode cX12_gives 78 = .ok (.aload_n 0, 1) := by decide +kernel
theorem dX12_gives_79 : decode cX12_gives 79 = .ok (.bipush 50, 2) := by decide +kernel
theorem dX12_gives_81 : decode cX12_gives 81 = .ok (.invokevirtual 251, 3) := by decide +kernel
theorem dX12_gives_84 : decode cX12_gives 84 = .ok (.aload_n 0, 1) := by decide +kernel
theorem dX12_gives_85 : decode cX12_gives 85 = .ok (.iconst 4, 1) := by decide +kernel
theorem dX12_gives_86 : decode cX12_gives 86 = .ok (.invokestatic 254, 3) := by decide +kernel
theorem dX12_gives_89 : decode cX12_gives 89 = .ok (.iload_n 2, 1) := by decide +kernel
theorem dX12_gives_90 : decode cX12_gives 90 = .ok (.iconst 1, 1) := by decide +kernel
theorem dX12_gives_91 : decode cX12_gives 91 = .ok (.iadd, 1) := by decide +kernel
theorem dX12_gives_92 : decode cX12_gives 92 = .ok (.invokevirtual 269, 3) := by decide +kernel
theorem dX12_gives_95 : decode cX12_gives 95 = .ok (.ireturn, 1) := by decide +kernel
theorem dX12_gives_96 : decode cX12_gives 96 = .ok (.aload_n 0, 1) := by decide +kernel
theorem dX12_gives_97 : decode cX12_gives 97 = .ok (.iload_n 1, 1) := by decide +kernel
theorem dX12_gives_98 : decode cX12_gives 98 = .ok (.invokestatic 254, 3) := by decide +kernel
theorem dX12_gives_101 : decode cX12_gives 101 = .ok (.iload_n 2, 1) := by decide +kernel
theorem dX12_gives_102 : decode cX12_gives 102 = .ok (.invokevirtual 269, 3) := by decide +kernel
theorem dX12_gives_105 : decode cX12_gives 105 = .ok (.ireturn, 1) := by decide +kernel
theorem dX12_minds_0 : decode cX12_minds 0 = .ok (.iconst 0, 1) := by decide +kernel
theorem dX12_minds_1 : decode cX12_minds 1 = .ok (.istore_n 3, 1) := by decide +kernel
theorem dX12_minds_2 : decode cX12_minds 2 = .ok (.iload_n 1, 1) := by decide +kernel
theorem dX12_minds_3 : decode cX12_minds 3 = .ok (.lookupswitch 168 #[(0, 33), (1, 89), (6, 128)], 33) := by decide +kernel
theorem dX12_minds_36 : decode cX12_minds 36 = .ok (.aload_n 0, 1) := by decide +kernel
theorem dX12_minds_37 : decode cX12_minds 37 = .ok (.bipush 13, 2) := by decide +kernel
theorem dX12_minds_39 : decode cX12_minds 39 = .ok (.invokevirtual 251, 3) := by decide +kernel
theorem dX12_minds_42 : decode cX12_minds 42 = .ok (.aload_n 0, 1) := by decide +kernel
theorem dX12_minds_43 : decode cX12_minds 43 = .ok (.invokevirtual 266, 3) := by decide +kernel
theorem dX12_minds_46 : decode cX12_minds 46 = .ok (.aload_n 0, 1) := by decide +kernel
theorem dX12_minds_47 : decode cX12_minds 47 = .ok (.getfield 248, 3) := by decide +kernel
theorem dX12_minds_50 : decode cX12_minds 50 = .ok (.isub, 1) := by decide +kernel
theorem dX12_minds_51 : decode cX12_minds 51 = .ok (.istore 4, 2) := by decide +kernel
theorem dX12_minds_53 : decode cX12_minds 53 = .ok (.aload_n 0, 1) := by decide +kernel
theorem dX12_minds_54 : decode cX12_minds 54 = .ok (.iload 4, 2) := by decide +kernel
theorem dX12_minds_56 : decode cX12_minds 56 = .ok (.ifCond .ne 7, 3) := by decide +kernel
theorem dX12_minds_59 : decode cX12_minds 59 = .ok (.iconst 1, 1) := by decide +kernel
theorem dX12_minds_60 : decode cX12_minds 60 = .ok (.goto 4, 3) := by decide +kernel
theorem dX12_minds_63 : decode cX12_minds 63 = .ok (.iconst 0, 1) := by decide +kernel
theorem dX12_minds_64 : decode cX12_minds 64 = .ok (.putfield 272, 3) := by decide +kernel
theorem dX12_minds_67 : decode cX12_minds 67 = .ok (.iload 4, 2) := by decide +kernel
theorem dX12_minds_69 : decode cX12_minds 69 = .ok (.ifCond .ne 7, 3) := by decide +kernel
theorem dX12_minds_72 : decode cX12_minds 72 = .ok (.iconst 0, 1) := by decide +kernel
theorem dX12_minds_73 : decode cX12_minds 73 = .ok (.goto 18, 3) := by decide +kernel
theorem dX12_minds_76 : decode cX12_minds 76 = .ok (.iload 4, 2) := by decide +kernel
theorem dX12_minds_78 : decode cX12_minds 78 = .ok (.iconst (-1), 1) := by decide +kernel
theorem dX12_minds_79 : decode cX12_minds 79 = .ok (.if_icmp .ne 8, 3) := by decide +kernel
theorem dX12_minds_82 : decode cX12_minds 82 = .ok (.iload_n 2, 1) := by decide +kernel
theorem dX12_minds_83 : decode cX12_minds 83 = .ok (.ineg, 1) := by decide +kernel
theorem dX12_minds_84 : decode cX12_minds 84 = .ok (.goto 7, 3) := by decide +kernel
theorem dX12_minds_87 : decode cX12_minds 87 = .ok (.iload_n 2, 1) := by decide +kernel
theorem dX12_minds_88 : decode cX12_minds 88 = .ok (.iload 4, 2) := by decide +kernel
theorem dX12_minds_90 : decode cX12_minds 90 = .ok (.idiv, 1) := by decide +kernel
theorem dX12_minds_91 : decode cX12_minds 91 = .ok (.ireturn, 1) := by decide +kernel
theorem dX12_minds_92 : decode cX12_minds 92 = .ok (.aload_n 0, 1) := by decide +kernel
theorem dX12_minds_93 : decode cX12_minds 93 = .ok (.bipush 21, 2) := by decide +kernel
theorem dX12_minds_95 : decode cX12_minds 95 = .ok (.invokevirtual 251, 3) := by decide +kernel
theorem dX12_minds_98 : decode cX12_minds 98 = .ok (.aload_n 0, 1) := by decide +kernel
theorem dX12_minds_99 : decode cX12_minds 99 = .ok (.iconst 1, 1) := by decide +kernel
theorem dX12_minds_100 : decode cX12_minds 100 = .ok (.invokestatic 254, 3) := by decide +kernel
theorem dX12_minds_103 : decode cX12_minds 103 = .ok (.iload_n 2, 1) := by decide +kernel
theorem dX12_minds_104 : decode cX12_minds 104 = .ok (.invokevirtual 276, 3) := by decide +kernel
theorem dX12_minds_107 : decode cX12_minds 107 = .ok (.istore_n 3, 1) := by decide +kernel
theorem dX12_minds_108 : decode cX12_minds 108 = .ok (.aload_n 0, 1) := by decide +kernel
theorem dX12_minds_109 : decode cX12_minds 109 = .ok (.getfield 272, 3) := by decide +kernel
theorem dX12_minds_112 : decode cX12_minds 112 = .ok (.ifCond .eq 7, 3) := by decide +kernel
theorem dX12_minds_115 : decode cX12_minds 115 = .ok (.iconst 0, 1) := by decide +kernel
theorem dX12_minds_116 : decode cX12_minds 116 = .ok (.goto 14, 3) := by decide +kernel
theorem dX12_minds_119 : decode cX12_minds 119 = .ok (.iload_n 3, 1) := by decide +kernel
theorem dX12_minds_120 : decode cX12_minds 120 = .ok (.aload_n 0, 1) := by decide +kernel
theorem dX12_minds_121 : decode cX12_minds 121 = .ok (.aload_n 0, 1) := by decide +kernel
theorem dX12_minds_122 : decode cX12_minds 122 = .ok (.invokevirtual 260, 3) := by decide +kernel
theorem dX12_minds_125 : decode cX12_minds 125 = .ok (.iconst 1, 1) := by decide +kernel
theorem dX12_minds_126 : decode cX12_minds 126 = .ok (.invokevirtual 263, 3) := by decide +kernel
theorem dX12_minds_129 : decode cX12_minds 129 = .ok (.iadd, 1) := by decide +kernel
theorem dX12_minds_130 : decode cX12_minds 130 = .ok (.ireturn, 1) := by decide +kernel
theorem dX12_minds_131 : decode cX12_minds 131 = .ok (.aload_n 0, 1) := by decide +kernel
theorem dX12_minds_132 : decode cX12_minds 132 = .ok (.bipush 61, 2) := by decide +kernel
theorem dX12_minds_134 : decode cX12_minds 134 = .ok (.invokevirtual 251, 3) := by decide +kernel
theorem dX12_minds_137 : decode cX12_minds 137 = .ok (.aload_n 0, 1) := by decide +kernel
theorem dX12_minds_138 : decode cX12_minds 138 = .ok (.bipush 6, 2) := by decide +kernel
theorem dX12_minds_140 : decode cX12_minds 140 = .ok (.invokestatic 254, 3) := by decide +kernel
theorem dX12_minds_143 : decode cX12_minds 143 = .ok (.iload_n 2, 1) := by decide +kernel
theorem dX12_minds_144 : decode cX12_minds 144 = .ok (.invokevirtual 276, 3) := by decide +kernel
theorem dX12_minds_147 : decode cX12_minds 147 = .ok (.istore_n 3, 1) := by decide +kernel
theorem dX12_minds_148 : decode cX12_minds 148 = .ok (.aload_n 0, 1) := by decide +kernel
theorem dX12_minds_149 : decode cX12_minds 149 = .ok (.getfield 272, 3) := by decide +kernel
theorem dX12_minds_152 : decode cX12_minds 152 = .ok (.ifCond .eq 7, 3) := by decide +kernel
theorem dX12_minds_155 : decode cX12_minds 155 = .ok (.iconst 0, 1) := by decide +kernel
theorem dX12_minds_156 : decode cX12_minds 156 = .ok (.goto 14, 3) := by decide +kernel
theorem dX12_minds_159 : decode cX12_minds 159 = .ok (.iload_n 3, 1) := by decide +kernel
theorem dX12_minds_160 : decode cX12_minds 160 = .ok (.aload_n 0, 1) := by decide +kernel
theorem dX12_minds_161 : decode cX12_minds 161 = .ok (.aload_n 0, 1) := by decide +kernel
theorem dX12_minds_162 : decode cX12_minds 162 = .ok (.invokevirtual 260, 3) := by decide +kernel
theorem dX12_minds_165 : decode cX12_minds 165 = .ok (.iconst 0, 1) := by decide +kernel
theorem dX12_minds_166 : decode cX12_minds 166 = .ok (.invokevirtual 269, 3) := by decide +kernel
theorem dX12_minds_169 : decode cX12_minds 169 = .ok (.isub, 1) := by decide +kernel
theorem dX12_minds_170 : decode cX12_minds 170 = .ok (.ireturn, 1) := by decide +kernel
theorem dX12_minds_171 : decode cX12_minds 171 = .ok (.aload_n 0, 1) := by decide +kernel
theorem dX12_minds_172 : decode cX12_minds 172 = .ok (.iload_n 1, 1) := by decide +kernel
theorem dX12_minds_173 : decode cX12_minds 173 = .ok (.invokestatic 254, 3) := by decide +kernel
theorem dX12_minds_176 : decode cX12_minds 176 = .ok (.iload_n 2, 1) := by decide +kernel
theorem dX12_minds_177 : decode cX12_minds 177 = .ok (.invokevirtual 276, 3) := by decide +kernel
theorem dX12_minds_180 : decode cX12_minds 180 = .ok (.ireturn, 1) := by decide +kernel
theorem dX12_voice_0 : decode cX12_voice 0 = .ok (.aload_n 0, 1) := by decide +kernel
theorem dX12_voice_1 : decode cX12_voice 1 = .ok (.iload_n 1, 1) := by decide +kernel
theorem dX12_voice_2 : decode cX12_voice 2 = .ok (.invokevirtual 76, 3) := by decide +kernel
theorem dX12_voice_5 : decode cX12_voice 5 = .ok (.ifCond .eq 12, 3) := by decide +kernel
theorem dX12_voice_8 : decode cX12_voice 8 = .ok (.iload_n 2, 1) := by decide +kernel
theorem dX12_voice_9 : decode cX12_voice 9 = .ok (.iconst 0, 1) := by decide +kernel
theorem dX12_voice_10 : decode cX12_voice 10 = .ok (.iconst 3, 1) := by decide +kernel
theorem dX12_voice_11 : decode cX12_voice 11 = .ok (.invokestatic 47, 3) := by decide +kernel
theorem dX12_voice_14 : decode cX12_voice 14 = .ok (.ifCond .ne 9, 3) := by decide +kernel
theorem dX12_voice_17 : decode cX12_voice 17 = .ok (.aload_n 0, 1) := by decide +kernel
theorem dX12_voice_18 : decode cX12_voice 18 = .ok (.iconst 1, 1) := by decide +kernel
theorem dX12_voice_19 : decode cX12_voice 19 = .ok (.invokevirtual 60, 3) := by decide +kernel
theorem dX12_voice_22 : decode cX12_voice 22 = .ok (.ireturn, 1) := by decide +kernel
theorem dX12_voice_23 : decode cX12_voice 23 = .ok (.aload_n 0, 1) := by decide +kernel
theorem dX12_voice_24 : decode cX12_voice 24 = .ok (.iconst 0, 1) := by decide +kernel
theorem dX12_voice_25 : decode cX12_voice 25 = .ok (.putfield 245, 3) := by decide +kernel
theorem dX12_voice_28 : decode cX12_voice 28 = .ok (.aload_n 0, 1) := by decide +kernel
theorem dX12_voice_29 : decode cX12_voice 29 = .ok (.iload_n 1, 1) := by decide +kernel
theorem dX12_voice_30 : decode cX12_voice 30 = .ok (.putfield 248, 3) := by decide +kernel
theorem dX12_voice_33 : decode cX12_voice 33 = .ok (.aload_n 0, 1) := by decide +kernel
theorem dX12_voice_34 : decode cX12_voice 34 = .ok (.iconst 0, 1) := by decide +kernel
theorem dX12_voice_35 : decode cX12_voice 35 = .ok (.putfield 272, 3) := by decide +kernel
theorem dX12_voice_38 : decode cX12_voice 38 = .ok (.aload_n 0, 1) := by decide +kernel
theorem dX12_voice_39 : decode cX12_voice 39 = .ok (.invokevirtual 260, 3) := by decide +kernel
theorem dX12_voice_42 : decode cX12_voice 42 = .ok (.istore 4, 2) := by decide +kernel
theorem dX12_voice_44 : decode cX12_voice 44 = .ok (.iload_n 2, 1) := by decide +kernel
theorem dX12_voice_45 : decode cX12_voice 45 = .ok (.ifCond .ne 13, 3) := by decide +kernel
theorem dX12_voice_48 : decode cX12_voice 48 = .ok (.aload_n 0, 1) := by decide +kernel
theorem dX12_voice_49 : decode cX12_voice 49 = .ok (.iload 4, 2) := by decide +kernel
theorem dX12_voice_51 : decode cX12_voice 51 = .ok (.iload_n 3, 1) := by decide +kernel
theorem dX12_voice_52 : decode cX12_voice 52 = .ok (.invokevirtual 257, 3) := by decide +kernel
theorem dX12_voice_55 : decode cX12_voice 55 = .ok (.goto 40, 3) := by decide +kernel
theorem dX12_voice_58 : decode cX12_voice 58 = .ok (.iload_n 2, 1) := by decide +kernel
theorem dX12_voice_59 : decode cX12_voice 59 = .ok (.iconst 1, 1) := by decide +kernel
theorem dX12_voice_60 : decode cX12_voice 60 = .ok (.if_icmp .ne 13, 3) := by decide +kernel
theorem dX12_voice_63 : decode cX12_voice 63 = .ok (.aload_n 0, 1) := by decide +kernel
theorem dX12_voice_64 : decode cX12_voice 64 = .ok (.iload 4, 2) := by decide +kernel
theorem dX12_voice_66 : decode cX12_voice 66 = .ok (.iload_n 3, 1) := by decide +kernel
theorem dX12_voice_67 : decode cX12_voice 67 = .ok (.invokevirtual 263, 3) := by decide +kernel
theorem dX12_voice_70 : decode cX12_voice 70 = .ok (.goto 25, 3) := by decide +kernel
theorem dX12_voice_73 : decode cX12_voice 73 = .ok (.iload_n 2, 1) := by decide +kernel
theorem dX12_voice_74 : decode cX12_voice 74 = .ok (.iconst 2, 1) := by decide +kernel
theorem dX12_voice_75 : decode cX12_voice 75 = .ok (.if_icmp .ne 13, 3) := by decide +kernel
theorem dX12_voice_78 : decode cX12_voice 78 = .ok (.aload_n 0, 1) := by decide +kernel
theorem dX12_voice_79 : decode cX12_voice 79 = .ok (.iload 4, 2) := by decide +kernel
theorem dX12_voice_81 : decode cX12_voice 81 = .ok (.iload_n 3, 1) := by decide +kernel
theorem dX12_voice_82 : decode cX12_voice 82 = .ok (.invokevirtual 269, 3) := by decide +kernel
theorem dX12_voice_85 : decode cX12_voice 85 = .ok (.goto 10, 3) := by decide +kernel
theorem dX12_voice_88 : decode cX12_voice 88 = .ok (.aload_n 0, 1) := by decide +kernel
theorem dX12_voice_89 : decode cX12_voice 89 = .ok (.iload 4, 2) := by decide +kernel
theorem dX12_voice_91 : decode cX12_voice 91 = .ok (.iload_n 3, 1) := by decide +kernel
theorem dX12_voice_92 : decode cX12_voice 92 = .ok (.invokevirtual 276, 3) := by decide +kernel
theorem dX12_voice_95 : decode cX12_voice 95 = .ok (.istore 5, 2) := by decide +kernel
theorem dX12_voice_97 : decode cX12_voice 97 = .ok (.aload_n 0, 1) := by decide +kernel
theorem dX12_voice_98 : decode cX12_voice 98 = .ok (.getfield 272, 3) := by decide +kernel
theorem dX12_voice_101 : decode cX12_voice 101 = .ok (.ifCond .eq 12, 3) := by decide +kernel
theorem dX12_voice_104 : decode cX12_voice 104 = .ok (.aload_n 0, 1) := by decide +kernel
theorem dX12_voice_105 : decode cX12_voice 105 = .ok (.bipush 6, 2) := by decide +kernel
theorem dX12_voice_107 : decode cX12_voice 107 = .ok (.invokevirtual 60, 3) := by decide +kernel
theorem dX12_voice_110 : decode cX12_voice 110 = .ok (.goto 5, 3) := by decide +kernel
theorem dX12_voice_113 : decode cX12_voice 113 = .ok (.iload 5, 2) := by decide +kernel
theorem dX12_voice_115 : decode cX12_voice 115 = .ok (.ireturn, 1) := by decide +kernel
theorem dX12_body_0 : decode cX12_body 0 = .ok (.iload_n 1, 1) := by decide +kernel
theorem dX12_body_1 : decode cX12_body 1 = .ok (.iconst 0, 1) := by decide +kernel
theorem dX12_body_2 : decode cX12_body 2 = .ok (.aload_n 0, 1) := by decide +kernel
theorem dX12_body_3 : decode cX12_body 3 = .ok (.getfield 245, 3) := by decide +kernel
theorem dX12_body_6 : decode cX12_body 6 = .ok (.iconst 1, 1) := by decide +kernel
theorem dX12_body_7 : decode cX12_body 7 = .ok (.isub, 1) := by decide +kernel
theorem dX12_body_8 : decode cX12_body 8 = .ok (.invokestatic 47, 3) := by decide +kernel
theorem dX12_body_11 : decode cX12_body 11 = .ok (.ifCond .eq 12, 3) := by decide +kernel
theorem dX12_body_14 : decode cX12_body 14 = .ok (.aload_n 0, 1) := by decide +kernel
theorem dX12_body_15 : decode cX12_body 15 = .ok (.getfield 31, 3) := by decide +kernel
theorem dX12_body_18 : decode cX12_body 18 = .ok (.iload_n 1, 1) := by decide +kernel
theorem dX12_body_19 : decode cX12_body 19 = .ok (.iaload, 1) := by decide +kernel
theorem dX12_body_20 : decode cX12_body 20 = .ok (.goto 8, 3) := by decide +kernel
theorem dX12_body_23 : decode cX12_body 23 = .ok (.aload_n 0, 1) := by decide +kernel
theorem dX12_body_24 : decode cX12_body 24 = .ok (.iconst 2, 1) := by decide +kernel
theorem dX12_body_25 : decode cX12_body 25 = .ok (.invokevirtual 60, 3) := by decide +kernel
theorem dX12_body_28 : decode cX12_body 28 = .ok (.ireturn, 1) := by decide +kernel
theorem dX12_isSheet_0 : decode cX12_isSheet 0 = .ok (.iload_n 0, 1) := by decide +kernel
theorem dX12_isSheet_1 : decode cX12_isSheet 1 = .ok (.iconst 0, 1) := by decide +kernel
theorem dX12_isSheet_2 : decode cX12_isSheet 2 = .ok (.iconst 3, 1) := by decide +kernel
theorem dX12_isSheet_3 : decode cX12_isSheet 3 = .ok (.invokestatic 47, 3) := by decide +kernel
theorem dX12_isSheet_6 : decode cX12_isSheet 6 = .ok (.ireturn, 1) := by decide +kernel
theorem dX12_sheet_0 : decode cX12_sheet 0 = .ok (.iload_n 1, 1) := by decide +kernel
theorem dX12_sheet_1 : decode cX12_sheet 1 = .ok (.invokestatic 279, 3) := by decide +kernel
theorem dX12_sheet_4 : decode cX12_sheet 4 = .ok (.ifCond .eq 25, 3) := by decide +kernel
theorem dX12_sheet_7 : decode cX12_sheet 7 = .ok (.iload_n 2, 1) := by decide +kernel
theorem dX12_sheet_8 : decode cX12_sheet 8 = .ok (.ifCond .eq 27, 3) := by decide +kernel
theorem dX12_sheet_11 : decode cX12_sheet 11 = .ok (.iload_n 2, 1) := by decide +kernel
theorem dX12_sheet_12 : decode cX12_sheet 12 = .ok (.bipush 8, 2) := by decide +kernel
theorem dX12_sheet_14 : decode cX12_sheet 14 = .ok (.if_icmp .eq 21, 3) := by decide +kernel
theorem dX12_sheet_17 : decode cX12_sheet 17 = .ok (.iload_n 2, 1) := by decide +kernel
theorem dX12_sheet_18 : decode cX12_sheet 18 = .ok (.bipush 16, 2) := by decide +kernel
theorem dX12_sheet_20 : decode cX12_sheet 20 = .ok (.if_icmp .eq 15, 3) := by decide +kernel
theorem dX12_sheet_23 : decode cX12_sheet 23 = .ok (.iload_n 2, 1) := by decide +kernel
theorem dX12_sheet_24 : decode cX12_sheet 24 = .ok (.bipush 32, 2) := by decide +kernel
theorem dX12_sheet_26 : decode cX12_sheet 26 = .ok (.if_icmp .eq 9, 3) := by decide +kernel
theorem dX12_sheet_29 : decode cX12_sheet 29 = .ok (.aload_n 0, 1) := by decide +kernel
theorem dX12_sheet_30 : decode cX12_sheet 30 = .ok (.iconst 1, 1) := by decide +kernel
theorem dX12_sheet_31 : decode cX12_sheet 31 = .ok (.invokevirtual 60, 3) := by decide +kernel
theorem dX12_sheet_34 : decode cX12_sheet 34 = .ok (.ireturn, 1) := by decide +kernel
theorem dX12_sheet_35 : decode cX12_sheet 35 = .ok (.iload_n 2, 1) := by decide +kernel
theorem dX12_sheet_36 : decode cX12_sheet 36 = .ok (.ifCond .eq 13, 3) := by decide +kernel
theorem dX12_sheet_39 : decode cX12_sheet 39 = .ok (.iload_n 3, 1) := by decide +kernel
theorem dX12_sheet_40 : decode cX12_sheet 40 = .ok (.ifCond .ge 9, 3) := by decide +kernel
theorem dX12_sheet_43 : decode cX12_sheet 43 = .ok (.aload_n 0, 1) := by decide +kernel
theorem dX12_sheet_44 : decode cX12_sheet 44 = .ok (.iconst 3, 1) := by decide +kernel
theorem dX12_sheet_45 : decode cX12_sheet 45 = .ok (.invokevirtual 60, 3) := by decide +kernel
theorem dX12_sheet_48 : decode cX12_sheet 48 = .ok (.ireturn, 1) := by decide +kernel
theorem dX12_sheet_49 : decode cX12_sheet 49 = .ok (.iload_n 2, 1) := by decide +kernel
theorem dX12_sheet_50 : decode cX12_sheet 50 = .ok (.ifCond .eq 15, 3) := by decide +kernel
theorem dX12_sheet_53 : decode cX12_sheet 53 = .ok (.iload_n 3, 1) := by decide +kernel
theorem dX12_sheet_54 : decode cX12_sheet 54 = .ok (.bipush 24, 2) := by decide +kernel
theorem dX12_sheet_56 : decode cX12_sheet 56 = .ok (.if_icmp .le 9, 3) := by decide +kernel
theorem dX12_sheet_59 : decode cX12_sheet 59 = .ok (.aload_n 0, 1) := by decide +kernel
theorem dX12_sheet_60 : decode cX12_sheet 60 = .ok (.iconst 1, 1) := by decide +kernel
theorem dX12_sheet_61 : decode cX12_sheet 61 = .ok (.invokevirtual 60, 3) := by decide +kernel
theorem dX12_sheet_64 : decode cX12_sheet 64 = .ok (.ireturn, 1) := by decide +kernel
theorem dX12_sheet_65 : decode cX12_sheet 65 = .ok (.aload_n 0, 1) := by decide +kernel
theorem dX12_sheet_66 : decode cX12_sheet 66 = .ok (.getfield 34, 3) := by decide +kernel
theorem dX12_sheet_69 : decode cX12_sheet 69 = .ok (.iload_n 1, 1) := by decide +kernel
theorem dX12_sheet_70 : decode cX12_sheet 70 = .ok (.iload_n 2, 1) := by decide +kernel
theorem dX12_sheet_71 : decode cX12_sheet 71 = .ok (.iastore, 1) := by decide +kernel
theorem dX12_sheet_72 : decode cX12_sheet 72 = .ok (.aload_n 0, 1) := by decide +kernel
theorem dX12_sheet_73 : decode cX12_sheet 73 = .ok (.getfield 37, 3) := by decide +kernel
theorem dX12_sheet_76 : decode cX12_sheet 76 = .ok (.iload_n 1, 1) := by decide +kernel
theorem dX12_sheet_77 : decode cX12_sheet 77 = .ok (.iload_n 2, 1) := by decide +kernel
theorem dX12_sheet_78 : decode cX12_sheet 78 = .ok (.ifCond .ne 7, 3) := by decide +kernel
theorem dX12_sheet_81 : decode cX12_sheet 81 = .ok (.iconst 0, 1) := by decide +kernel
theorem dX12_sheet_82 : decode cX12_sheet 82 = .ok (.goto 4, 3) := by decide +kernel
theorem dX12_sheet_85 : decode cX12_sheet 85 = .ok (.iload_n 3, 1) := by decide +kernel
theorem dX12_sheet_86 : decode cX12_sheet 86 = .ok (.iastore, 1) := by decide +kernel
theorem dX12_sheet_87 : decode cX12_sheet 87 = .ok (.iconst 0, 1) := by decide +kernel
theorem dX12_sheet_88 : decode cX12_sheet 88 = .ok (.istore 4, 2) := by decide +kernel
theorem dX12_sheet_90 : decode cX12_sheet 90 = .ok (.iload 4, 2) := by decide +kernel
theorem dX12_sheet_92 : decode cX12_sheet 92 = .ok (.bipush 24, 2) := by decide +kernel
theorem dX12_sheet_94 : decode cX12_sheet 94 = .ok (.if_icmp .ge 22, 3) := by decide +kernel
theorem dX12_sheet_97 : decode cX12_sheet 97 = .ok (.aload_n 0, 1) := by decide +kernel
theorem dX12_sheet_98 : decode cX12_sheet 98 = .ok (.getfield 40, 3) := by decide +kernel
theorem dX12_sheet_101 : decode cX12_sheet 101 = .ok (.bipush 24, 2) := by decide +kernel
theorem dX12_sheet_103 : decode cX12_sheet 103 = .ok (.iload_n 1, 1) := by decide +kernel
theorem dX12_sheet_104 : decode cX12_sheet 104 = .ok (.imul, 1) := by decide +kernel
theorem dX12_sheet_105 : decode cX12_sheet 105 = .ok (.iload 4, 2) := by decide +kernel
theorem dX12_sheet_107 : decode cX12_sheet 107 = .ok (.iadd, 1) := by decide +kernel
theorem dX12_sheet_108 : decode cX12_sheet 108 = .ok (.iconst 0, 1) := by decide +kernel
theorem dX12_sheet_109 : decode cX12_sheet 109 = .ok (.iastore, 1) := by decide +kernel
theorem dX12_sheet_110 : decode cX12_sheet 110 = .ok (.iinc 4 1, 3) := by decide +kernel
theorem dX12_sheet_113 : decode cX12_sheet 113 = .ok (.goto (-23), 3) := by decide +kernel
theorem dX12_sheet_116 : decode cX12_sheet 116 = .ok (.iconst 1, 1) := by decide +kernel
theorem dX12_sheet_117 : decode cX12_sheet 117 = .ok (.ireturn, 1) := by decide +kernel
theorem dX12_put_0 : decode cX12_put 0 = .ok (.iload_n 1, 1) := by decide +kernel
theorem dX12_put_1 : decode cX12_put 1 = .ok (.invokestatic 279, 3) := by decide +kernel
theorem dX12_put_4 : decode cX12_put 4 = .ok (.ifCond .ne 9, 3) := by decide +kernel
theorem dX12_put_7 : decode cX12_put 7 = .ok (.aload_n 0, 1) := by decide +kernel
theorem dX12_put_8 : decode cX12_put 8 = .ok (.iconst 1, 1) := by decide +kernel
theorem dX12_put_9 : decode cX12_put 9 = .ok (.invokevirtual 60, 3) := by decide +kernel
theorem dX12_put_12 : decode cX12_put 12 = .ok (.ireturn, 1) := by decide +kernel
theorem dX12_put_13 : decode cX12_put 13 = .ok (.aload_n 0, 1) := by decide +kernel
theorem dX12_put_14 : decode cX12_put 14 = .ok (.getfield 34, 3) := by decide +kernel
theorem dX12_put_17 : decode cX12_put 17 = .ok (.iload_n 1, 1) := by decide +kernel
theorem dX12_put_18 : decode cX12_put 18 = .ok (.iaload, 1) := by decide +kernel
theorem dX12_put_19 : decode cX12_put 19 = .ok (.ifCond .ne 9, 3) := by decide +kernel
theorem dX12_put_22 : decode cX12_put 22 = .ok (.aload_n 0, 1) := by decide +kernel
theorem dX12_put_23 : decode cX12_put 23 = .ok (.iconst 2, 1) := by decide +kernel
theorem dX12_put_24 : decode cX12_put 24 = .ok (.invokevirtual 60, 3) := by decide +kernel
theorem dX12_put_27 : decode cX12_put 27 = .ok (.ireturn, 1) := by decide +kernel
theorem dX12_put_28 : decode cX12_put 28 = .ok (.iload_n 2, 1) := by decide +kernel
theorem dX12_put_29 : decode cX12_put 29 = .ok (.iconst 0, 1) := by decide +kernel
theorem dX12_put_30 : decode cX12_put 30 = .ok (.aload_n 0, 1) := by decide +kernel
theorem dX12_put_31 : decode cX12_put 31 = .ok (.getfield 37, 3) := by decide +kernel
theorem dX12_put_34 : decode cX12_put 34 = .ok (.iload_n 1, 1) := by decide +kernel
theorem dX12_put_35 : decode cX12_put 35 = .ok (.iaload, 1) := by decide +kernel
theorem dX12_put_36 : decode cX12_put 36 = .ok (.iconst 1, 1) := by decide +kernel
theorem dX12_put_37 : decode cX12_put 37 = .ok (.isub, 1) := by decide +kernel
theorem dX12_put_38 : decode cX12_put 38 = .ok (.invokestatic 47, 3) := by decide +kernel
theorem dX12_put_41 : decode cX12_put 41 = .ok (.ifCond .ne 9, 3) := by decide +kernel
theorem dX12_put_44 : decode cX12_put 44 = .ok (.aload_n 0, 1) := by decide +kernel
theorem dX12_put_45 : decode cX12_put 45 = .ok (.iconst 1, 1) := by decide +kernel
theorem dX12_put_46 : decode cX12_put 46 = .ok (.invokevirtual 60, 3) := by decide +kernel
theorem dX12_put_49 : decode cX12_put 49 = .ok (.ireturn, 1) := by decide +kernel
theorem dX12_put_50 : decode cX12_put 50 = .ok (.bipush 32, 2) := by decide +kernel
theorem dX12_put_52 : decode cX12_put 52 = .ok (.aload_n 0, 1) := by decide +kernel
theorem dX12_put_53 : decode cX12_put 53 = .ok (.getfield 34, 3) := by decide +kernel
theorem dX12_put_56 : decode cX12_put 56 = .ok (.iload_n 1, 1) := by decide +kernel
theorem dX12_put_57 : decode cX12_put 57 = .ok (.iaload, 1) := by decide +kernel
theorem dX12_put_58 : decode cX12_put 58 = .ok (.isub, 1) := by decide +kernel
theorem dX12_put_59 : decode cX12_put 59 = .ok (.istore 4, 2) := by decide +kernel
theorem dX12_put_61 : decode cX12_put 61 = .ok (.aload_n 0, 1) := by decide +kernel
theorem dX12_put_62 : decode cX12_put 62 = .ok (.getfield 40, 3) := by decide +kernel
theorem dX12_put_65 : decode cX12_put 65 = .ok (.bipush 24, 2) := by decide +kernel
theorem dX12_put_67 : decode cX12_put 67 = .ok (.iload_n 1, 1) := by decide +kernel
theorem dX12_put_68 : decode cX12_put 68 = .ok (.imul, 1) := by decide +kernel
theorem dX12_put_69 : decode cX12_put 69 = .ok (.iload_n 2, 1) := by decide +kernel
theorem dX12_put_70 : decode cX12_put 70 = .ok (.iadd, 1) := by decide +kernel
theorem dX12_put_71 : decode cX12_put 71 = .ok (.iload_n 3, 1) := by decide +kernel
theorem dX12_put_72 : decode cX12_put 72 = .ok (.iload 4, 2) := by decide +kernel
theorem dX12_put_74 : decode cX12_put 74 = .ok (.ishl, 1) := by decide +kernel
theorem dX12_put_75 : decode cX12_put 75 = .ok (.iload 4, 2) := by decide +kernel
theorem dX12_put_77 : decode cX12_put 77 = .ok (.ishr, 1) := by decide +kernel
theorem dX12_put_78 : decode cX12_put 78 = .ok (.iastore, 1) := by decide +kernel
theorem dX12_put_79 : decode cX12_put 79 = .ok (.iconst 1, 1) := by decide +kernel
theorem dX12_put_80 : decode cX12_put 80 = .ok (.ireturn, 1) := by decide +kernel
theorem dX12_move_0 : decode cX12_move 0 = .ok (.iload_n 1, 1) := by decide +kernel
theorem dX12_move_1 : decode cX12_move 1 = .ok (.invokestatic 279, 3) := by decide +kernel
theorem dX12_move_4 : decode cX12_move 4 = .ok (.ifCond .eq 10, 3) := by decide +kernel
theorem dX12_move_7 : decode cX12_move 7 = .ok (.iload_n 3, 1) := by decide +kernel
theorem dX12_move_8 : decode cX12_move 8 = .ok (.invokestatic 279, 3) := by decide +kernel
theorem dX12_move_11 : decode cX12_move 11 = .ok (.ifCond .ne 9, 3) := by decide +kernel
theorem dX12_move_14 : decode cX12_move 14 = .ok (.aload_n 0, 1) := by decide +kernel
theorem dX12_move_15 : decode cX12_move 15 = .ok (.iconst 1, 1) := by decide +kernel
theorem dX12_move_16 : decode cX12_move 16 = .ok (.invokevirtual 60, 3) := by decide +kernel
theorem dX12_move_19 : decode cX12_move 19 = .ok (.ireturn, 1) := by decide +kernel
theorem dX12_move_20 : decode cX12_move 20 = .ok (.aload_n 0, 1) := by decide +kernel
theorem dX12_move_21 : decode cX12_move 21 = .ok (.getfield 34, 3) := by decide +kernel
theorem dX12_move_24 : decode cX12_move 24 = .ok (.iload_n 1, 1) := by decide +kernel
theorem dX12_move_25 : decode cX12_move 25 = .ok (.iaload, 1) := by decide +kernel
theorem dX12_move_26 : decode cX12_move 26 = .ok (.ifCond .eq 12, 3) := by decide +kernel
theorem dX12_move_29 : decode cX12_move 29 = .ok (.aload_n 0, 1) := by decide +kernel
theorem dX12_move_30 : decode cX12_move 30 = .ok (.getfield 34, 3) := by decide +kernel
theorem dX12_move_33 : decode cX12_move 33 = .ok (.iload_n 3, 1) := by decide +kernel
theorem dX12_move_34 : decode cX12_move 34 = .ok (.iaload, 1) := by decide +kernel
theorem dX12_move_35 : decode cX12_move 35 = .ok (.ifCond .ne 9, 3) := by decide +kernel
theorem dX12_move_38 : decode cX12_move 38 = .ok (.aload_n 0, 1) := by decide +kernel
theorem dX12_move_39 : decode cX12_move 39 = .ok (.iconst 2, 1) := by decide +kernel
theorem dX12_move_40 : decode cX12_move 40 = .ok (.invokevirtual 60, 3) := by decide +kernel
theorem dX12_move_43 : decode cX12_move 43 = .ok (.ireturn, 1) := by decide +kernel
theorem dX12_move_44 : decode cX12_move 44 = .ok (.aload_n 0, 1) := by decide +kernel
theorem dX12_move_45 : decode cX12_move 45 = .ok (.getfield 34, 3) := by decide +kernel
theorem dX12_move_48 : decode cX12_move 48 = .ok (.iload_n 1, 1) := by decide +kernel
theorem dX12_move_49 : decode cX12_move 49 = .ok (.iaload, 1) := by decide +kernel
theorem dX12_move_50 : decode cX12_move 50 = .ok (.aload_n 0, 1) := by decide +kernel
theorem dX12_move_51 : decode cX12_move 51 = .ok (.getfield 34, 3) := by decide +kernel
theorem dX12_move_54 : decode cX12_move 54 = .ok (.iload_n 3, 1) := by decide +kernel
theorem dX12_move_55 : decode cX12_move 55 = .ok (.iaload, 1) := by decide +kernel
theorem dX12_move_56 : decode cX12_move 56 = .ok (.if_icmp .eq 9, 3) := by decide +kernel
theorem dX12_move_59 : decode cX12_move 59 = .ok (.aload_n 0, 1) := by decide +kernel
theorem dX12_move_60 : decode cX12_move 60 = .ok (.iconst 5, 1) := by decide +kernel
theorem dX12_move_61 : decode cX12_move 61 = .ok (.invokevirtual 60, 3) := by decide +kernel
theorem dX12_move_64 : decode cX12_move 64 = .ok (.ireturn, 1) := by decide +kernel
theorem dX12_move_65 : decode cX12_move 65 = .ok (.iload 5, 2) := by decide +kernel
theorem dX12_move_67 : decode cX12_move 67 = .ok (.ifCond .lt 39, 3) := by decide +kernel
theorem dX12_move_70 : decode cX12_move 70 = .ok (.iload_n 2, 1) := by decide +kernel
theorem dX12_move_71 : decode cX12_move 71 = .ok (.ifCond .lt 35, 3) := by decide +kernel
theorem dX12_move_74 : decode cX12_move 74 = .ok (.iload 4, 2) := by decide +kernel
theorem dX12_move_76 : decode cX12_move 76 = .ok (.ifCond .lt 30, 3) := by decide +kernel
theorem dX12_move_79 : decode cX12_move 79 = .ok (.iload_n 2, 1) := by decide +kernel
theorem dX12_move_80 : decode cX12_move 80 = .ok (.aload_n 0, 1) := by decide +kernel
theorem dX12_move_81 : decode cX12_move 81 = .ok (.getfield 37, 3) := by decide +kernel
theorem dX12_move_84 : decode cX12_move 84 = .ok (.iload_n 1, 1) := by decide +kernel
theorem dX12_move_85 : decode cX12_move 85 = .ok (.iaload, 1) := by decide +kernel
theorem dX12_move_86 : decode cX12_move 86 = .ok (.iload 5, 2) := by decide +kernel
theorem dX12_move_88 : decode cX12_move 88 = .ok (.isub, 1) := by decide +kernel
theorem dX12_move_89 : decode cX12_move 89 = .ok (.if_icmp .gt 17, 3) := by decide +kernel
theorem dX12_move_92 : decode cX12_move 92 = .ok (.iload 4, 2) := by decide +kernel
theorem dX12_move_94 : decode cX12_move 94 = .ok (.aload_n 0, 1) := by decide +kernel
theorem dX12_move_95 : decode cX12_move 95 = .ok (.getfield 37, 3) := by decide +kernel
theorem dX12_move_98 : decode cX12_move 98 = .ok (.iload_n 3, 1) := by decide +kernel
theorem dX12_move_99 : decode cX12_move 99 = .ok (.iaload, 1) := by decide +kernel
theorem dX12_move_100 : decode cX12_move 100 = .ok (.iload 5, 2) := by decide +kernel
theorem dX12_move_102 : decode cX12_move 102 = .ok (.isub, 1) := by decide +kernel
theorem dX12_move_103 : decode cX12_move 103 = .ok (.if_icmp .le 9, 3) := by decide +kernel
theorem dX12_move_106 : decode cX12_move 106 = .ok (.aload_n 0, 1) := by decide +kernel
theorem dX12_move_107 : decode cX12_move 107 = .ok (.iconst 1, 1) := by decide +kernel
theorem dX12_move_108 : decode cX12_move 108 = .ok (.invokevirtual 60, 3) := by decide +kernel
theorem dX12_move_111 : decode cX12_move 111 = .ok (.ireturn, 1) := by decide +kernel
theorem dX12_move_112 : decode cX12_move 112 = .ok (.iconst 0, 1) := by decide +kernel
theorem dX12_move_113 : decode cX12_move 113 = .ok (.istore 6, 2) := by decide +kernel
theorem dX12_move_115 : decode cX12_move 115 = .ok (.iload 6, 2) := by decide +kernel
theorem dX12_move_117 : decode cX12_move 117 = .ok (.iload 5, 2) := by decide +kernel
theorem dX12_move_119 : decode cX12_move 119 = .ok (.if_icmp .ge 30, 3) := by decide +kernel
theorem dX12_move_122 : decode cX12_move 122 = .ok (.aload_n 0, 1) := by decide +kernel
theorem dX12_move_123 : decode cX12_move 123 = .ok (.getfield 43, 3) := by decide +kernel
theorem dX12_move_126 : decode cX12_move 126 = .ok (.iload 6, 2) := by decide +kernel
theorem dX12_move_128 : decode cX12_move 128 = .ok (.aload_n 0, 1) := by decide +kernel
theorem dX12_move_129 : decode cX12_move 129 = .ok (.getfield 40, 3) := by decide +kernel
theorem dX12_move_132 : decode cX12_move 132 = .ok (.bipush 24, 2) := by decide +kernel
theorem dX12_move_134 : decode cX12_move 134 = .ok (.iload_n 1, 1) := by decide +kernel
theorem dX12_move_135 : decode cX12_move 135 = .ok (.imul, 1) := by decide +kernel
theorem dX12_move_136 : decode cX12_move 136 = .ok (.iload_n 2, 1) := by decide +kernel
theorem dX12_move_137 : decode cX12_move 137 = .ok (.iadd, 1) := by decide +kernel
theorem dX12_move_138 : decode cX12_move 138 = .ok (.iload 6, 2) := by decide +kernel
theorem dX12_move_140 : decode cX12_move 140 = .ok (.iadd, 1) := by decide +kernel
theorem dX12_move_141 : decode cX12_move 141 = .ok (.iaload, 1) := by decide +kernel
theorem dX12_move_142 : decode cX12_move 142 = .ok (.iastore, 1) := by decide +kernel
theorem dX12_move_143 : decode cX12_move 143 = .ok (.iinc 6 1, 3) := by decide +kernel
theorem dX12_move_146 : decode cX12_move 146 = .ok (.goto (-31), 3) := by decide +kernel
theorem dX12_move_149 : decode cX12_move 149 = .ok (.iconst 0, 1) := by decide +kernel
theorem dX12_move_150 : decode cX12_move 150 = .ok (.istore 6, 2) := by decide +kernel
theorem dX12_move_152 : decode cX12_move 152 = .ok (.iload 6, 2) := by decide +kernel
theorem dX12_move_154 : decode cX12_move 154 = .ok (.iload 5, 2) := by decide +kernel
theorem dX12_move_156 : decode cX12_move 156 = .ok (.if_icmp .ge 31, 3) := by decide +kernel
theorem dX12_move_159 : decode cX12_move 159 = .ok (.aload_n 0, 1) := by decide +kernel
theorem dX12_move_160 : decode cX12_move 160 = .ok (.getfield 40, 3) := by decide +kernel
theorem dX12_move_163 : decode cX12_move 163 = .ok (.bipush 24, 2) := by decide +kernel
theorem dX12_move_165 : decode cX12_move 165 = .ok (.iload_n 3, 1) := by decide +kernel
theorem dX12_move_166 : decode cX12_move 166 = .ok (.imul, 1) := by decide +kernel
theorem dX12_move_167 : decode cX12_move 167 = .ok (.iload 4, 2) := by decide +kernel
theorem dX12_move_169 : decode cX12_move 169 = .ok (.iadd, 1) := by decide +kernel
theorem dX12_move_170 : decode cX12_move 170 = .ok (.iload 6, 2) := by decide +kernel
theorem dX12_move_172 : decode cX12_move 172 = .ok (.iadd, 1) := by decide +kernel
theorem dX12_move_173 : decode cX12_move 173 = .ok (.aload_n 0, 1) := by decide +kernel
theorem dX12_move_174 : decode cX12_move 174 = .ok (.getfield 43, 3) := by decide +kernel
theorem dX12_move_177 : decode cX12_move 177 = .ok (.iload 6, 2) := by decide +kernel
theorem dX12_move_179 : decode cX12_move 179 = .ok (.iaload, 1) := by decide +kernel
theorem dX12_move_180 : decode cX12_move 180 = .ok (.iastore, 1) := by decide +kernel
theorem dX12_move_181 : decode cX12_move 181 = .ok (.iinc 6 1, 3) := by decide +kernel
theorem dX12_move_184 : decode cX12_move 184 = .ok (.goto (-32), 3) := by decide +kernel
theorem dX12_move_187 : decode cX12_move 187 = .ok (.iload 5, 2) := by decide +kernel
theorem dX12_move_189 : decode cX12_move 189 = .ok (.ireturn, 1) := by decide +kernel
theorem dX12_missing_0 : decode cX12_missing 0 = .ok (.aload_n 0, 1) := by decide +kernel
theorem dX12_missing_1 : decode cX12_missing 1 = .ok (.getfield 34, 3) := by decide +kernel
theorem dX12_missing_4 : decode cX12_missing 4 = .ok (.iload_n 1, 1) := by decide +kernel
theorem dX12_missing_5 : decode cX12_missing 5 = .ok (.iaload, 1) := by decide +kernel
theorem dX12_missing_6 : decode cX12_missing 6 = .ok (.ifCond .ne 11, 3) := by decide +kernel
theorem dX12_missing_9 : decode cX12_missing 9 = .ok (.aload_n 0, 1) := by decide +kernel
theorem dX12_missing_10 : decode cX12_missing 10 = .ok (.iconst 2, 1) := by decide +kernel
theorem dX12_missing_11 : decode cX12_missing 11 = .ok (.invokevirtual 60, 3) := by decide +kernel
theorem dX12_missing_14 : decode cX12_missing 14 = .ok (.goto 4, 3) := by decide +kernel
theorem dX12_missing_17 : decode cX12_missing 17 = .ok (.iconst 0, 1) := by decide +kernel
theorem dX12_missing_18 : decode cX12_missing 18 = .ok (.ireturn, 1) := by decide +kernel
theorem dX12_worths_0 : decode cX12_worths 0 = .ok (.iload_n 1, 1) := by decide +kernel
theorem dX12_worths_1 : decode cX12_worths 1 = .ok (.invokestatic 279, 3) := by decide +kernel
theorem dX12_worths_4 : decode cX12_worths 4 = .ok (.ifCond .eq 11, 3) := by decide +kernel
theorem dX12_worths_7 : decode cX12_worths 7 = .ok (.aload_n 0, 1) := by decide +kernel
theorem dX12_worths_8 : decode cX12_worths 8 = .ok (.iload_n 2, 1) := by decide +kernel
theorem dX12_worths_9 : decode cX12_worths 9 = .ok (.invokevirtual 76, 3) := by decide +kernel
theorem dX12_worths_12 : decode cX12_worths 12 = .ok (.ifCond .ne 9, 3) := by decide +kernel
theorem dX12_worths_15 : decode cX12_worths 15 = .ok (.aload_n 0, 1) := by decide +kernel
theorem dX12_worths_16 : decode cX12_worths 16 = .ok (.iconst 1, 1) := by decide +kernel
theorem dX12_worths_17 : decode cX12_worths 17 = .ok (.invokevirtual 60, 3) := by decide +kernel
theorem dX12_worths_20 : decode cX12_worths 20 = .ok (.ireturn, 1) := by decide +kernel
theorem dX12_worths_21 : decode cX12_worths 21 = .ok (.aload_n 0, 1) := by decide +kernel
theorem dX12_worths_22 : decode cX12_worths 22 = .ok (.iload_n 1, 1) := by decide +kernel
theorem dX12_worths_23 : decode cX12_worths 23 = .ok (.invokevirtual 282, 3) := by decide +kernel
theorem dX12_worths_26 : decode cX12_worths 26 = .ok (.ifCond .ge 7, 3) := by decide +kernel
theorem dX12_worths_29 : decode cX12_worths 29 = .ok (.ldc_w 285, 3) := by decide +kernel
theorem dX12_worths_32 : decode cX12_worths 32 = .ok (.ireturn, 1) := by decide +kernel
theorem dX12_worths_33 : decode cX12_worths 33 = .ok (.iconst 0, 1) := by decide +kernel
theorem dX12_worths_34 : decode cX12_worths 34 = .ok (.istore_n 3, 1) := by decide +kernel
theorem dX12_worths_35 : decode cX12_worths 35 = .ok (.iload_n 3, 1) := by decide +kernel
theorem dX12_worths_36 : decode cX12_worths 36 = .ok (.aload_n 0, 1) := by decide +kernel
theorem dX12_worths_37 : decode cX12_worths 37 = .ok (.getfield 37, 3) := by decide +kernel
theorem dX12_worths_40 : decode cX12_worths 40 = .ok (.iload_n 1, 1) := by decide +kernel
theorem dX12_worths_41 : decode cX12_worths 41 = .ok (.iaload, 1) := by decide +kernel
theorem dX12_worths_42 : decode cX12_worths 42 = .ok (.if_icmp .ge 63, 3) := by decide +kernel
theorem dX12_worths_45 : decode cX12_worths 45 = .ok (.aload_n 0, 1) := by decide +kernel
theorem dX12_worths_46 : decode cX12_worths 46 = .ok (.iload_n 3, 1) := by decide +kernel
theorem dX12_worths_47 : decode cX12_worths 47 = .ok (.invokevirtual 92, 3) := by decide +kernel
theorem dX12_worths_50 : decode cX12_worths 50 = .ok (.ifCond .eq 55, 3) := by decide +kernel
theorem dX12_worths_53 : decode cX12_worths 53 = .ok (.aload_n 0, 1) := by decide +kernel
theorem dX12_worths_54 : decode cX12_worths 54 = .ok (.getfield 40, 3) := by decide +kernel
theorem dX12_worths_57 : decode cX12_worths 57 = .ok (.bipush 24, 2) := by decide +kernel
theorem dX12_worths_59 : decode cX12_worths 59 = .ok (.iload_n 1, 1) := by decide +kernel
theorem dX12_worths_60 : decode cX12_worths 60 = .ok (.imul, 1) := by decide +kernel
theorem dX12_worths_61 : decode cX12_worths 61 = .ok (.iload_n 3, 1) := by decide +kernel
theorem dX12_worths_62 : decode cX12_worths 62 = .ok (.iadd, 1) := by decide +kernel
theorem dX12_worths_63 : decode cX12_worths 63 = .ok (.iaload, 1) := by decide +kernel
theorem dX12_worths_64 : decode cX12_worths 64 = .ok (.iconst 0, 1) := by decide +kernel
theorem dX12_worths_65 : decode cX12_worths 65 = .ok (.sipush 9999, 3) := by decide +kernel
theorem dX12_worths_68 : decode cX12_worths 68 = .ok (.invokestatic 47, 3) := by decide +kernel
theorem dX12_worths_71 : decode cX12_worths 71 = .ok (.ifCond .eq 34, 3) := by decide +kernel
theorem dX12_worths_74 : decode cX12_worths 74 = .ok (.aload_n 0, 1) := by decide +kernel
theorem dX12_worths_75 : decode cX12_worths 75 = .ok (.getfield 7, 3) := by decide +kernel
theorem dX12_worths_78 : decode cX12_worths 78 = .ok (.bipush 110, 2) := by decide +kernel
theorem dX12_worths_80 : decode cX12_worths 80 = .ok (.bipush 12, 2) := by decide +kernel
theorem dX12_worths_82 : decode cX12_worths 82 = .ok (.iload_n 2, 1) := by decide +kernel
theorem dX12_worths_83 : decode cX12_worths 83 = .ok (.imul, 1) := by decide +kernel
theorem dX12_worths_84 : decode cX12_worths 84 = .ok (.iadd, 1) := by decide +kernel
theorem dX12_worths_85 : decode cX12_worths 85 = .ok (.iload_n 3, 1) := by decide +kernel
theorem dX12_worths_86 : decode cX12_worths 86 = .ok (.iadd, 1) := by decide +kernel
theorem dX12_worths_87 : decode cX12_worths 87 = .ok (.aload_n 0, 1) := by decide +kernel
theorem dX12_worths_88 : decode cX12_worths 88 = .ok (.getfield 40, 3) := by decide +kernel
theorem dX12_worths_91 : decode cX12_worths 91 = .ok (.bipush 24, 2) := by decide +kernel
theorem dX12_worths_93 : decode cX12_worths 93 = .ok (.iload_n 1, 1) := by decide +kernel
theorem dX12_worths_94 : decode cX12_worths 94 = .ok (.imul, 1) := by decide +kernel
theorem dX12_worths_95 : decode cX12_worths 95 = .ok (.iload_n 3, 1) := by decide +kernel
theorem dX12_worths_96 : decode cX12_worths 96 = .ok (.iadd, 1) := by decide +kernel
theorem dX12_worths_97 : decode cX12_worths 97 = .ok (.iaload, 1) := by decide +kernel
theorem dX12_worths_98 : decode cX12_worths 98 = .ok (.iastore, 1) := by decide +kernel
theorem dX12_worths_99 : decode cX12_worths 99 = .ok (.iinc 3 1, 3) := by decide +kernel
theorem dX12_worths_102 : decode cX12_worths 102 = .ok (.goto (-67), 3) := by decide +kernel
theorem dX12_worths_105 : decode cX12_worths 105 = .ok (.iload_n 3, 1) := by decide +kernel
theorem dX12_worths_106 : decode cX12_worths 106 = .ok (.ireturn, 1) := by decide +kernel
theorem dX12_judge_0 : decode cX12_judge 0 = .ok (.iload_n 1, 1) := by decide +kernel
theorem dX12_judge_1 : decode cX12_judge 1 = .ok (.invokestatic 279, 3) := by decide +kernel
theorem dX12_judge_4 : decode cX12_judge 4 = .ok (.ifCond .ne 9, 3) := by decide +kernel
theorem dX12_judge_7 : decode cX12_judge 7 = .ok (.aload_n 0, 1) := by decide +kernel
theorem dX12_judge_8 : decode cX12_judge 8 = .ok (.iconst 1, 1) := by decide +kernel
theorem dX12_judge_9 : decode cX12_judge 9 = .ok (.invokevirtual 60, 3) := by decide +kernel
theorem dX12_judge_12 : decode cX12_judge 12 = .ok (.ireturn, 1) := by decide +kernel
theorem dX12_judge_13 : decode cX12_judge 13 = .ok (.aload_n 0, 1) := by decide +kernel
theorem dX12_judge_14 : decode cX12_judge 14 = .ok (.iload_n 1, 1) := by decide +kernel
theorem dX12_judge_15 : decode cX12_judge 15 = .ok (.invokevirtual 282, 3) := by decide +kernel
theorem dX12_judge_18 : decode cX12_judge 18 = .ok (.ifCond .ge 7, 3) := by decide +kernel
theorem dX12_judge_21 : decode cX12_judge 21 = .ok (.ldc_w 285, 3) := by decide +kernel
theorem dX12_judge_24 : decode cX12_judge 24 = .ok (.ireturn, 1) := by decide +kernel
theorem dX12_judge_25 : decode cX12_judge 25 = .ok (.iconst 0, 1) := by decide +kernel
theorem dX12_judge_26 : decode cX12_judge 26 = .ok (.istore_n 2, 1) := by decide +kernel
theorem dX12_judge_27 : decode cX12_judge 27 = .ok (.aload_n 0, 1) := by decide +kernel
theorem dX12_judge_28 : decode cX12_judge 28 = .ok (.iload_n 2, 1) := by decide +kernel
theorem dX12_judge_29 : decode cX12_judge 29 = .ok (.invokevirtual 92, 3) := by decide +kernel
theorem dX12_judge_32 : decode cX12_judge 32 = .ok (.ifCond .eq 38, 3) := by decide +kernel
theorem dX12_judge_35 : decode cX12_judge 35 = .ok (.iload_n 2, 1) := by decide +kernel
theorem dX12_judge_36 : decode cX12_judge 36 = .ok (.aload_n 0, 1) := by decide +kernel
theorem dX12_judge_37 : decode cX12_judge 37 = .ok (.getfield 37, 3) := by decide +kernel
theorem dX12_judge_40 : decode cX12_judge 40 = .ok (.iload_n 1, 1) := by decide +kernel
theorem dX12_judge_41 : decode cX12_judge 41 = .ok (.iaload, 1) := by decide +kernel
theorem dX12_judge_42 : decode cX12_judge 42 = .ok (.if_icmp .ge 28, 3) := by decide +kernel
theorem dX12_judge_45 : decode cX12_judge 45 = .ok (.aload_n 0, 1) := by decide +kernel
theorem dX12_judge_46 : decode cX12_judge 46 = .ok (.getfield 40, 3) := by decide +kernel
theorem dX12_judge_49 : decode cX12_judge 49 = .ok (.bipush 24, 2) := by decide +kernel
theorem dX12_judge_51 : decode cX12_judge 51 = .ok (.iload_n 1, 1) := by decide +kernel
theorem dX12_judge_52 : decode cX12_judge 52 = .ok (.imul, 1) := by decide +kernel
theorem dX12_judge_53 : decode cX12_judge 53 = .ok (.iload_n 2, 1) := by decide +kernel
theorem dX12_judge_54 : decode cX12_judge 54 = .ok (.iadd, 1) := by decide +kernel
theorem dX12_judge_55 : decode cX12_judge 55 = .ok (.iaload, 1) := by decide +kernel
theorem dX12_judge_56 : decode cX12_judge 56 = .ok (.aload_n 0, 1) := by decide +kernel
theorem dX12_judge_57 : decode cX12_judge 57 = .ok (.iload_n 2, 1) := by decide +kernel
theorem dX12_judge_58 : decode cX12_judge 58 = .ok (.invokevirtual 174, 3) := by decide +kernel
theorem dX12_judge_61 : decode cX12_judge 61 = .ok (.if_icmp .ne 9, 3) := by decide +kernel
theorem dX12_judge_64 : decode cX12_judge 64 = .ok (.iinc 2 1, 3) := by decide +kernel
theorem dX12_judge_67 : decode cX12_judge 67 = .ok (.goto (-40), 3) := by decide +kernel
theorem dX12_judge_70 : decode cX12_judge 70 = .ok (.iload_n 2, 1) := by decide +kernel
theorem dX12_judge_71 : decode cX12_judge 71 = .ok (.ireturn, 1) := by decide +kernel
theorem dX12_image_0 : decode cX12_image 0 = .ok (.aload_n 0, 1) := by decide +kernel
theorem dX12_image_1 : decode cX12_image 1 = .ok (.getfield 7, 3) := by decide +kernel
theorem dX12_image_4 : decode cX12_image 4 = .ok (.aload_n 0, 1) := by decide +kernel
theorem dX12_image_5 : decode cX12_image 5 = .ok (.getfield 13, 3) := by decide +kernel
theorem dX12_image_8 : decode cX12_image 8 = .ok (.invokestatic 241, 3) := by decide +kernel
theorem dX12_image_11 : decode cX12_image 11 = .ok (.aload_n 0, 1) := by decide +kernel
theorem dX12_image_12 : decode cX12_image 12 = .ok (.dup, 1) := by decide +kernel
theorem dX12_image_13 : decode cX12_image 13 = .ok (.getfield 286, 3) := by decide +kernel
theorem dX12_image_16 : decode cX12_image 16 = .ok (.iconst 1, 1) := by decide +kernel
theorem dX12_image_17 : decode cX12_image 17 = .ok (.iadd, 1) := by decide +kernel
theorem dX12_image_18 : decode cX12_image 18 = .ok (.putfield 286, 3) := by decide +kernel
theorem dX12_image_21 : decode cX12_image 21 = .ok (.aload_n 0, 1) := by decide +kernel
theorem dX12_image_22 : decode cX12_image 22 = .ok (.getfield 286, 3) := by decide +kernel
theorem dX12_image_25 : decode cX12_image 25 = .ok (.ireturn, 1) := by decide +kernel
theorem dX12_restore_0 : decode cX12_restore 0 = .ok (.aload_n 0, 1) := by decide +kernel
theorem dX12_restore_1 : decode cX12_restore 1 = .ok (.getfield 286, 3) := by decide +kernel
theorem dX12_restore_4 : decode cX12_restore 4 = .ok (.ifCond .ne 9, 3) := by decide +kernel
theorem dX12_restore_7 : decode cX12_restore 7 = .ok (.aload_n 0, 1) := by decide +kernel
theorem dX12_restore_8 : decode cX12_restore 8 = .ok (.iconst 2, 1) := by decide +kernel
theorem dX12_restore_9 : decode cX12_restore 9 = .ok (.invokevirtual 60, 3) := by decide +kernel
theorem dX12_restore_12 : decode cX12_restore 12 = .ok (.ireturn, 1) := by decide +kernel
theorem dX12_restore_13 : decode cX12_restore 13 = .ok (.aload_n 0, 1) := by decide +kernel
theorem dX12_restore_14 : decode cX12_restore 14 = .ok (.getfield 13, 3) := by decide +kernel
theorem dX12_restore_17 : decode cX12_restore 17 = .ok (.aload_n 0, 1) := by decide +kernel
theorem dX12_restore_18 : decode cX12_restore 18 = .ok (.getfield 7, 3) := by decide +kernel
theorem dX12_restore_21 : decode cX12_restore 21 = .ok (.invokestatic 241, 3) := by decide +kernel
theorem dX12_restore_24 : decode cX12_restore 24 = .ok (.aload_n 0, 1) := by decide +kernel
theorem dX12_restore_25 : decode cX12_restore 25 = .ok (.getfield 7, 3) := by decide +kernel
theorem dX12_restore_28 : decode cX12_restore 28 = .ok (.iconst 3, 1) := by decide +kernel
theorem dX12_restore_29 : decode cX12_restore 29 = .ok (.iaload, 1) := by decide +kernel
theorem dX12_restore_30 : decode cX12_restore 30 = .ok (.ireturn, 1) := by decide +kernel
theorem dX12_tell_0 : decode cX12_tell 0 = .ok (.aload_n 0, 1) := by decide +kernel
theorem dX12_tell_1 : decode cX12_tell 1 = .ok (.getfield 7, 3) := by decide +kernel
theorem dX12_tell_4 : decode cX12_tell 4 = .ok (.bipush 7, 2) := by decide +kernel
theorem dX12_tell_6 : decode cX12_tell 6 = .ok (.iaload, 1) := by decide +kernel
theorem dX12_tell_7 : decode cX12_tell 7 = .ok (.bipush 24, 2) := by decide +kernel
theorem dX12_tell_9 : decode cX12_tell 9 = .ok (.if_icmp .ne 9, 3) := by decide +kernel
theorem dX12_tell_12 : decode cX12_tell 12 = .ok (.aload_n 0, 1) := by decide +kernel
theorem dX12_tell_13 : decode cX12_tell 13 = .ok (.iconst 4, 1) := by decide +kernel
theorem dX12_tell_14 : decode cX12_tell 14 = .ok (.invokevirtual 60, 3) := by decide +kernel
theorem dX12_tell_17 : decode cX12_tell 17 = .ok (.ireturn, 1) := by decide +kernel
theorem dX12_tell_18 : decode cX12_tell 18 = .ok (.aload_n 0, 1) := by decide +kernel
theorem dX12_tell_19 : decode cX12_tell 19 = .ok (.getfield 7, 3) := by decide +kernel
theorem dX12_tell_22 : decode cX12_tell 22 = .ok (.sipush 492, 3) := by decide +kernel
theorem dX12_tell_25 : decode cX12_tell 25 = .ok (.aload_n 0, 1) := by decide +kernel
theorem dX12_tell_26 : decode cX12_tell 26 = .ok (.getfield 7, 3) := by decide +kernel
theorem dX12_tell_29 : decode cX12_tell 29 = .ok (.bipush 7, 2) := by decide +kernel
theorem dX12_tell_31 : decode cX12_tell 31 = .ok (.iaload, 1) := by decide +kernel
theorem dX12_tell_32 : decode cX12_tell 32 = .ok (.iadd, 1) := by decide +kernel
theorem dX12_tell_33 : decode cX12_tell 33 = .ok (.iload_n 1, 1) := by decide +kernel
theorem dX12_tell_34 : decode cX12_tell 34 = .ok (.iastore, 1) := by decide +kernel
theorem dX12_tell_35 : decode cX12_tell 35 = .ok (.aload_n 0, 1) := by decide +kernel
theorem dX12_tell_36 : decode cX12_tell 36 = .ok (.getfield 7, 3) := by decide +kernel
theorem dX12_tell_39 : decode cX12_tell 39 = .ok (.bipush 7, 2) := by decide +kernel
theorem dX12_tell_41 : decode cX12_tell 41 = .ok (.dup2, 1) := by decide +kernel
theorem dX12_tell_42 : decode cX12_tell 42 = .ok (.iaload, 1) := by decide +kernel
theorem dX12_tell_43 : decode cX12_tell 43 = .ok (.iconst 1, 1) := by decide +kernel
theorem dX12_tell_44 : decode cX12_tell 44 = .ok (.iadd, 1) := by decide +kernel
theorem dX12_tell_45 : decode cX12_tell 45 = .ok (.iastore, 1) := by decide +kernel
theorem dX12_tell_46 : decode cX12_tell 46 = .ok (.aload_n 0, 1) := by decide +kernel
theorem dX12_tell_47 : decode cX12_tell 47 = .ok (.getfield 7, 3) := by decide +kernel
theorem dX12_tell_50 : decode cX12_tell 50 = .ok (.bipush 7, 2) := by decide +kernel
theorem dX12_tell_52 : decode cX12_tell 52 = .ok (.iaload, 1) := by decide +kernel
theorem dX12_tell_53 : decode cX12_tell 53 = .ok (.ireturn, 1) := by decide +kernel
theorem dX12_check_0 : decode cX12_check 0 = .ok (.aload_n 0, 1) := by decide +kernel
theorem dX12_check_1 : decode cX12_check 1 = .ok (.getfield 7, 3) := by decide +kernel
theorem dX12_check_4 : decode cX12_check 4 = .ok (.bipush 7, 2) := by decide +kernel
theorem dX12_check_6 : decode cX12_check 6 = .ok (.iaload, 1) := by decide +kernel
theorem dX12_check_7 : decode cX12_check 7 = .ok (.istore_n 2, 1) := by decide +kernel
theorem dX12_check_8 : decode cX12_check 8 = .ok (.aload_n 0, 1) := by decide +kernel
theorem dX12_check_9 : decode cX12_check 9 = .ok (.getfield 7, 3) := by decide +kernel
theorem dX12_check_12 : decode cX12_check 12 = .ok (.bipush 7, 2) := by decide +kernel
theorem dX12_check_14 : decode cX12_check 14 = .ok (.iconst 0, 1) := by decide +kernel
theorem dX12_check_15 : decode cX12_check 15 = .ok (.iastore, 1) := by decide +kernel
theorem dX12_check_16 : decode cX12_check 16 = .ok (.aload_n 0, 1) := by decide +kernel
theorem dX12_check_17 : decode cX12_check 17 = .ok (.iload_n 1, 1) := by decide +kernel
theorem dX12_check_18 : decode cX12_check 18 = .ok (.invokevirtual 76, 3) := by decide +kernel
theorem dX12_check_21 : decode cX12_check 21 = .ok (.ifCond .ne 9, 3) := by decide +kernel
theorem dX12_check_24 : decode cX12_check 24 = .ok (.aload_n 0, 1) := by decide +kernel
theorem dX12_check_25 : decode cX12_check 25 = .ok (.iconst 1, 1) := by decide +kernel
theorem dX12_check_26 : decode cX12_check 26 = .ok (.invokevirtual 60, 3) := by decide +kernel
theorem dX12_check_29 : decode cX12_check 29 = .ok (.ireturn, 1) := by decide +kernel
theorem dX12_check_30 : decode cX12_check 30 = .ok (.iconst 0, 1) := by decide +kernel
theorem dX12_check_31 : decode cX12_check 31 = .ok (.istore_n 3, 1) := by decide +kernel
theorem dX12_check_32 : decode cX12_check 32 = .ok (.iconst 1, 1) := by decide +kernel
theorem dX12_check_33 : decode cX12_check 33 = .ok (.istore 4, 2) := by decide +kernel
theorem dX12_check_35 : decode cX12_check 35 = .ok (.iconst 0, 1) := by decide +kernel
theorem dX12_check_36 : decode cX12_check 36 = .ok (.istore 5, 2) := by decide +kernel
theorem dX12_check_38 : decode cX12_check 38 = .ok (.iload 5, 2) := by decide +kernel
theorem dX12_check_40 : decode cX12_check 40 = .ok (.aload_n 0, 1) := by decide +kernel
theorem dX12_check_41 : decode cX12_check 41 = .ok (.getfield 7, 3) := by decide +kernel
theorem dX12_check_44 : decode cX12_check 44 = .ok (.iconst 1, 1) := by decide +kernel
theorem dX12_check_45 : decode cX12_check 45 = .ok (.iaload, 1) := by decide +kernel
theorem dX12_check_46 : decode cX12_check 46 = .ok (.if_icmp .ge 64, 3) := by decide +kernel
theorem dX12_check_49 : decode cX12_check 49 = .ok (.iload 4, 2) := by decide +kernel
theorem dX12_check_51 : decode cX12_check 51 = .ok (.ifCond .eq 59, 3) := by decide +kernel
theorem dX12_check_54 : decode cX12_check 54 = .ok (.aload_n 0, 1) := by decide +kernel
theorem dX12_check_55 : decode cX12_check 55 = .ok (.iload 5, 2) := by decide +kernel
theorem dX12_check_57 : decode cX12_check 57 = .ok (.invokevirtual 67, 3) := by decide +kernel
theorem dX12_check_60 : decode cX12_check 60 = .ok (.iload_n 1, 1) := by decide +kernel
theorem dX12_check_61 : decode cX12_check 61 = .ok (.if_icmp .ne 43, 3) := by decide +kernel
theorem dX12_check_64 : decode cX12_check 64 = .ok (.iload_n 3, 1) := by decide +kernel
theorem dX12_check_65 : decode cX12_check 65 = .ok (.iload_n 2, 1) := by decide +kernel
theorem dX12_check_66 : decode cX12_check 66 = .ok (.if_icmp .ge 22, 3) := by decide +kernel
theorem dX12_check_69 : decode cX12_check 69 = .ok (.aload_n 0, 1) := by decide +kernel
theorem dX12_check_70 : decode cX12_check 70 = .ok (.getfield 7, 3) := by decide +kernel
theorem dX12_check_73 : decode cX12_check 73 = .ok (.sipush 492, 3) := by decide +kernel
theorem dX12_check_76 : decode cX12_check 76 = .ok (.iload_n 3, 1) := by decide +kernel
theorem dX12_check_77 : decode cX12_check 77 = .ok (.iadd, 1) := by decide +kernel
theorem dX12_check_78 : decode cX12_check 78 = .ok (.iaload, 1) := by decide +kernel
theorem dX12_check_79 : decode cX12_check 79 = .ok (.iload 5, 2) := by decide +kernel
theorem dX12_check_81 : decode cX12_check 81 = .ok (.if_icmp .ne 7, 3) := by decide +kernel
theorem dX12_check_84 : decode cX12_check 84 = .ok (.iconst 1, 1) := by decide +kernel
theorem dX12_check_85 : decode cX12_check 85 = .ok (.goto 4, 3) := by decide +kernel
theorem dX12_check_88 : decode cX12_check 88 = .ok (.iconst 0, 1) := by decide +kernel
theorem dX12_check_89 : decode cX12_check 89 = .ok (.istore 4, 2) := by decide +kernel
theorem dX12_check_91 : decode cX12_check 91 = .ok (.iload_n 3, 1) := by decide +kernel
theorem dX12_check_92 : decode cX12_check 92 = .ok (.iload 4, 2) := by decide +kernel
theorem dX12_check_94 : decode cX12_check 94 = .ok (.ifCond .eq 7, 3) := by decide +kernel
theorem dX12_check_97 : decode cX12_check 97 = .ok (.iconst 1, 1) := by decide +kernel
theorem dX12_check_98 : decode cX12_check 98 = .ok (.goto 4, 3) := by decide +kernel
theorem dX12_check_101 : decode cX12_check 101 = .ok (.iconst 0, 1) := by decide +kernel
theorem dX12_check_102 : decode cX12_check 102 = .ok (.iadd, 1) := by decide +kernel
theorem dX12_check_103 : decode cX12_check 103 = .ok (.istore_n 3, 1) := by decide +kernel
theorem dX12_check_104 : decode cX12_check 104 = .ok (.iinc 5 1, 3) := by decide +kernel
theorem dX12_check_107 : decode cX12_check 107 = .ok (.goto (-69), 3) := by decide +kernel
theorem dX12_check_110 : decode cX12_check 110 = .ok (.iload 4, 2) := by decide +kernel
theorem dX12_check_112 : decode cX12_check 112 = .ok (.ifCond .eq 12, 3) := by decide +kernel
theorem dX12_check_115 : decode cX12_check 115 = .ok (.iload_n 3, 1) := by decide +kernel
theorem dX12_check_116 : decode cX12_check 116 = .ok (.iload_n 2, 1) := by decide +kernel
theorem dX12_check_117 : decode cX12_check 117 = .ok (.if_icmp .ne 7, 3) := by decide +kernel
theorem dX12_check_120 : decode cX12_check 120 = .ok (.iconst 0, 1) := by decide +kernel
theorem dX12_check_121 : decode cX12_check 121 = .ok (.goto 6, 3) := by decide +kernel
theorem dX12_check_124 : decode cX12_check 124 = .ok (.iconst 1, 1) := by decide +kernel
theorem dX12_check_125 : decode cX12_check 125 = .ok (.iload_n 3, 1) := by decide +kernel
theorem dX12_check_126 : decode cX12_check 126 = .ok (.iadd, 1) := by decide +kernel
theorem dX12_check_127 : decode cX12_check 127 = .ok (.ireturn, 1) := by decide +kernel
theorem dX12_count_0 : decode cX12_count 0 = .ok (.iload_n 1, 1) := by decide +kernel
theorem dX12_count_1 : decode cX12_count 1 = .ok (.tableswitch 104 0 7 #[47, 54, 61, 68, 75, 83, 91, 96], 47) := by decide +kernel
theorem dX12_count_48 : decode cX12_count 48 = .ok (.aload_n 0, 1) := by decide +kernel
theorem dX12_count_49 : decode cX12_count 49 = .ok (.getfield 7, 3) := by decide +kernel
theorem dX12_count_52 : decode cX12_count 52 = .ok (.iconst 0, 1) := by decide +kernel
theorem dX12_count_53 : decode cX12_count 53 = .ok (.iaload, 1) := by decide +kernel
theorem dX12_count_54 : decode cX12_count 54 = .ok (.ireturn, 1) := by decide +kernel
theorem dX12_count_55 : decode cX12_count 55 = .ok (.aload_n 0, 1) := by decide +kernel
theorem dX12_count_56 : decode cX12_count 56 = .ok (.getfield 7, 3) := by decide +kernel
theorem dX12_count_59 : decode cX12_count 59 = .ok (.iconst 1, 1) := by decide +kernel
theorem dX12_count_60 : decode cX12_count 60 = .ok (.iaload, 1) := by decide +kernel
theorem dX12_count_61 : decode cX12_count 61 = .ok (.ireturn, 1) := by decide +kernel
theorem dX12_count_62 : decode cX12_count 62 = .ok (.aload_n 0, 1) := by decide +kernel
theorem dX12_count_63 : decode cX12_count 63 = .ok (.getfield 7, 3) := by decide +kernel
theorem dX12_count_66 : decode cX12_count 66 = .ok (.iconst 2, 1) := by decide +kernel
theorem dX12_count_67 : decode cX12_count 67 = .ok (.iaload, 1) := by decide +kernel
theorem dX12_count_68 : decode cX12_count 68 = .ok (.ireturn, 1) := by decide +kernel
theorem dX12_count_69 : decode cX12_count 69 = .ok (.aload_n 0, 1) := by decide +kernel
theorem dX12_count_70 : decode cX12_count 70 = .ok (.getfield 7, 3) := by decide +kernel
theorem dX12_count_73 : decode cX12_count 73 = .ok (.iconst 3, 1) := by decide +kernel
theorem dX12_count_74 : decode cX12_count 74 = .ok (.iaload, 1) := by decide +kernel
theorem dX12_count_75 : decode cX12_count 75 = .ok (.ireturn, 1) := by decide +kernel
theorem dX12_count_76 : decode cX12_count 76 = .ok (.aload_n 0, 1) := by decide +kernel
theorem dX12_count_77 : decode cX12_count 77 = .ok (.getfield 7, 3) := by decide +kernel
theorem dX12_count_80 : decode cX12_count 80 = .ok (.bipush 6, 2) := by decide +kernel
theorem dX12_count_82 : decode cX12_count 82 = .ok (.iaload, 1) := by decide +kernel
theorem dX12_count_83 : decode cX12_count 83 = .ok (.ireturn, 1) := by decide +kernel
theorem dX12_count_84 : decode cX12_count 84 = .ok (.aload_n 0, 1) := by decide +kernel
theorem dX12_count_85 : decode cX12_count 85 = .ok (.getfield 7, 3) := by decide +kernel
theorem dX12_count_88 : decode cX12_count 88 = .ok (.bipush 7, 2) := by decide +kernel
theorem dX12_count_90 : decode cX12_count 90 = .ok (.iaload, 1) := by decide +kernel
theorem dX12_count_91 : decode cX12_count 91 = .ok (.ireturn, 1) := by decide +kernel
theorem dX12_count_92 : decode cX12_count 92 = .ok (.aload_n 0, 1) := by decide +kernel
theorem dX12_count_93 : decode cX12_count 93 = .ok (.getfield 245, 3) := by decide +kernel
theorem dX12_count_96 : decode cX12_count 96 = .ok (.ireturn, 1) := by decide +kernel
theorem dX12_count_97 : decode cX12_count 97 = .ok (.aload_n 0, 1) := by decide +kernel
theorem dX12_count_98 : decode cX12_count 98 = .ok (.getfield 7, 3) := by decide +kernel
theorem dX12_count_101 : decode cX12_count 101 = .ok (.bipush 8, 2) := by decide +kernel
theorem dX12_count_103 : decode cX12_count 103 = .ok (.iaload, 1) := by decide +kernel
theorem dX12_count_104 : decode cX12_count 104 = .ok (.ireturn, 1) := by decide +kernel
theorem dX12_count_105 : decode cX12_count 105 = .ok (.aload_n 0, 1) := by decide +kernel
theorem dX12_count_106 : decode cX12_count 106 = .ok (.iconst 1, 1) := by decide +kernel
theorem dX12_count_107 : decode cX12_count 107 = .ok (.invokevirtual 60, 3) := by decide +kernel
theorem dX12_count_110 : decode cX12_count 110 = .ok (.ireturn, 1) := by decide +kernel
theorem dX12_told_0 : decode cX12_told 0 = .ok (.iload_n 1, 1) := by decide +kernel
theorem dX12_told_1 : decode cX12_told 1 = .ok (.iconst 1, 1) := by decide +kernel
theorem dX12_told_2 : decode cX12_told 2 = .ok (.bipush 6, 2) := by decide +kernel
theorem dX12_told_4 : decode cX12_told 4 = .ok (.invokestatic 47, 3) := by decide +kernel
theorem dX12_told_7 : decode cX12_told 7 = .ok (.ifCond .eq 12, 3) := by decide +kernel
theorem dX12_told_10 : decode cX12_told 10 = .ok (.aload_n 0, 1) := by decide +kernel
theorem dX12_told_11 : decode cX12_told 11 = .ok (.getfield 19, 3) := by decide +kernel
theorem dX12_told_14 : decode cX12_told 14 = .ok (.iload_n 1, 1) := by decide +kernel
theorem dX12_told_15 : decode cX12_told 15 = .ok (.iaload, 1) := by decide +kernel
theorem dX12_told_16 : decode cX12_told 16 = .ok (.goto 8, 3) := by decide +kernel
theorem dX12_told_19 : decode cX12_told 19 = .ok (.aload_n 0, 1) := by decide +kernel
theorem dX12_told_20 : decode cX12_told 20 = .ok (.iconst 1, 1) := by decide +kernel
theorem dX12_told_21 : decode cX12_told 21 = .ok (.invokevirtual 60, 3) := by decide +kernel
theorem dX12_told_24 : decode cX12_told 24 = .ok (.ireturn, 1) := by decide +kernel
