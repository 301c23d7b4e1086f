theorem dX12_init_0 : decode cX12_init 0 = .ok (.aload_n 0, 1) := by decide +kernel
theorem dX12_init_1 : decode cX12_init 1 = .ok (.invokespecial 1, 3) := by decide +kernel
theorem dX12_init_4 : decode cX12_init 4 = .ok (.aload_n 0, 1) := by decide +kernel
theorem dX12_init_5 : decode cX12_init 5 = .ok (.sipush 516, 3) := by decide +kernel
theorem dX12_init_8 : decode cX12_init 8 = .ok (.newarray .int, 2) := by decide +kernel
theorem dX12_init_10 : decode cX12_init 10 = .ok (.putfield 7, 3) := by decide +kernel
theorem dX12_init_13 : decode cX12_init 13 = .ok (.aload_n 0, 1) := by decide +kernel
theorem dX12_init_14 : decode cX12_init 14 = .ok (.sipush 516, 3) := by decide +kernel
theorem dX12_init_17 : decode cX12_init 17 = .ok (.newarray .int, 2) := by decide +kernel
theorem dX12_init_19 : decode cX12_init 19 = .ok (.putfield 13, 3) := by decide +kernel
theorem dX12_init_22 : decode cX12_init 22 = .ok (.aload_n 0, 1) := by decide +kernel
theorem dX12_init_23 : decode cX12_init 23 = .ok (.sipush 516, 3) := by decide +kernel
theorem dX12_init_26 : decode cX12_init 26 = .ok (.newarray .int, 2) := by decide +kernel
theorem dX12_init_28 : decode cX12_init 28 = .ok (.putfield 16, 3) := by decide +kernel
theorem dX12_init_31 : decode cX12_init 31 = .ok (.aload_n 0, 1) := by decide +kernel
theorem dX12_init_32 : decode cX12_init 32 = .ok (.bipush 7, 2) := by decide +kernel
theorem dX12_init_34 : decode cX12_init 34 = .ok (.newarray .int, 2) := by decide +kernel
theorem dX12_init_36 : decode cX12_init 36 = .ok (.putfield 19, 3) := by decide +kernel
theorem dX12_init_39 : decode cX12_init 39 = .ok (.aload_n 0, 1) := by decide +kernel
theorem dX12_init_40 : decode cX12_init 40 = .ok (.bipush 124, 2) := by decide +kernel
theorem dX12_init_42 : decode cX12_init 42 = .ok (.newarray .int, 2) := by decide +kernel
theorem dX12_init_44 : decode cX12_init 44 = .ok (.putfield 22, 3) := by decide +kernel
theorem dX12_init_47 : decode cX12_init 47 = .ok (.aload_n 0, 1) := by decide +kernel
theorem dX12_init_48 : decode cX12_init 48 = .ok (.sipush 128, 3) := by decide +kernel
theorem dX12_init_51 : decode cX12_init 51 = .ok (.newarray .int, 2) := by decide +kernel
theorem dX12_init_53 : decode cX12_init 53 = .ok (.putfield 25, 3) := by decide +kernel
theorem dX12_init_56 : decode cX12_init 56 = .ok (.aload_n 0, 1) := by decide +kernel
theorem dX12_init_57 : decode cX12_init 57 = .ok (.bipush 64, 2) := by decide +kernel
theorem dX12_init_59 : decode cX12_init 59 = .ok (.newarray .int, 2) := by decide +kernel
theorem dX12_init_61 : decode cX12_init 61 = .ok (.putfield 28, 3) := by decide +kernel
theorem dX12_init_64 : decode cX12_init 64 = .ok (.aload_n 0, 1) := by decide +kernel
theorem dX12_init_65 : decode cX12_init 65 = .ok (.bipush 30, 2) := by decide +kernel
theorem dX12_init_67 : decode cX12_init 67 = .ok (.newarray .int, 2) := by decide +kernel
theorem dX12_init_69 : decode cX12_init 69 = .ok (.putfield 31, 3) := by decide +kernel
theorem dX12_init_72 : decode cX12_init 72 = .ok (.aload_n 0, 1) := by decide +kernel
theorem dX12_init_73 : decode cX12_init 73 = .ok (.iconst 4, 1) := by decide +kernel
theorem dX12_init_74 : decode cX12_init 74 = .ok (.newarray .int, 2) := by decide +kernel
theorem dX12_init_76 : decode cX12_init 76 = .ok (.putfield 34, 3) := by decide +kernel
theorem dX12_init_79 : decode cX12_init 79 = .ok (.aload_n 0, 1) := by decide +kernel
theorem dX12_init_80 : decode cX12_init 80 = .ok (.iconst 4, 1) := by decide +kernel
theorem dX12_init_81 : decode cX12_init 81 = .ok (.newarray .int, 2) := by decide +kernel
theorem dX12_init_83 : decode cX12_init 83 = .ok (.putfield 37, 3) := by decide +kernel
theorem dX12_init_86 : decode cX12_init 86 = .ok (.aload_n 0, 1) := by decide +kernel
theorem dX12_init_87 : decode cX12_init 87 = .ok (.bipush 96, 2) := by decide +kernel
theorem dX12_init_89 : decode cX12_init 89 = .ok (.newarray .int, 2) := by decide +kernel
theorem dX12_init_91 : decode cX12_init 91 = .ok (.putfield 40, 3) := by decide +kernel
theorem dX12_init_94 : decode cX12_init 94 = .ok (.aload_n 0, 1) := by decide +kernel
theorem dX12_init_95 : decode cX12_init 95 = .ok (.bipush 24, 2) := by decide +kernel
theorem dX12_init_97 : decode cX12_init 97 = .ok (.newarray .int, 2) := by decide +kernel
theorem dX12_init_99 : decode cX12_init 99 = .ok (.putfield 43, 3) := by decide +kernel
theorem dX12_init_102 : decode cX12_init 102 = .ok (.aload_n 0, 1) := by decide +kernel
theorem dX12_init_103 : decode cX12_init 103 = .ok (.getfield 7, 3) := by decide +kernel
theorem dX12_init_106 : decode cX12_init 106 = .ok (.bipush 8, 2) := by decide +kernel
theorem dX12_init_108 : decode cX12_init 108 = .ok (.iconst 1, 1) := by decide +kernel
theorem dX12_init_109 : decode cX12_init 109 = .ok (.iastore, 1) := by decide +kernel
theorem dX12_init_110 : decode cX12_init 110 = .ok (.aload_n 0, 1) := by decide +kernel
theorem dX12_init_111 : decode cX12_init 111 = .ok (.getfield 7, 3) := by decide +kernel
theorem dX12_init_114 : decode cX12_init 114 = .ok (.bipush 10, 2) := by decide +kernel
theorem dX12_init_116 : decode cX12_init 116 = .ok (.iconst 5, 1) := by decide +kernel
theorem dX12_init_117 : decode cX12_init 117 = .ok (.iastore, 1) := by decide +kernel
theorem dX12_init_118 : decode cX12_init 118 = .ok (.aload_n 0, 1) := by decide +kernel
theorem dX12_init_119 : decode cX12_init 119 = .ok (.getfield 7, 3) := by decide +kernel
theorem dX12_init_122 : decode cX12_init 122 = .ok (.bipush 11, 2) := by decide +kernel
theorem dX12_init_124 : decode cX12_init 124 = .ok (.bipush 10, 2) := by decide +kernel
theorem dX12_init_126 : decode cX12_init 126 = .ok (.iastore, 1) := by decide +kernel
theorem dX12_init_127 : decode cX12_init 127 = .ok (.aload_n 0, 1) := by decide +kernel
theorem dX12_init_128 : decode cX12_init 128 = .ok (.getfield 7, 3) := by decide +kernel
theorem dX12_init_131 : decode cX12_init 131 = .ok (.bipush 13, 2) := by decide +kernel
theorem dX12_init_133 : decode cX12_init 133 = .ok (.iconst 1, 1) := by decide +kernel
theorem dX12_init_134 : decode cX12_init 134 = .ok (.iastore, 1) := by decide +kernel
theorem dX12_init_135 : decode cX12_init 135 = .ok (.aload_n 0, 1) := by decide +kernel
theorem dX12_init_136 : decode cX12_init 136 = .ok (.getfield 7, 3) := by decide +kernel
theorem dX12_init_139 : decode cX12_init 139 = .ok (.bipush 14, 2) := by decide +kernel
theorem dX12_init_141 : decode cX12_init 141 = .ok (.bipush 20, 2) := by decide +kernel
theorem dX12_init_143 : decode cX12_init 143 = .ok (.iastore, 1) := by decide +kernel
theorem dX12_init_144 : decode cX12_init 144 = .ok (.return_, 1) := by decide +kernel
theorem dX12_error_0 : decode cX12_error 0 = .ok (.aload_n 0, 1) := by decide +kernel
theorem dX12_error_1 : decode cX12_error 1 = .ok (.getfield 19, 3) := by decide +kernel
theorem dX12_error_4 : decode cX12_error 4 = .ok (.iload_n 1, 1) := by decide +kernel
theorem dX12_error_5 : decode cX12_error 5 = .ok (.dup2, 1) := by decide +kernel
theorem dX12_error_6 : decode cX12_error 6 = .ok (.iaload, 1) := by decide +kernel
theorem dX12_error_7 : decode cX12_error 7 = .ok (.iconst 1, 1) := by decide +kernel
theorem dX12_error_8 : decode cX12_error 8 = .ok (.iadd, 1) := by decide +kernel
theorem dX12_error_9 : decode cX12_error 9 = .ok (.iastore, 1) := by decide +kernel
theorem dX12_error_10 : decode cX12_error 10 = .ok (.ldc 46, 2) := by decide +kernel
theorem dX12_error_12 : decode cX12_error 12 = .ok (.iload_n 1, 1) := by decide +kernel
theorem dX12_error_13 : decode cX12_error 13 = .ok (.isub, 1) := by decide +kernel
theorem dX12_error_14 : decode cX12_error 14 = .ok (.ireturn, 1) := by decide +kernel
theorem dX12_in_0 : decode cX12_in 0 = .ok (.iload_n 0, 1) := by decide +kernel
theorem dX12_in_1 : decode cX12_in 1 = .ok (.iload_n 1, 1) := by decide +kernel
theorem dX12_in_2 : decode cX12_in 2 = .ok (.if_icmp .lt 12, 3) := by decide +kernel
theorem dX12_in_5 : decode cX12_in 5 = .ok (.iload_n 0, 1) := by decide +kernel
theorem dX12_in_6 : decode cX12_in 6 = .ok (.iload_n 2, 1) := by decide +kernel
theorem dX12_in_7 : decode cX12_in 7 = .ok (.if_icmp .gt 7, 3) := by decide +kernel
theorem dX12_in_10 : decode cX12_in 10 = .ok (.iconst 1, 1) := by decide +kernel
theorem dX12_in_11 : decode cX12_in 11 = .ok (.goto 4, 3) := by decide +kernel
theorem dX12_in_14 : decode cX12_in 14 = .ok (.iconst 0, 1) := by decide +kernel
theorem dX12_in_15 : decode cX12_in 15 = .ok (.ireturn, 1) := by decide +kernel
theorem dX12_held_0 : decode cX12_held 0 = .ok (.iload_n 0, 1) := by decide +kernel
theorem dX12_held_1 : decode cX12_held 1 = .ok (.iload_n 1, 1) := by decide +kernel
theorem dX12_held_2 : decode cX12_held 2 = .ok (.if_icmp .ge 7, 3) := by decide +kernel
theorem dX12_held_5 : decode cX12_held 5 = .ok (.iload_n 1, 1) := by decide +kernel
theorem dX12_held_6 : decode cX12_held 6 = .ok (.goto 13, 3) := by decide +kernel
theorem dX12_held_9 : decode cX12_held 9 = .ok (.iload_n 0, 1) := by decide +kernel
theorem dX12_held_10 : decode cX12_held 10 = .ok (.iload_n 2, 1) := by decide +kernel
theorem dX12_held_11 : decode cX12_held 11 = .ok (.if_icmp .le 7, 3) := by decide +kernel
theorem dX12_held_14 : decode cX12_held 14 = .ok (.iload_n 2, 1) := by decide +kernel
theorem dX12_held_15 : decode cX12_held 15 = .ok (.goto 4, 3) := by decide +kernel
theorem dX12_held_18 : decode cX12_held 18 = .ok (.iload_n 0, 1) := by decide +kernel
theorem dX12_held_19 : decode cX12_held 19 = .ok (.ireturn, 1) := by decide +kernel
theorem dX12_lay_0 : decode cX12_lay 0 = .ok (.iconst 0, 1) := by decide +kernel
theorem dX12_lay_1 : decode cX12_lay 1 = .ok (.istore_n 2, 1) := by decide +kernel
theorem dX12_lay_2 : decode cX12_lay 2 = .ok (.iload_n 2, 1) := by decide +kernel
theorem dX12_lay_3 : decode cX12_lay 3 = .ok (.sipush 516, 3) := by decide +kernel
theorem dX12_lay_6 : decode cX12_lay 6 = .ok (.if_icmp .ge 15, 3) := by decide +kernel
theorem dX12_lay_9 : decode cX12_lay 9 = .ok (.aload_n 1, 1) := by decide +kernel
theorem dX12_lay_10 : decode cX12_lay 10 = .ok (.iload_n 2, 1) := by decide +kernel
theorem dX12_lay_11 : decode cX12_lay 11 = .ok (.aload_n 0, 1) := by decide +kernel
theorem dX12_lay_12 : decode cX12_lay 12 = .ok (.iload_n 2, 1) := by decide +kernel
theorem dX12_lay_13 : decode cX12_lay 13 = .ok (.iaload, 1) := by decide +kernel
theorem dX12_lay_14 : decode cX12_lay 14 = .ok (.iastore, 1) := by decide +kernel
theorem dX12_lay_15 : decode cX12_lay 15 = .ok (.iinc 2 1, 3) := by decide +kernel
theorem dX12_lay_18 : decode cX12_lay 18 = .ok (.goto (-16), 3) := by decide +kernel
theorem dX12_lay_21 : decode cX12_lay 21 = .ok (.return_, 1) := by decide +kernel
theorem dX12_isPerson_0 : decode cX12_isPerson 0 = .ok (.iload_n 1, 1) := by decide +kernel
theorem dX12_isPerson_1 : decode cX12_isPerson 1 = .ok (.iconst 0, 1) := by decide +kernel
theorem dX12_isPerson_2 : decode cX12_isPerson 2 = .ok (.aload_n 0, 1) := by decide +kernel
theorem dX12_isPerson_3 : decode cX12_isPerson 3 = .ok (.getfield 7, 3) := by decide +kernel
theorem dX12_isPerson_6 : decode cX12_isPerson 6 = .ok (.iconst 0, 1) := by decide +kernel
theorem dX12_isPerson_7 : decode cX12_isPerson 7 = .ok (.iaload, 1) := by decide +kernel
theorem dX12_isPerson_8 : decode cX12_isPerson 8 = .ok (.iconst 1, 1) := by decide +kernel
theorem dX12_isPerson_9 : decode cX12_isPerson 9 = .ok (.isub, 1) := by decide +kernel
theorem dX12_isPerson_10 : decode cX12_isPerson 10 = .ok (.invokestatic 47, 3) := by decide +kernel
theorem dX12_isPerson_13 : decode cX12_isPerson 13 = .ok (.ireturn, 1) := by decide +kernel
theorem dX12_isThing_0 : decode cX12_isThing 0 = .ok (.iload_n 1, 1) := by decide +kernel
theorem dX12_isThing_1 : decode cX12_isThing 1 = .ok (.iconst 0, 1) := by decide +kernel
theorem dX12_isThing_2 : decode cX12_isThing 2 = .ok (.aload_n 0, 1) := by decide +kernel
theorem dX12_isThing_3 : decode cX12_isThing 3 = .ok (.getfield 7, 3) := by decide +kernel
theorem dX12_isThing_6 : decode cX12_isThing 6 = .ok (.iconst 1, 1) := by decide +kernel
theorem dX12_isThing_7 : decode cX12_isThing 7 = .ok (.iaload, 1) := by decide +kernel
theorem dX12_isThing_8 : decode cX12_isThing 8 = .ok (.iconst 1, 1) := by decide +kernel
theorem dX12_isThing_9 : decode cX12_isThing 9 = .ok (.isub, 1) := by decide +kernel
theorem dX12_isThing_10 : decode cX12_isThing 10 = .ok (.invokestatic 47, 3) := by decide +kernel
theorem dX12_isThing_13 : decode cX12_isThing 13 = .ok (.ireturn, 1) := by decide +kernel
theorem dX12_who_0 : decode cX12_who 0 = .ok (.aload_n 0, 1) := by decide +kernel
theorem dX12_who_1 : decode cX12_who 1 = .ok (.getfield 7, 3) := by decide +kernel
theorem dX12_who_4 : decode cX12_who 4 = .ok (.bipush 20, 2) := by decide +kernel
theorem dX12_who_6 : decode cX12_who 6 = .ok (.iconst 4, 1) := by decide +kernel
theorem dX12_who_7 : decode cX12_who 7 = .ok (.iload_n 1, 1) := by decide +kernel
theorem dX12_who_8 : decode cX12_who 8 = .ok (.imul, 1) := by decide +kernel
theorem dX12_who_9 : decode cX12_who 9 = .ok (.iadd, 1) := by decide +kernel
theorem dX12_who_10 : decode cX12_who 10 = .ok (.iload_n 2, 1) := by decide +kernel
theorem dX12_who_11 : decode cX12_who 11 = .ok (.iadd, 1) := by decide +kernel
theorem dX12_who_12 : decode cX12_who 12 = .ok (.iaload, 1) := by decide +kernel
theorem dX12_who_13 : decode cX12_who 13 = .ok (.ireturn, 1) := by decide +kernel
theorem dX12_its_0 : decode cX12_its 0 = .ok (.aload_n 0, 1) := by decide +kernel
theorem dX12_its_1 : decode cX12_its 1 = .ok (.getfield 7, 3) := by decide +kernel
theorem dX12_its_4 : decode cX12_its 4 = .ok (.bipush 44, 2) := by decide +kernel
theorem dX12_its_6 : decode cX12_its 6 = .ok (.iconst 4, 1) := by decide +kernel
theorem dX12_its_7 : decode cX12_its 7 = .ok (.iload_n 1, 1) := by decide +kernel
theorem dX12_its_8 : decode cX12_its 8 = .ok (.imul, 1) := by decide +kernel
theorem dX12_its_9 : decode cX12_its 9 = .ok (.iadd, 1) := by decide +kernel
theorem dX12_its_10 : decode cX12_its 10 = .ok (.iload_n 2, 1) := by decide +kernel
theorem dX12_its_11 : decode cX12_its 11 = .ok (.iadd, 1) := by decide +kernel
theorem dX12_its_12 : decode cX12_its 12 = .ok (.iaload, 1) := by decide +kernel
theorem dX12_its_13 : decode cX12_its 13 = .ok (.ireturn, 1) := by decide +kernel
theorem dX12_owner_0 : decode cX12_owner 0 = .ok (.aload_n 0, 1) := by decide +kernel
theorem dX12_owner_1 : decode cX12_owner 1 = .ok (.iload_n 1, 1) := by decide +kernel
theorem dX12_owner_2 : decode cX12_owner 2 = .ok (.iconst 0, 1) := by decide +kernel
theorem dX12_owner_3 : decode cX12_owner 3 = .ok (.invokevirtual 51, 3) := by decide +kernel
theorem dX12_owner_6 : decode cX12_owner 6 = .ok (.ireturn, 1) := by decide +kernel
theorem dX12_valueTo_0 : decode cX12_valueTo 0 = .ok (.aload_n 0, 1) := by decide +kernel
theorem dX12_valueTo_1 : decode cX12_valueTo 1 = .ok (.getfield 7, 3) := by decide +kernel
theorem dX12_valueTo_4 : decode cX12_valueTo 4 = .ok (.bipush 110, 2) := by decide +kernel
theorem dX12_valueTo_6 : decode cX12_valueTo 6 = .ok (.bipush 12, 2) := by decide +kernel
theorem dX12_valueTo_8 : decode cX12_valueTo 8 = .ok (.iload_n 1, 1) := by decide +kernel
theorem dX12_valueTo_9 : decode cX12_valueTo 9 = .ok (.imul, 1) := by decide +kernel
theorem dX12_valueTo_10 : decode cX12_valueTo 10 = .ok (.iadd, 1) := by decide +kernel
theorem dX12_valueTo_11 : decode cX12_valueTo 11 = .ok (.iload_n 2, 1) := by decide +kernel
theorem dX12_valueTo_12 : decode cX12_valueTo 12 = .ok (.iadd, 1) := by decide +kernel
theorem dX12_valueTo_13 : decode cX12_valueTo 13 = .ok (.iaload, 1) := by decide +kernel
theorem dX12_valueTo_14 : decode cX12_valueTo 14 = .ok (.aload_n 0, 1) := by decide +kernel
theorem dX12_valueTo_15 : decode cX12_valueTo 15 = .ok (.iload_n 2, 1) := by decide +kernel
theorem dX12_valueTo_16 : decode cX12_valueTo 16 = .ok (.iconst 2, 1) := by decide +kernel
theorem dX12_valueTo_17 : decode cX12_valueTo 17 = .ok (.invokevirtual 51, 3) := by decide +kernel
theorem dX12_valueTo_20 : decode cX12_valueTo 20 = .ok (.imul, 1) := by decide +kernel
theorem dX12_valueTo_21 : decode cX12_valueTo 21 = .ok (.bipush 100, 2) := by decide +kernel
theorem dX12_valueTo_23 : decode cX12_valueTo 23 = .ok (.idiv, 1) := by decide +kernel
theorem dX12_valueTo_24 : decode cX12_valueTo 24 = .ok (.ireturn, 1) := by decide +kernel
theorem dX12_isPart_0 : decode cX12_isPart 0 = .ok (.iload_n 0, 1) := by decide +kernel
theorem dX12_isPart_1 : decode cX12_isPart 1 = .ok (.ifCond .lt 25, 3) := by decide +kernel
theorem dX12_isPart_4 : decode cX12_isPart 4 = .ok (.iload_n 0, 1) := by decide +kernel
theorem dX12_isPart_5 : decode cX12_isPart 5 = .ok (.bipush 10, 2) := by decide +kernel
theorem dX12_isPart_7 : decode cX12_isPart 7 = .ok (.irem, 1) := by decide +kernel
theorem dX12_isPart_8 : decode cX12_isPart 8 = .ok (.ifCond .le 18, 3) := by decide +kernel
theorem dX12_isPart_11 : decode cX12_isPart 11 = .ok (.iload_n 0, 1) := by decide +kernel
theorem dX12_isPart_12 : decode cX12_isPart 12 = .ok (.bipush 10, 2) := by decide +kernel
theorem dX12_isPart_14 : decode cX12_isPart 14 = .ok (.idiv, 1) := by decide +kernel
theorem dX12_isPart_15 : decode cX12_isPart 15 = .ok (.iload_n 0, 1) := by decide +kernel
theorem dX12_isPart_16 : decode cX12_isPart 16 = .ok (.bipush 10, 2) := by decide +kernel
theorem dX12_isPart_18 : decode cX12_isPart 18 = .ok (.irem, 1) := by decide +kernel
theorem dX12_isPart_19 : decode cX12_isPart 19 = .ok (.if_icmp .gt 7, 3) := by decide +kernel
theorem dX12_isPart_22 : decode cX12_isPart 22 = .ok (.iconst 1, 1) := by decide +kernel
theorem dX12_isPart_23 : decode cX12_isPart 23 = .ok (.goto 4, 3) := by decide +kernel
theorem dX12_isPart_26 : decode cX12_isPart 26 = .ok (.iconst 0, 1) := by decide +kernel
theorem dX12_isPart_27 : decode cX12_isPart 27 = .ok (.ireturn, 1) := by decide +kernel
theorem dX12_person_0 : decode cX12_person 0 = .ok (.iload_n 1, 1) := by decide +kernel
theorem dX12_person_1 : decode cX12_person 1 = .ok (.iconst 0, 1) := by decide +kernel
theorem dX12_person_2 : decode cX12_person 2 = .ok (.bipush 6, 2) := by decide +kernel
theorem dX12_person_4 : decode cX12_person 4 = .ok (.invokestatic 47, 3) := by decide +kernel
theorem dX12_person_7 : decode cX12_person 7 = .ok (.ifCond .eq 20, 3) := by decide +kernel
theorem dX12_person_10 : decode cX12_person 10 = .ok (.iload_n 2, 1) := by decide +kernel
theorem dX12_person_11 : decode cX12_person 11 = .ok (.iconst 0, 1) := by decide +kernel
theorem dX12_person_12 : decode cX12_person 12 = .ok (.ldc 55, 2) := by decide +kernel
theorem dX12_person_14 : decode cX12_person 14 = .ok (.invokestatic 47, 3) := by decide +kernel
theorem dX12_person_17 : decode cX12_person 17 = .ok (.ifCond .eq 10, 3) := by decide +kernel
theorem dX12_person_20 : decode cX12_person 20 = .ok (.iload_n 3, 1) := by decide +kernel
theorem dX12_person_21 : decode cX12_person 21 = .ok (.invokestatic 56, 3) := by decide +kernel
theorem dX12_person_24 : decode cX12_person 24 = .ok (.ifCond .ne 9, 3) := by decide +kernel
theorem dX12_person_27 : decode cX12_person 27 = .ok (.aload_n 0, 1) := by decide +kernel
theorem dX12_person_28 : decode cX12_person 28 = .ok (.iconst 1, 1) := by decide +kernel
theorem dX12_person_29 : decode cX12_person 29 = .ok (.invokevirtual 60, 3) := by decide +kernel
theorem dX12_person_32 : decode cX12_person 32 = .ok (.ireturn, 1) := by decide +kernel
theorem dX12_person_33 : decode cX12_person 33 = .ok (.aload_n 0, 1) := by decide +kernel
theorem dX12_person_34 : decode cX12_person 34 = .ok (.getfield 7, 3) := by decide +kernel
theorem dX12_person_37 : decode cX12_person 37 = .ok (.iconst 0, 1) := by decide +kernel
theorem dX12_person_38 : decode cX12_person 38 = .ok (.iaload, 1) := by decide +kernel
theorem dX12_person_39 : decode cX12_person 39 = .ok (.bipush 6, 2) := by decide +kernel
theorem dX12_person_41 : decode cX12_person 41 = .ok (.if_icmp .ne 9, 3) := by decide +kernel
theorem dX12_person_44 : decode cX12_person 44 = .ok (.aload_n 0, 1) := by decide +kernel
theorem dX12_person_45 : decode cX12_person 45 = .ok (.iconst 4, 1) := by decide +kernel
theorem dX12_person_46 : decode cX12_person 46 = .ok (.invokevirtual 60, 3) := by decide +kernel
theorem dX12_person_49 : decode cX12_person 49 = .ok (.ireturn, 1) := by decide +kernel
theorem dX12_person_50 : decode cX12_person 50 = .ok (.bipush 20, 2) := by decide +kernel
theorem dX12_person_52 : decode cX12_person 52 = .ok (.iconst 4, 1) := by decide +kernel
theorem dX12_person_53 : decode cX12_person 53 = .ok (.aload_n 0, 1) := by decide +kernel
theorem dX12_person_54 : decode cX12_person 54 = .ok (.getfield 7, 3) := by decide +kernel
theorem dX12_person_57 : decode cX12_person 57 = .ok (.iconst 0, 1) := by decide +kernel
theorem dX12_person_58 : decode cX12_person 58 = .ok (.iaload, 1) := by decide +kernel
theorem dX12_person_59 : decode cX12_person 59 = .ok (.imul, 1) := by decide +kernel
theorem dX12_person_60 : decode cX12_person 60 = .ok (.iadd, 1) := by decide +kernel
theorem dX12_person_61 : decode cX12_person 61 = .ok (.istore 4, 2) := by decide +kernel
theorem dX12_person_63 : decode cX12_person 63 = .ok (.aload_n 0, 1) := by decide +kernel
theorem dX12_person_64 : decode cX12_person 64 = .ok (.getfield 7, 3) := by decide +kernel
theorem dX12_person_67 : decode cX12_person 67 = .ok (.iload 4, 2) := by decide +kernel
theorem dX12_person_69 : decode cX12_person 69 = .ok (.iconst 0, 1) := by decide +kernel
theorem dX12_person_70 : decode cX12_person 70 = .ok (.iadd, 1) := by decide +kernel
theorem dX12_person_71 : decode cX12_person 71 = .ok (.iload_n 1, 1) := by decide +kernel
theorem dX12_person_72 : decode cX12_person 72 = .ok (.iastore, 1) := by decide +kernel
theorem dX12_person_73 : decode cX12_person 73 = .ok (.aload_n 0, 1) := by decide +kernel
theorem dX12_person_74 : decode cX12_person 74 = .ok (.getfield 7, 3) := by decide +kernel
theorem dX12_person_77 : decode cX12_person 77 = .ok (.iload 4, 2) := by decide +kernel
theorem dX12_person_79 : decode cX12_person 79 = .ok (.iconst 1, 1) := by decide +kernel
theorem dX12_person_80 : decode cX12_person 80 = .ok (.iadd, 1) := by decide +kernel
theorem dX12_person_81 : decode cX12_person 81 = .ok (.iload_n 2, 1) := by decide +kernel
theorem dX12_person_82 : decode cX12_person 82 = .ok (.iastore, 1) := by decide +kernel
theorem dX12_person_83 : decode cX12_person 83 = .ok (.aload_n 0, 1) := by decide +kernel
theorem dX12_person_84 : decode cX12_person 84 = .ok (.getfield 7, 3) := by decide +kernel
theorem dX12_person_87 : decode cX12_person 87 = .ok (.iload 4, 2) := by decide +kernel
theorem dX12_person_89 : decode cX12_person 89 = .ok (.iconst 2, 1) := by decide +kernel
theorem dX12_person_90 : decode cX12_person 90 = .ok (.iadd, 1) := by decide +kernel
theorem dX12_person_91 : decode cX12_person 91 = .ok (.iload_n 3, 1) := by decide +kernel
theorem dX12_person_92 : decode cX12_person 92 = .ok (.bipush 10, 2) := by decide +kernel
theorem dX12_person_94 : decode cX12_person 94 = .ok (.idiv, 1) := by decide +kernel
theorem dX12_person_95 : decode cX12_person 95 = .ok (.iastore, 1) := by decide +kernel
theorem dX12_person_96 : decode cX12_person 96 = .ok (.aload_n 0, 1) := by decide +kernel
theorem dX12_person_97 : decode cX12_person 97 = .ok (.getfield 7, 3) := by decide +kernel
theorem dX12_person_100 : decode cX12_person 100 = .ok (.iload 4, 2) := by decide +kernel
theorem dX12_person_102 : decode cX12_person 102 = .ok (.iconst 3, 1) := by decide +kernel
theorem dX12_person_103 : decode cX12_person 103 = .ok (.iadd, 1) := by decide +kernel
theorem dX12_person_104 : decode cX12_person 104 = .ok (.iload_n 3, 1) := by decide +kernel
theorem dX12_person_105 : decode cX12_person 105 = .ok (.bipush 10, 2) := by decide +kernel
theorem dX12_person_107 : decode cX12_person 107 = .ok (.irem, 1) := by decide +kernel
theorem dX12_person_108 : decode cX12_person 108 = .ok (.iastore, 1) := by decide +kernel
theorem dX12_person_109 : decode cX12_person 109 = .ok (.aload_n 0, 1) := by decide +kernel
theorem dX12_person_110 : decode cX12_person 110 = .ok (.getfield 7, 3) := by decide +kernel
theorem dX12_person_113 : decode cX12_person 113 = .ok (.iconst 0, 1) := by decide +kernel
theorem dX12_person_114 : decode cX12_person 114 = .ok (.dup2, 1) := by decide +kernel
theorem dX12_person_115 : decode cX12_person 115 = .ok (.iaload, 1) := by decide +kernel
theorem dX12_person_116 : decode cX12_person 116 = .ok (.iconst 1, 1) := by decide +kernel
theorem dX12_person_117 : decode cX12_person 117 = .ok (.iadd, 1) := by decide +kernel
theorem dX12_person_118 : decode cX12_person 118 = .ok (.iastore, 1) := by decide +kernel
theorem dX12_person_119 : decode cX12_person 119 = .ok (.aload_n 0, 1) := by decide +kernel
theorem dX12_person_120 : decode cX12_person 120 = .ok (.getfield 7, 3) := by decide +kernel
theorem dX12_person_123 : decode cX12_person 123 = .ok (.iconst 0, 1) := by decide +kernel
theorem dX12_person_124 : decode cX12_person 124 = .ok (.iaload, 1) := by decide +kernel
theorem dX12_person_125 : decode cX12_person 125 = .ok (.iconst 1, 1) := by decide +kernel
theorem dX12_person_126 : decode cX12_person 126 = .ok (.isub, 1) := by decide +kernel
theorem dX12_person_127 : decode cX12_person 127 = .ok (.ireturn, 1) := by decide +kernel
theorem dX12_pairIts_0 : decode cX12_pairIts 0 = .ok (.aload_n 0, 1) := by decide +kernel
theorem dX12_pairIts_1 : decode cX12_pairIts 1 = .ok (.getfield 7, 3) := by decide +kernel
theorem dX12_pairIts_4 : decode cX12_pairIts 4 = .ok (.bipush 92, 2) := by decide +kernel
theorem dX12_pairIts_6 : decode cX12_pairIts 6 = .ok (.iconst 3, 1) := by decide +kernel
theorem dX12_pairIts_7 : decode cX12_pairIts 7 = .ok (.iload_n 1, 1) := by decide +kernel
theorem dX12_pairIts_8 : decode cX12_pairIts 8 = .ok (.imul, 1) := by decide +kernel
theorem dX12_pairIts_9 : decode cX12_pairIts 9 = .ok (.iadd, 1) := by decide +kernel
theorem dX12_pairIts_10 : decode cX12_pairIts 10 = .ok (.iload_n 2, 1) := by decide +kernel
theorem dX12_pairIts_11 : decode cX12_pairIts 11 = .ok (.iadd, 1) := by decide +kernel
theorem dX12_pairIts_12 : decode cX12_pairIts 12 = .ok (.iaload, 1) := by decide +kernel
theorem dX12_pairIts_13 : decode cX12_pairIts 13 = .ok (.ireturn, 1) := by decide +kernel
theorem dX12_hasOne_0 : decode cX12_hasOne 0 = .ok (.aload_n 0, 1) := by decide +kernel
theorem dX12_hasOne_1 : decode cX12_hasOne 1 = .ok (.aload_n 0, 1) := by decide +kernel
theorem dX12_hasOne_2 : decode cX12_hasOne 2 = .ok (.iload_n 2, 1) := by decide +kernel
theorem dX12_hasOne_3 : decode cX12_hasOne 3 = .ok (.iload_n 3, 1) := by decide +kernel
theorem dX12_hasOne_4 : decode cX12_hasOne 4 = .ok (.invokevirtual 64, 3) := by decide +kernel
theorem dX12_hasOne_7 : decode cX12_hasOne 7 = .ok (.invokevirtual 67, 3) := by decide +kernel
theorem dX12_hasOne_10 : decode cX12_hasOne 10 = .ok (.iload_n 1, 1) := by decide +kernel
theorem dX12_hasOne_11 : decode cX12_hasOne 11 = .ok (.if_icmp .ne 7, 3) := by decide +kernel
theorem dX12_hasOne_14 : decode cX12_hasOne 14 = .ok (.iconst 1, 1) := by decide +kernel
theorem dX12_hasOne_15 : decode cX12_hasOne 15 = .ok (.goto 4, 3) := by decide +kernel
theorem dX12_hasOne_18 : decode cX12_hasOne 18 = .ok (.iconst 0, 1) := by decide +kernel
theorem dX12_hasOne_19 : decode cX12_hasOne 19 = .ok (.ireturn, 1) := by decide +kernel
theorem dX12_lacks_0 : decode cX12_lacks 0 = .ok (.iconst 0, 1) := by decide +kernel
theorem dX12_lacks_1 : decode cX12_lacks 1 = .ok (.istore_n 2, 1) := by decide +kernel
theorem dX12_lacks_2 : decode cX12_lacks 2 = .ok (.iconst 0, 1) := by decide +kernel
theorem dX12_lacks_3 : decode cX12_lacks 3 = .ok (.istore_n 3, 1) := by decide +kernel
theorem dX12_lacks_4 : decode cX12_lacks 4 = .ok (.iload_n 3, 1) := by decide +kernel
theorem dX12_lacks_5 : decode cX12_lacks 5 = .ok (.aload_n 0, 1) := by decide +kernel
theorem dX12_lacks_6 : decode cX12_lacks 6 = .ok (.getfield 7, 3) := by decide +kernel
theorem dX12_lacks_9 : decode cX12_lacks 9 = .ok (.iconst 2, 1) := by decide +kernel
theorem dX12_lacks_10 : decode cX12_lacks 10 = .ok (.iaload, 1) := by decide +kernel
theorem dX12_lacks_11 : decode cX12_lacks 11 = .ok (.if_icmp .ge 36, 3) := by decide +kernel
theorem dX12_lacks_14 : decode cX12_lacks 14 = .ok (.iload_n 2, 1) := by decide +kernel
theorem dX12_lacks_15 : decode cX12_lacks 15 = .ok (.aload_n 0, 1) := by decide +kernel
theorem dX12_lacks_16 : decode cX12_lacks 16 = .ok (.iload_n 1, 1) := by decide +kernel
theorem dX12_lacks_17 : decode cX12_lacks 17 = .ok (.iload_n 3, 1) := by decide +kernel
theorem dX12_lacks_18 : decode cX12_lacks 18 = .ok (.iconst 0, 1) := by decide +kernel
theorem dX12_lacks_19 : decode cX12_lacks 19 = .ok (.invokevirtual 70, 3) := by decide +kernel
theorem dX12_lacks_22 : decode cX12_lacks 22 = .ok (.aload_n 0, 1) := by decide +kernel
theorem dX12_lacks_23 : decode cX12_lacks 23 = .ok (.iload_n 1, 1) := by decide +kernel
theorem dX12_lacks_24 : decode cX12_lacks 24 = .ok (.iload_n 3, 1) := by decide +kernel
theorem dX12_lacks_25 : decode cX12_lacks 25 = .ok (.iconst 1, 1) := by decide +kernel
theorem dX12_lacks_26 : decode cX12_lacks 26 = .ok (.invokevirtual 70, 3) := by decide +kernel
theorem dX12_lacks_29 : decode cX12_lacks 29 = .ok (.if_icmp .eq 9, 3) := by decide +kernel
theorem dX12_lacks_32 : decode cX12_lacks 32 = .ok (.iconst 1, 1) := by decide +kernel
theorem dX12_lacks_33 : decode cX12_lacks 33 = .ok (.iload_n 3, 1) := by decide +kernel
theorem dX12_lacks_34 : decode cX12_lacks 34 = .ok (.ishl, 1) := by decide +kernel
theorem dX12_lacks_35 : decode cX12_lacks 35 = .ok (.goto 4, 3) := by decide +kernel
theorem dX12_lacks_38 : decode cX12_lacks 38 = .ok (.iconst 0, 1) := by decide +kernel
theorem dX12_lacks_39 : decode cX12_lacks 39 = .ok (.ior, 1) := by decide +kernel
theorem dX12_lacks_40 : decode cX12_lacks 40 = .ok (.istore_n 2, 1) := by decide +kernel
theorem dX12_lacks_41 : decode cX12_lacks 41 = .ok (.iinc 3 1, 3) := by decide +kernel
theorem dX12_lacks_44 : decode cX12_lacks 44 = .ok (.goto (-40), 3) := by decide +kernel
theorem dX12_lacks_47 : decode cX12_lacks 47 = .ok (.iload_n 2, 1) := by decide +kernel
theorem dX12_lacks_48 : decode cX12_lacks 48 = .ok (.ireturn, 1) := by decide +kernel
theorem dX12_owns_0 : decode cX12_owns 0 = .ok (.iconst 0, 1) := by decide +kernel
theorem dX12_owns_1 : decode cX12_owns 1 = .ok (.istore_n 3, 1) := by decide +kernel
theorem dX12_owns_2 : decode cX12_owns 2 = .ok (.iconst 0, 1) := by decide +kernel
theorem dX12_owns_3 : decode cX12_owns 3 = .ok (.istore 4, 2) := by decide +kernel
theorem dX12_owns_5 : decode cX12_owns 5 = .ok (.iload 4, 2) := by decide +kernel
theorem dX12_owns_7 : decode cX12_owns 7 = .ok (.aload_n 0, 1) := by decide +kernel
theorem dX12_owns_8 : decode cX12_owns 8 = .ok (.getfield 7, 3) := by decide +kernel
theorem dX12_owns_11 : decode cX12_owns 11 = .ok (.iconst 1, 1) := by decide +kernel
theorem dX12_owns_12 : decode cX12_owns 12 = .ok (.iaload, 1) := by decide +kernel
theorem dX12_owns_13 : decode cX12_owns 13 = .ok (.if_icmp .ge 57, 3) := by decide +kernel
theorem dX12_owns_16 : decode cX12_owns 16 = .ok (.iload_n 3, 1) := by decide +kernel
theorem dX12_owns_17 : decode cX12_owns 17 = .ok (.aload_n 0, 1) := by decide +kernel
theorem dX12_owns_18 : decode cX12_owns 18 = .ok (.iload 4, 2) := by decide +kernel
theorem dX12_owns_20 : decode cX12_owns 20 = .ok (.invokevirtual 67, 3) := by decide +kernel
theorem dX12_owns_23 : decode cX12_owns 23 = .ok (.iload_n 1, 1) := by decide +kernel
theorem dX12_owns_24 : decode cX12_owns 24 = .ok (.if_icmp .eq 7, 3) := by decide +kernel
theorem dX12_owns_27 : decode cX12_owns 27 = .ok (.iconst 0, 1) := by decide +kernel
theorem dX12_owns_28 : decode cX12_owns 28 = .ok (.goto 34, 3) := by decide +kernel
theorem dX12_owns_31 : decode cX12_owns 31 = .ok (.iload_n 2, 1) := by decide +kernel
theorem dX12_owns_32 : decode cX12_owns 32 = .ok (.iconst 3, 1) := by decide +kernel
theorem dX12_owns_33 : decode cX12_owns 33 = .ok (.if_icmp .ne 7, 3) := by decide +kernel
theorem dX12_owns_36 : decode cX12_owns 36 = .ok (.iconst 1, 1) := by decide +kernel
theorem dX12_owns_37 : decode cX12_owns 37 = .ok (.goto 25, 3) := by decide +kernel
theorem dX12_owns_40 : decode cX12_owns 40 = .ok (.iload_n 2, 1) := by decide +kernel
theorem dX12_owns_41 : decode cX12_owns 41 = .ok (.iconst 4, 1) := by decide +kernel
theorem dX12_owns_42 : decode cX12_owns 42 = .ok (.if_icmp .ne 13, 3) := by decide +kernel
theorem dX12_owns_45 : decode cX12_owns 45 = .ok (.aload_n 0, 1) := by decide +kernel
theorem dX12_owns_46 : decode cX12_owns 46 = .ok (.iload 4, 2) := by decide +kernel
theorem dX12_owns_48 : decode cX12_owns 48 = .ok (.iconst 3, 1) := by decide +kernel
theorem dX12_owns_49 : decode cX12_owns 49 = .ok (.invokevirtual 51, 3) := by decide +kernel
theorem dX12_owns_52 : decode cX12_owns 52 = .ok (.goto 10, 3) := by decide +kernel
theorem dX12_owns_55 : decode cX12_owns 55 = .ok (.aload_n 0, 1) := by decide +kernel
theorem dX12_owns_56 : decode cX12_owns 56 = .ok (.iload_n 1, 1) := by decide +kernel
theorem dX12_owns_57 : decode cX12_owns 57 = .ok (.iload 4, 2) := by decide +kernel
theorem dX12_owns_59 : decode cX12_owns 59 = .ok (.invokevirtual 73, 3) := by decide +kernel
theorem dX12_owns_62 : decode cX12_owns 62 = .ok (.iadd, 1) := by decide +kernel
theorem dX12_owns_63 : decode cX12_owns 63 = .ok (.istore_n 3, 1) := by decide +kernel
theorem dX12_owns_64 : decode cX12_owns 64 = .ok (.iinc 4 1, 3) := by decide +kernel
theorem dX12_owns_67 : decode cX12_owns 67 = .ok (.goto (-62), 3) := by decide +kernel
theorem dX12_owns_70 : decode cX12_owns 70 = .ok (.iload_n 3, 1) := by decide +kernel
theorem dX12_owns_71 : decode cX12_owns 71 = .ok (.ireturn, 1) := by decide +kernel
theorem dX12_personIs_0 : decode cX12_personIs 0 = .ok (.aload_n 0, 1) := by decide +kernel
theorem dX12_personIs_1 : decode cX12_personIs 1 = .ok (.iload_n 1, 1) := by decide +kernel
theorem dX12_personIs_2 : decode cX12_personIs 2 = .ok (.invokevirtual 76, 3) := by decide +kernel
theorem dX12_personIs_5 : decode cX12_personIs 5 = .ok (.ifCond .eq 13, 3) := by decide +kernel
theorem dX12_personIs_8 : decode cX12_personIs 8 = .ok (.iload_n 2, 1) := by decide +kernel
theorem dX12_personIs_9 : decode cX12_personIs 9 = .ok (.iconst 0, 1) := by decide +kernel
theorem dX12_personIs_10 : decode cX12_personIs 10 = .ok (.bipush 6, 2) := by decide +kernel
theorem dX12_personIs_12 : decode cX12_personIs 12 = .ok (.invokestatic 47, 3) := by decide +kernel
theorem dX12_personIs_15 : decode cX12_personIs 15 = .ok (.ifCond .ne 9, 3) := by decide +kernel
theorem dX12_personIs_18 : decode cX12_personIs 18 = .ok (.aload_n 0, 1) := by decide +kernel
theorem dX12_personIs_19 : decode cX12_personIs 19 = .ok (.iconst 1, 1) := by decide +kernel
theorem dX12_personIs_20 : decode cX12_personIs 20 = .ok (.invokevirtual 60, 3) := by decide +kernel
theorem dX12_personIs_23 : decode cX12_personIs 23 = .ok (.ireturn, 1) := by decide +kernel
theorem dX12_personIs_24 : decode cX12_personIs 24 = .ok (.iload_n 2, 1) := by decide +kernel
theorem dX12_personIs_25 : decode cX12_personIs 25 = .ok (.tableswitch 76 0 5 #[39, 46, 53, 76, 76, 70], 39) := by decide +kernel
theorem dX12_personIs_64 : decode cX12_personIs 64 = .ok (.aload_n 0, 1) := by decide +kernel
theorem dX12_personIs_65 : decode cX12_personIs 65 = .ok (.iload_n 1, 1) := by decide +kernel
theorem dX12_personIs_66 : decode cX12_personIs 66 = .ok (.iconst 0, 1) := by decide +kernel
theorem dX12_personIs_67 : decode cX12_personIs 67 = .ok (.invokevirtual 79, 3) := by decide +kernel
theorem dX12_personIs_70 : decode cX12_personIs 70 = .ok (.ireturn, 1) := by decide +kernel
theorem dX12_personIs_71 : decode cX12_personIs 71 = .ok (.aload_n 0, 1) := by decide +kernel
theorem dX12_personIs_72 : decode cX12_personIs 72 = .ok (.iload_n 1, 1) := by decide +kernel
theorem dX12_personIs_73 : decode cX12_personIs 73 = .ok (.iconst 1, 1) := by decide +kernel
theorem dX12_personIs_74 : decode cX12_personIs 74 = .ok (.invokevirtual 79, 3) := by decide +kernel
theorem dX12_personIs_77 : decode cX12_personIs 77 = .ok (.ireturn, 1) := by decide +kernel
theorem dX12_personIs_78 : decode cX12_personIs 78 = .ok (.bipush 10, 2) := by decide +kernel
theorem dX12_personIs_80 : decode cX12_personIs 80 = .ok (.aload_n 0, 1) := by decide +kernel
theorem dX12_personIs_81 : decode cX12_personIs 81 = .ok (.iload_n 1, 1) := by decide +kernel
theorem dX12_personIs_82 : decode cX12_personIs 82 = .ok (.iconst 2, 1) := by decide +kernel
theorem dX12_personIs_83 : decode cX12_personIs 83 = .ok (.invokevirtual 79, 3) := by decide +kernel
theorem dX12_personIs_86 : decode cX12_personIs 86 = .ok (.imul, 1) := by decide +kernel
theorem dX12_personIs_87 : decode cX12_personIs 87 = .ok (.aload_n 0, 1) := by decide +kernel
theorem dX12_personIs_88 : decode cX12_personIs 88 = .ok (.iload_n 1, 1) := by decide +kernel
theorem dX12_personIs_89 : decode cX12_personIs 89 = .ok (.iconst 3, 1) := by decide +kernel
theorem dX12_personIs_90 : decode cX12_personIs 90 = .ok (.invokevirtual 79, 3) := by decide +kernel
theorem dX12_personIs_93 : decode cX12_personIs 93 = .ok (.iadd, 1) := by decide +kernel
theorem dX12_personIs_94 : decode cX12_personIs 94 = .ok (.ireturn, 1) := by decide +kernel
theorem dX12_personIs_95 : decode cX12_personIs 95 = .ok (.aload_n 0, 1) := by decide +kernel
theorem dX12_personIs_96 : decode cX12_personIs 96 = .ok (.iload_n 1, 1) := by decide +kernel
theorem dX12_personIs_97 : decode cX12_personIs 97 = .ok (.invokevirtual 82, 3) := by decide +kernel
theorem dX12_personIs_100 : decode cX12_personIs 100 = .ok (.ireturn, 1) := by decide +kernel
theorem dX12_personIs_101 : decode cX12_personIs 101 = .ok (.aload_n 0, 1) := by decide +kernel
theorem dX12_personIs_102 : decode cX12_personIs 102 = .ok (.iload_n 1, 1) := by decide +kernel
theorem dX12_personIs_103 : decode cX12_personIs 103 = .ok (.iload_n 2, 1) := by decide +kernel
theorem dX12_personIs_104 : decode cX12_personIs 104 = .ok (.invokevirtual 85, 3) := by decide +kernel
theorem dX12_personIs_107 : decode cX12_personIs 107 = .ok (.ireturn, 1) := by decide +kernel
theorem dX12_isUnder_0 : decode cX12_isUnder 0 = .ok (.iload_n 1, 1) := by decide +kernel
theorem dX12_isUnder_1 : decode cX12_isUnder 1 = .ok (.ifCond .eq 29, 3) := by decide +kernel
theorem dX12_isUnder_4 : decode cX12_isUnder 4 = .ok (.iload_n 0, 1) := by decide +kernel
theorem dX12_isUnder_5 : decode cX12_isUnder 5 = .ok (.iload_n 1, 1) := by decide +kernel
theorem dX12_isUnder_6 : decode cX12_isUnder 6 = .ok (.if_icmp .eq 24, 3) := by decide +kernel
theorem dX12_isUnder_9 : decode cX12_isUnder 9 = .ok (.iload_n 1, 1) := by decide +kernel
theorem dX12_isUnder_10 : decode cX12_isUnder 10 = .ok (.iconst 1, 1) := by decide +kernel
theorem dX12_isUnder_11 : decode cX12_isUnder 11 = .ok (.if_icmp .ne 23, 3) := by decide +kernel
theorem dX12_isUnder_14 : decode cX12_isUnder 14 = .ok (.iload_n 0, 1) := by decide +kernel
theorem dX12_isUnder_15 : decode cX12_isUnder 15 = .ok (.iconst 2, 1) := by decide +kernel
theorem dX12_isUnder_16 : decode cX12_isUnder 16 = .ok (.if_icmp .eq 14, 3) := by decide +kernel
theorem dX12_isUnder_19 : decode cX12_isUnder 19 = .ok (.iload_n 0, 1) := by decide +kernel
theorem dX12_isUnder_20 : decode cX12_isUnder 20 = .ok (.iconst 3, 1) := by decide +kernel
theorem dX12_isUnder_21 : decode cX12_isUnder 21 = .ok (.if_icmp .eq 9, 3) := by decide +kernel
theorem dX12_isUnder_24 : decode cX12_isUnder 24 = .ok (.iload_n 0, 1) := by decide +kernel
theorem dX12_isUnder_25 : decode cX12_isUnder 25 = .ok (.bipush 6, 2) := by decide +kernel
theorem dX12_isUnder_27 : decode cX12_isUnder 27 = .ok (.if_icmp .ne 7, 3) := by decide +kernel
theorem dX12_isUnder_30 : decode cX12_isUnder 30 = .ok (.iconst 1, 1) := by decide +kernel
theorem dX12_isUnder_31 : decode cX12_isUnder 31 = .ok (.goto 4, 3) := by decide +kernel
theorem dX12_isUnder_34 : decode cX12_isUnder 34 = .ok (.iconst 0, 1) := by decide +kernel
theorem dX12_isUnder_35 : decode cX12_isUnder 35 = .ok (.ireturn, 1) := by decide +kernel
theorem dX12_as_0 : decode cX12_as 0 = .ok (.aload_n 0, 1) := by decide +kernel
theorem dX12_as_1 : decode cX12_as 1 = .ok (.iload_n 1, 1) := by decide +kernel
theorem dX12_as_2 : decode cX12_as 2 = .ok (.invokevirtual 76, 3) := by decide +kernel
theorem dX12_as_5 : decode cX12_as 5 = .ok (.ifCond .eq 13, 3) := by decide +kernel
theorem dX12_as_8 : decode cX12_as 8 = .ok (.iload_n 2, 1) := by decide +kernel
theorem dX12_as_9 : decode cX12_as 9 = .ok (.iconst 0, 1) := by decide +kernel
theorem dX12_as_10 : decode cX12_as 10 = .ok (.bipush 6, 2) := by decide +kernel
theorem dX12_as_12 : decode cX12_as 12 = .ok (.invokestatic 47, 3) := by decide +kernel
theorem dX12_as_15 : decode cX12_as 15 = .ok (.ifCond .ne 9, 3) := by decide +kernel
theorem dX12_as_18 : decode cX12_as 18 = .ok (.aload_n 0, 1) := by decide +kernel
theorem dX12_as_19 : decode cX12_as 19 = .ok (.iconst 1, 1) := by decide +kernel
theorem dX12_as_20 : decode cX12_as 20 = .ok (.invokevirtual 60, 3) := by decide +kernel
theorem dX12_as_23 : decode cX12_as 23 = .ok (.ireturn, 1) := by decide +kernel
theorem dX12_as_24 : decode cX12_as 24 = .ok (.aload_n 0, 1) := by decide +kernel
theorem dX12_as_25 : decode cX12_as 25 = .ok (.iload_n 1, 1) := by decide +kernel
theorem dX12_as_26 : decode cX12_as 26 = .ok (.iconst 0, 1) := by decide +kernel
theorem dX12_as_27 : decode cX12_as 27 = .ok (.invokevirtual 79, 3) := by decide +kernel
theorem dX12_as_30 : decode cX12_as 30 = .ok (.iload_n 2, 1) := by decide +kernel
theorem dX12_as_31 : decode cX12_as 31 = .ok (.invokestatic 88, 3) := by decide +kernel
theorem dX12_as_34 : decode cX12_as 34 = .ok (.ifCond .eq 12, 3) := by decide +kernel
theorem dX12_as_37 : decode cX12_as 37 = .ok (.aload_n 0, 1) := by decide +kernel
theorem dX12_as_38 : decode cX12_as 38 = .ok (.iload_n 1, 1) := by decide +kernel
theorem dX12_as_39 : decode cX12_as 39 = .ok (.iconst 1, 1) := by decide +kernel
theorem dX12_as_40 : decode cX12_as 40 = .ok (.invokevirtual 79, 3) := by decide +kernel
theorem dX12_as_43 : decode cX12_as 43 = .ok (.goto 8, 3) := by decide +kernel
theorem dX12_as_46 : decode cX12_as 46 = .ok (.aload_n 0, 1) := by decide +kernel
theorem dX12_as_47 : decode cX12_as 47 = .ok (.iconst 5, 1) := by decide +kernel
theorem dX12_as_48 : decode cX12_as 48 = .ok (.invokevirtual 60, 3) := by decide +kernel
theorem dX12_as_51 : decode cX12_as 51 = .ok (.ireturn, 1) := by decide +kernel
theorem dX12_become_0 : decode cX12_become 0 = .ok (.aload_n 0, 1) := by decide +kernel
theorem dX12_become_1 : decode cX12_become 1 = .ok (.iload_n 1, 1) := by decide +kernel
theorem dX12_become_2 : decode cX12_become 2 = .ok (.invokevirtual 76, 3) := by decide +kernel
theorem dX12_become_5 : decode cX12_become 5 = .ok (.ifCond .eq 13, 3) := by decide +kernel
theorem dX12_become_8 : decode cX12_become 8 = .ok (.iload_n 2, 1) := by decide +kernel
theorem dX12_become_9 : decode cX12_become 9 = .ok (.iconst 0, 1) := by decide +kernel
theorem dX12_become_10 : decode cX12_become 10 = .ok (.bipush 6, 2) := by decide +kernel
theorem dX12_become_12 : decode cX12_become 12 = .ok (.invokestatic 47, 3) := by decide +kernel
theorem dX12_become_15 : decode cX12_become 15 = .ok (.ifCond .ne 9, 3) := by decide +kernel
theorem dX12_become_18 : decode cX12_become 18 = .ok (.aload_n 0, 1) := by decide +kernel
theorem dX12_become_19 : decode cX12_become 19 = .ok (.iconst 1, 1) := by decide +kernel
theorem dX12_become_20 : decode cX12_become 20 = .ok (.invokevirtual 60, 3) := by decide +kernel
theorem dX12_become_23 : decode cX12_become 23 = .ok (.ireturn, 1) := by decide +kernel
theorem dX12_become_24 : decode cX12_become 24 = .ok (.aload_n 0, 1) := by decide +kernel
theorem dX12_become_25 : decode cX12_become 25 = .ok (.iload_n 1, 1) := by decide +kernel
theorem dX12_become_26 : decode cX12_become 26 = .ok (.iconst 0, 1) := by decide +kernel
theorem dX12_become_27 : decode cX12_become 27 = .ok (.invokevirtual 79, 3) := by decide +kernel
theorem dX12_become_30 : decode cX12_become 30 = .ok (.istore_n 3, 1) := by decide +kernel
theorem dX12_become_31 : decode cX12_become 31 = .ok (.aload_n 0, 1) := by decide +kernel
theorem dX12_become_32 : decode cX12_become 32 = .ok (.getfield 7, 3) := by decide +kernel
theorem dX12_become_35 : decode cX12_become 35 = .ok (.bipush 20, 2) := by decide +kernel
theorem dX12_become_37 : decode cX12_become 37 = .ok (.iconst 4, 1) := by decide +kernel
theorem dX12_become_38 : decode cX12_become 38 = .ok (.iload_n 1, 1) := by decide +kernel
theorem dX12_become_39 : decode cX12_become 39 = .ok (.imul, 1) := by decide +kernel
theorem dX12_become_40 : decode cX12_become 40 = .ok (.iadd, 1) := by decide +kernel
theorem dX12_become_41 : decode cX12_become 41 = .ok (.iconst 0, 1) := by decide +kernel
theorem dX12_become_42 : decode cX12_become 42 = .ok (.iadd, 1) := by decide +kernel
theorem dX12_become_43 : decode cX12_become 43 = .ok (.iload_n 2, 1) := by decide +kernel
theorem dX12_become_44 : decode cX12_become 44 = .ok (.iastore, 1) := by decide +kernel
theorem dX12_become_45 : decode cX12_become 45 = .ok (.iload_n 3, 1) := by decide +kernel
theorem dX12_become_46 : decode cX12_become 46 = .ok (.ireturn, 1) := by decide +kernel
theorem dX12_purse_0 : decode cX12_purse 0 = .ok (.aload_n 0, 1) := by decide +kernel
theorem dX12_purse_1 : decode cX12_purse 1 = .ok (.iload_n 1, 1) := by decide +kernel
theorem dX12_purse_2 : decode cX12_purse 2 = .ok (.invokevirtual 76, 3) := by decide +kernel
theorem dX12_purse_5 : decode cX12_purse 5 = .ok (.ifCond .eq 13, 3) := by decide +kernel
theorem dX12_purse_8 : decode cX12_purse 8 = .ok (.iload_n 2, 1) := by decide +kernel
theorem dX12_purse_9 : decode cX12_purse 9 = .ok (.iconst 0, 1) := by decide +kernel
theorem dX12_purse_10 : decode cX12_purse 10 = .ok (.ldc 55, 2) := by decide +kernel
theorem dX12_purse_12 : decode cX12_purse 12 = .ok (.invokestatic 47, 3) := by decide +kernel
theorem dX12_purse_15 : decode cX12_purse 15 = .ok (.ifCond .ne 9, 3) := by decide +kernel
theorem dX12_purse_18 : decode cX12_purse 18 = .ok (.aload_n 0, 1) := by decide +kernel
theorem dX12_purse_19 : decode cX12_purse 19 = .ok (.iconst 1, 1) := by decide +kernel
theorem dX12_purse_20 : decode cX12_purse 20 = .ok (.invokevirtual 60, 3) := by decide +kernel
theorem dX12_purse_23 : decode cX12_purse 23 = .ok (.ireturn, 1) := by decide +kernel
theorem dX12_purse_24 : decode cX12_purse 24 = .ok (.aload_n 0, 1) := by decide +kernel
theorem dX12_purse_25 : decode cX12_purse 25 = .ok (.iload_n 1, 1) := by decide +kernel
theorem dX12_purse_26 : decode cX12_purse 26 = .ok (.iconst 1, 1) := by decide +kernel
theorem dX12_purse_27 : decode cX12_purse 27 = .ok (.invokevirtual 79, 3) := by decide +kernel
theorem dX12_purse_30 : decode cX12_purse 30 = .ok (.istore_n 3, 1) := by decide +kernel
theorem dX12_purse_31 : decode cX12_purse 31 = .ok (.aload_n 0, 1) := by decide +kernel
theorem dX12_purse_32 : decode cX12_purse 32 = .ok (.getfield 7, 3) := by decide +kernel
theorem dX12_purse_35 : decode cX12_purse 35 = .ok (.bipush 20, 2) := by decide +kernel
theorem dX12_purse_37 : decode cX12_purse 37 = .ok (.iconst 4, 1) := by decide +kernel
theorem dX12_purse_38 : decode cX12_purse 38 = .ok (.iload_n 1, 1) := by decide +kernel
theorem dX12_purse_39 : decode cX12_purse 39 = .ok (.imul, 1) := by decide +kernel
theorem dX12_purse_40 : decode cX12_purse 40 = .ok (.iadd, 1) := by decide +kernel
theorem dX12_purse_41 : decode cX12_purse 41 = .ok (.iconst 1, 1) := by decide +kernel
theorem dX12_purse_42 : decode cX12_purse 42 = .ok (.iadd, 1) := by decide +kernel
theorem dX12_purse_43 : decode cX12_purse 43 = .ok (.iload_n 2, 1) := by decide +kernel
theorem dX12_purse_44 : decode cX12_purse 44 = .ok (.iastore, 1) := by decide +kernel
theorem dX12_purse_45 : decode cX12_purse 45 = .ok (.iload_n 3, 1) := by decide +kernel
theorem dX12_purse_46 : decode cX12_purse 46 = .ok (.ireturn, 1) := by decide +kernel
theorem dX12_thing_0 : decode cX12_thing 0 = .ok (.aload_n 0, 1) := by decide +kernel
theorem dX12_thing_1 : decode cX12_thing 1 = .ok (.iload_n 1, 1) := by decide +kernel
theorem dX12_thing_2 : decode cX12_thing 2 = .ok (.invokevirtual 76, 3) := by decide +kernel
theorem dX12_thing_5 : decode cX12_thing 5 = .ok (.ifCond .eq 14, 3) := by decide +kernel
theorem dX12_thing_8 : decode cX12_thing 8 = .ok (.iload_n 2, 1) := by decide +kernel
theorem dX12_thing_9 : decode cX12_thing 9 = .ok (.iconst 0, 1) := by decide +kernel
theorem dX12_thing_10 : decode cX12_thing 10 = .ok (.sipush 9999, 3) := by decide +kernel
theorem dX12_thing_13 : decode cX12_thing 13 = .ok (.invokestatic 47, 3) := by decide +kernel
theorem dX12_thing_16 : decode cX12_thing 16 = .ok (.ifCond .ne 9, 3) := by decide +kernel
theorem dX12_thing_19 : decode cX12_thing 19 = .ok (.aload_n 0, 1) := by decide +kernel
theorem dX12_thing_20 : decode cX12_thing 20 = .ok (.iconst 1, 1) := by decide +kernel
theorem dX12_thing_21 : decode cX12_thing 21 = .ok (.invokevirtual 60, 3) := by decide +kernel
theorem dX12_thing_24 : decode cX12_thing 24 = .ok (.ireturn, 1) := by decide +kernel
theorem dX12_thing_25 : decode cX12_thing 25 = .ok (.aload_n 0, 1) := by decide +kernel
theorem dX12_thing_26 : decode cX12_thing 26 = .ok (.getfield 7, 3) := by decide +kernel
theorem dX12_thing_29 : decode cX12_thing 29 = .ok (.iconst 1, 1) := by decide +kernel
theorem dX12_thing_30 : decode cX12_thing 30 = .ok (.iaload, 1) := by decide +kernel
theorem dX12_thing_31 : decode cX12_thing 31 = .ok (.bipush 12, 2) := by decide +kernel
theorem dX12_thing_33 : decode cX12_thing 33 = .ok (.if_icmp .ne 9, 3) := by decide +kernel
theorem dX12_thing_36 : decode cX12_thing 36 = .ok (.aload_n 0, 1) := by decide +kernel
theorem dX12_thing_37 : decode cX12_thing 37 = .ok (.iconst 4, 1) := by decide +kernel
theorem dX12_thing_38 : decode cX12_thing 38 = .ok (.invokevirtual 60, 3) := by decide +kernel
theorem dX12_thing_41 : decode cX12_thing 41 = .ok (.ireturn, 1) := by decide +kernel
theorem dX12_thing_42 : decode cX12_thing 42 = .ok (.bipush 44, 2) := by decide +kernel
theorem dX12_thing_44 : decode cX12_thing 44 = .ok (.iconst 4, 1) := by decide +kernel
theorem dX12_thing_45 : decode cX12_thing 45 = .ok (.aload_n 0, 1) := by decide +kernel
theorem dX12_thing_46 : decode cX12_thing 46 = .ok (.getfield 7, 3) := by decide +kernel
theorem dX12_thing_49 : decode cX12_thing 49 = .ok (.iconst 1, 1) := by decide +kernel
theorem dX12_thing_50 : decode cX12_thing 50 = .ok (.iaload, 1) := by decide +kernel
theorem dX12_thing_51 : decode cX12_thing 51 = .ok (.imul, 1) := by decide +kernel
theorem dX12_thing_52 : decode cX12_thing 52 = .ok (.iadd, 1) := by decide +kernel
theorem dX12_thing_53 : decode cX12_thing 53 = .ok (.istore_n 3, 1) := by decide +kernel
theorem dX12_thing_54 : decode cX12_thing 54 = .ok (.aload_n 0, 1) := by decide +kernel
theorem dX12_thing_55 : decode cX12_thing 55 = .ok (.getfield 7, 3) := by decide +kernel
theorem dX12_thing_58 : decode cX12_thing 58 = .ok (.iload_n 3, 1) := by decide +kernel
theorem dX12_thing_59 : decode cX12_thing 59 = .ok (.iconst 0, 1) := by decide +kernel
theorem dX12_thing_60 : decode cX12_thing 60 = .ok (.iadd, 1) := by decide +kernel
theorem dX12_thing_61 : decode cX12_thing 61 = .ok (.iload_n 1, 1) := by decide +kernel
theorem dX12_thing_62 : decode cX12_thing 62 = .ok (.iastore, 1) := by decide +kernel
theorem dX12_thing_63 : decode cX12_thing 63 = .ok (.aload_n 0, 1) := by decide +kernel
theorem dX12_thing_64 : decode cX12_thing 64 = .ok (.getfield 7, 3) := by decide +kernel
theorem dX12_thing_67 : decode cX12_thing 67 = .ok (.iload_n 3, 1) := by decide +kernel
theorem dX12_thing_68 : decode cX12_thing 68 = .ok (.iconst 1, 1) := by decide +kernel
theorem dX12_thing_69 : decode cX12_thing 69 = .ok (.iadd, 1) := by decide +kernel
theorem dX12_thing_70 : decode cX12_thing 70 = .ok (.iload_n 2, 1) := by decide +kernel
theorem dX12_thing_71 : decode cX12_thing 71 = .ok (.iastore, 1) := by decide +kernel
theorem dX12_thing_72 : decode cX12_thing 72 = .ok (.aload_n 0, 1) := by decide +kernel
theorem dX12_thing_73 : decode cX12_thing 73 = .ok (.getfield 7, 3) := by decide +kernel
theorem dX12_thing_76 : decode cX12_thing 76 = .ok (.iload_n 3, 1) := by decide +kernel
theorem dX12_thing_77 : decode cX12_thing 77 = .ok (.iconst 2, 1) := by decide +kernel
theorem dX12_thing_78 : decode cX12_thing 78 = .ok (.iadd, 1) := by decide +kernel
theorem dX12_thing_79 : decode cX12_thing 79 = .ok (.bipush 100, 2) := by decide +kernel
theorem dX12_thing_81 : decode cX12_thing 81 = .ok (.iastore, 1) := by decide +kernel
theorem dX12_thing_82 : decode cX12_thing 82 = .ok (.aload_n 0, 1) := by decide +kernel
theorem dX12_thing_83 : decode cX12_thing 83 = .ok (.getfield 7, 3) := by decide +kernel
theorem dX12_thing_86 : decode cX12_thing 86 = .ok (.iload_n 3, 1) := by decide +kernel
theorem dX12_thing_87 : decode cX12_thing 87 = .ok (.iconst 3, 1) := by decide +kernel
theorem dX12_thing_88 : decode cX12_thing 88 = .ok (.iadd, 1) := by decide +kernel
theorem dX12_thing_89 : decode cX12_thing 89 = .ok (.iconst 0, 1) := by decide +kernel
theorem dX12_thing_90 : decode cX12_thing 90 = .ok (.iastore, 1) := by decide +kernel
theorem dX12_thing_91 : decode cX12_thing 91 = .ok (.aload_n 0, 1) := by decide +kernel
theorem dX12_thing_92 : decode cX12_thing 92 = .ok (.getfield 7, 3) := by decide +kernel
theorem dX12_thing_95 : decode cX12_thing 95 = .ok (.iconst 1, 1) := by decide +kernel
theorem dX12_thing_96 : decode cX12_thing 96 = .ok (.dup2, 1) := by decide +kernel
theorem dX12_thing_97 : decode cX12_thing 97 = .ok (.iaload, 1) := by decide +kernel
theorem dX12_thing_98 : decode cX12_thing 98 = .ok (.iconst 1, 1) := by decide +kernel
theorem dX12_thing_99 : decode cX12_thing 99 = .ok (.iadd, 1) := by decide +kernel
theorem dX12_thing_100 : decode cX12_thing 100 = .ok (.iastore, 1) := by decide +kernel
theorem dX12_thing_101 : decode cX12_thing 101 = .ok (.aload_n 0, 1) := by decide +kernel
theorem dX12_thing_102 : decode cX12_thing 102 = .ok (.getfield 7, 3) := by decide +kernel
theorem dX12_thing_105 : decode cX12_thing 105 = .ok (.iconst 1, 1) := by decide +kernel
theorem dX12_thing_106 : decode cX12_thing 106 = .ok (.iaload, 1) := by decide +kernel
theorem dX12_thing_107 : decode cX12_thing 107 = .ok (.iconst 1, 1) := by decide +kernel
theorem dX12_thing_108 : decode cX12_thing 108 = .ok (.isub, 1) := by decide +kernel
theorem dX12_thing_109 : decode cX12_thing 109 = .ok (.ireturn, 1) := by decide +kernel
theorem dX12_fondest_0 : decode cX12_fondest 0 = .ok (.iconst 0, 1) := by decide +kernel
theorem dX12_fondest_1 : decode cX12_fondest 1 = .ok (.istore_n 2, 1) := by decide +kernel
theorem dX12_fondest_2 : decode cX12_fondest 2 = .ok (.iconst 1, 1) := by decide +kernel
theorem dX12_fondest_3 : decode cX12_fondest 3 = .ok (.istore_n 3, 1) := by decide +kernel
theorem dX12_fondest_4 : decode cX12_fondest 4 = .ok (.iload_n 3, 1) := by decide +kernel
theorem dX12_fondest_5 : decode cX12_fondest 5 = .ok (.aload_n 0, 1) := by decide +kernel
theorem dX12_fondest_6 : decode cX12_fondest 6 = .ok (.getfield 7, 3) := by decide +kernel
theorem dX12_fondest_9 : decode cX12_fondest 9 = .ok (.iconst 0, 1) := by decide +kernel
theorem dX12_fondest_10 : decode cX12_fondest 10 = .ok (.iaload, 1) := by decide +kernel
theorem dX12_fondest_11 : decode cX12_fondest 11 = .ok (.if_icmp .ge 30, 3) := by decide +kernel
theorem dX12_fondest_14 : decode cX12_fondest 14 = .ok (.aload_n 0, 1) := by decide +kernel
theorem dX12_fondest_15 : decode cX12_fondest 15 = .ok (.iload_n 3, 1) := by decide +kernel
theorem dX12_fondest_16 : decode cX12_fondest 16 = .ok (.iload_n 1, 1) := by decide +kernel
theorem dX12_fondest_17 : decode cX12_fondest 17 = .ok (.invokevirtual 73, 3) := by decide +kernel
theorem dX12_fondest_20 : decode cX12_fondest 20 = .ok (.aload_n 0, 1) := by decide +kernel
theorem dX12_fondest_21 : decode cX12_fondest 21 = .ok (.iload_n 2, 1) := by decide +kernel
theorem dX12_fondest_22 : decode cX12_fondest 22 = .ok (.iload_n 1, 1) := by decide +kernel
theorem dX12_fondest_23 : decode cX12_fondest 23 = .ok (.invokevirtual 73, 3) := by decide +kernel
theorem dX12_fondest_26 : decode cX12_fondest 26 = .ok (.if_icmp .le 7, 3) := by decide +kernel
theorem dX12_fondest_29 : decode cX12_fondest 29 = .ok (.iload_n 3, 1) := by decide +kernel
theorem dX12_fondest_30 : decode cX12_fondest 30 = .ok (.goto 4, 3) := by decide +kernel
theorem dX12_fondest_33 : decode cX12_fondest 33 = .ok (.iload_n 2, 1) := by decide +kernel
theorem dX12_fondest_34 : decode cX12_fondest 34 = .ok (.istore_n 2, 1) := by decide +kernel
theorem dX12_fondest_35 : decode cX12_fondest 35 = .ok (.iinc 3 1, 3) := by decide +kernel
theorem dX12_fondest_38 : decode cX12_fondest 38 = .ok (.goto (-34), 3) := by decide +kernel
theorem dX12_fondest_41 : decode cX12_fondest 41 = .ok (.iload_n 2, 1) := by decide +kernel
theorem dX12_fondest_42 : decode cX12_fondest 42 = .ok (.ireturn, 1) := by decide +kernel
theorem dX12_thingIs_0 : decode cX12_thingIs 0 = .ok (.aload_n 0, 1) := by decide +kernel
theorem dX12_thingIs_1 : decode cX12_thingIs 1 = .ok (.iload_n 1, 1) := by decide +kernel
theorem dX12_thingIs_2 : decode cX12_thingIs 2 = .ok (.invokevirtual 92, 3) := by decide +kernel
theorem dX12_thingIs_5 : decode cX12_thingIs 5 = .ok (.ifCond .eq 12, 3) := by decide +kernel
theorem dX12_thingIs_8 : decode cX12_thingIs 8 = .ok (.iload_n 2, 1) := by decide +kernel
theorem dX12_thingIs_9 : decode cX12_thingIs 9 = .ok (.iconst 0, 1) := by decide +kernel
theorem dX12_thingIs_10 : decode cX12_thingIs 10 = .ok (.iconst 5, 1) := by decide +kernel
theorem dX12_thingIs_11 : decode cX12_thingIs 11 = .ok (.invokestatic 47, 3) := by decide +kernel
theorem dX12_thingIs_14 : decode cX12_thingIs 14 = .ok (.ifCond .ne 9, 3) := by decide +kernel
theorem dX12_thingIs_17 : decode cX12_thingIs 17 = .ok (.aload_n 0, 1) := by decide +kernel
theorem dX12_thingIs_18 : decode cX12_thingIs 18 = .ok (.iconst 1, 1) := by decide +kernel
theorem dX12_thingIs_19 : decode cX12_thingIs 19 = .ok (.invokevirtual 60, 3) := by decide +kernel
theorem dX12_thingIs_22 : decode cX12_thingIs 22 = .ok (.ireturn, 1) := by decide +kernel
theorem dX12_thingIs_23 : decode cX12_thingIs 23 = .ok (.iload_n 2, 1) := by decide +kernel
theorem dX12_thingIs_24 : decode cX12_thingIs 24 = .ok (.iconst 4, 1) := by decide +kernel
theorem dX12_thingIs_25 : decode cX12_thingIs 25 = .ok (.if_icmp .ge 12, 3) := by decide +kernel
theorem dX12_thingIs_28 : decode cX12_thingIs 28 = .ok (.aload_n 0, 1) := by decide +kernel
theorem dX12_thingIs_29 : decode cX12_thingIs 29 = .ok (.iload_n 1, 1) := by decide +kernel
theorem dX12_thingIs_30 : decode cX12_thingIs 30 = .ok (.iload_n 2, 1) := by decide +kernel
theorem dX12_thingIs_31 : decode cX12_thingIs 31 = .ok (.invokevirtual 51, 3) := by decide +kernel
theorem dX12_thingIs_34 : decode cX12_thingIs 34 = .ok (.goto 26, 3) := by decide +kernel
theorem dX12_thingIs_37 : decode cX12_thingIs 37 = .ok (.iload_n 2, 1) := by decide +kernel
theorem dX12_thingIs_38 : decode cX12_thingIs 38 = .ok (.iconst 4, 1) := by decide +kernel
theorem dX12_thingIs_39 : decode cX12_thingIs 39 = .ok (.if_icmp .ne 16, 3) := by decide +kernel
theorem dX12_thingIs_42 : decode cX12_thingIs 42 = .ok (.aload_n 0, 1) := by decide +kernel
theorem dX12_thingIs_43 : decode cX12_thingIs 43 = .ok (.aload_n 0, 1) := by decide +kernel
theorem dX12_thingIs_44 : decode cX12_thingIs 44 = .ok (.iload_n 1, 1) := by decide +kernel
theorem dX12_thingIs_45 : decode cX12_thingIs 45 = .ok (.invokevirtual 67, 3) := by decide +kernel
theorem dX12_thingIs_48 : decode cX12_thingIs 48 = .ok (.iload_n 1, 1) := by decide +kernel
theorem dX12_thingIs_49 : decode cX12_thingIs 49 = .ok (.invokevirtual 73, 3) := by decide +kernel
theorem dX12_thingIs_52 : decode cX12_thingIs 52 = .ok (.goto 8, 3) := by decide +kernel
theorem dX12_thingIs_55 : decode cX12_thingIs 55 = .ok (.aload_n 0, 1) := by decide +kernel
theorem dX12_thingIs_56 : decode cX12_thingIs 56 = .ok (.iload_n 1, 1) := by decide +kernel
theorem dX12_thingIs_57 : decode cX12_thingIs 57 = .ok (.invokevirtual 95, 3) := by decide +kernel
theorem dX12_thingIs_60 : decode cX12_thingIs 60 = .ok (.ireturn, 1) := by decide +kernel
theorem dX12_worth_0 : decode cX12_worth 0 = .ok (.aload_n 0, 1) := by decide +kernel
theorem dX12_worth_1 : decode cX12_worth 1 = .ok (.iload_n 1, 1) := by decide +kernel
theorem dX12_worth_2 : decode cX12_worth 2 = .ok (.invokevirtual 76, 3) := by decide +kernel
theorem dX12_worth_5 : decode cX12_worth 5 = .ok (.ifCond .eq 22, 3) := by decide +kernel
theorem dX12_worth_8 : decode cX12_worth 8 = .ok (.aload_n 0, 1) := by decide +kernel
theorem dX12_worth_9 : decode cX12_worth 9 = .ok (.iload_n 2, 1) := by decide +kernel
theorem dX12_worth_10 : decode cX12_worth 10 = .ok (.invokevirtual 92, 3) := by decide +kernel
theorem dX12_worth_13 : decode cX12_worth 13 = .ok (.ifCond .eq 14, 3) := by decide +kernel
theorem dX12_worth_16 : decode cX12_worth 16 = .ok (.iload_n 3, 1) := by decide +kernel
theorem dX12_worth_17 : decode cX12_worth 17 = .ok (.iconst 0, 1) := by decide +kernel
theorem dX12_worth_18 : decode cX12_worth 18 = .ok (.sipush 9999, 3) := by decide +kernel
theorem dX12_worth_21 : decode cX12_worth 21 = .ok (.invokestatic 47, 3) := by decide +kernel
theorem dX12_worth_24 : decode cX12_worth 24 = .ok (.ifCond .ne 9, 3) := by decide +kernel
theorem dX12_worth_27 : decode cX12_worth 27 = .ok (.aload_n 0, 1) := by decide +kernel
theorem dX12_worth_28 : decode cX12_worth 28 = .ok (.iconst 1, 1) := by decide +kernel
theorem dX12_worth_29 : decode cX12_worth 29 = .ok (.invokevirtual 60, 3) := by decide +kernel
theorem dX12_worth_32 : decode cX12_worth 32 = .ok (.ireturn, 1) := by decide +kernel
theorem dX12_worth_33 : decode cX12_worth 33 = .ok (.bipush 110, 2) := by decide +kernel
theorem dX12_worth_35 : decode cX12_worth 35 = .ok (.bipush 12, 2) := by decide +kernel
theorem dX12_worth_37 : decode cX12_worth 37 = .ok (.iload_n 1, 1) := by decide +kernel
theorem dX12_worth_38 : decode cX12_worth 38 = .ok (.imul, 1) := by decide +kernel
theorem dX12_worth_39 : decode cX12_worth 39 = .ok (.iadd, 1) := by decide +kernel
theorem dX12_worth_40 : decode cX12_worth 40 = .ok (.iload_n 2, 1) := by decide +kernel
theorem dX12_worth_41 : decode cX12_worth 41 = .ok (.iadd, 1) := by decide +kernel
theorem dX12_worth_42 : decode cX12_worth 42 = .ok (.istore 4, 2) := by decide +kernel
theorem dX12_worth_44 : decode cX12_worth 44 = .ok (.aload_n 0, 1) := by decide +kernel
theorem dX12_worth_45 : decode cX12_worth 45 = .ok (.getfield 7, 3) := by decide +kernel
theorem dX12_worth_48 : decode cX12_worth 48 = .ok (.iload 4, 2) := by decide +kernel
theorem dX12_worth_50 : decode cX12_worth 50 = .ok (.iaload, 1) := by decide +kernel
theorem dX12_worth_51 : decode cX12_worth 51 = .ok (.istore 5, 2) := by decide +kernel
theorem dX12_worth_53 : decode cX12_worth 53 = .ok (.aload_n 0, 1) := by decide +kernel
theorem dX12_worth_54 : decode cX12_worth 54 = .ok (.getfield 7, 3) := by decide +kernel
theorem dX12_worth_57 : decode cX12_worth 57 = .ok (.iload 4, 2) := by decide +kernel
theorem dX12_worth_59 : decode cX12_worth 59 = .ok (.iload_n 3, 1) := by decide +kernel
theorem dX12_worth_60 : decode cX12_worth 60 = .ok (.iastore, 1) := by decide +kernel
theorem dX12_worth_61 : decode cX12_worth 61 = .ok (.iload 5, 2) := by decide +kernel
theorem dX12_worth_63 : decode cX12_worth 63 = .ok (.ireturn, 1) := by decide +kernel
theorem dX12_price_0 : decode cX12_price 0 = .ok (.aload_n 0, 1) := by decide +kernel
theorem dX12_price_1 : decode cX12_price 1 = .ok (.iload_n 1, 1) := by decide +kernel
theorem dX12_price_2 : decode cX12_price 2 = .ok (.invokevirtual 92, 3) := by decide +kernel
theorem dX12_price_5 : decode cX12_price 5 = .ok (.ifCond .eq 14, 3) := by decide +kernel
theorem dX12_price_8 : decode cX12_price 8 = .ok (.iload_n 2, 1) := by decide +kernel
theorem dX12_price_9 : decode cX12_price 9 = .ok (.iconst 0, 1) := by decide +kernel
theorem dX12_price_10 : decode cX12_price 10 = .ok (.sipush 9999, 3) := by decide +kernel
theorem dX12_price_13 : decode cX12_price 13 = .ok (.invokestatic 47, 3) := by decide +kernel
theorem dX12_price_16 : decode cX12_price 16 = .ok (.ifCond .ne 9, 3) := by decide +kernel
theorem dX12_price_19 : decode cX12_price 19 = .ok (.aload_n 0, 1) := by decide +kernel
theorem dX12_price_20 : decode cX12_price 20 = .ok (.iconst 1, 1) := by decide +kernel
theorem dX12_price_21 : decode cX12_price 21 = .ok (.invokevirtual 60, 3) := by decide +kernel
theorem dX12_price_24 : decode cX12_price 24 = .ok (.ireturn, 1) := by decide +kernel
theorem dX12_price_25 : decode cX12_price 25 = .ok (.aload_n 0, 1) := by decide +kernel
theorem dX12_price_26 : decode cX12_price 26 = .ok (.iload_n 1, 1) := by decide +kernel
theorem dX12_price_27 : decode cX12_price 27 = .ok (.iconst 1, 1) := by decide +kernel
theorem dX12_price_28 : decode cX12_price 28 = .ok (.invokevirtual 51, 3) := by decide +kernel
theorem dX12_price_31 : decode cX12_price 31 = .ok (.istore_n 3, 1) := by decide +kernel
theorem dX12_price_32 : decode cX12_price 32 = .ok (.aload_n 0, 1) := by decide +kernel
theorem dX12_price_33 : decode cX12_price 33 = .ok (.getfield 7, 3) := by decide +kernel
theorem dX12_price_36 : decode cX12_price 36 = .ok (.bipush 44, 2) := by decide +kernel
theorem dX12_price_38 : decode cX12_price 38 = .ok (.iconst 4, 1) := by decide +kernel
theorem dX12_price_39 : decode cX12_price 39 = .ok (.iload_n 1, 1) := by decide +kernel
theorem dX12_price_40 : decode cX12_price 40 = .ok (.imul, 1) := by decide +kernel
theorem dX12_price_41 : decode cX12_price 41 = .ok (.iadd, 1) := by decide +kernel
theorem dX12_price_42 : decode cX12_price 42 = .ok (.iconst 1, 1) := by decide +kernel
theorem dX12_price_43 : decode cX12_price 43 = .ok (.iadd, 1) := by decide +kernel
theorem dX12_price_44 : decode cX12_price 44 = .ok (.iload_n 2, 1) := by decide +kernel
theorem dX12_price_45 : decode cX12_price 45 = .ok (.iastore, 1) := by decide +kernel
theorem dX12_price_46 : decode cX12_price 46 = .ok (.iload_n 3, 1) := by decide +kernel
theorem dX12_price_47 : decode cX12_price 47 = .ok (.ireturn, 1) := by decide +kernel
theorem dX12_keep_0 : decode cX12_keep 0 = .ok (.aload_n 0, 1) := by decide +kernel
theorem dX12_keep_1 : decode cX12_keep 1 = .ok (.iload_n 1, 1) := by decide +kernel
theorem dX12_keep_2 : decode cX12_keep 2 = .ok (.invokevirtual 92, 3) := by decide +kernel
theorem dX12_keep_5 : decode cX12_keep 5 = .ok (.ifCond .eq 12, 3) := by decide +kernel
theorem dX12_keep_8 : decode cX12_keep 8 = .ok (.iload_n 2, 1) := by decide +kernel
theorem dX12_keep_9 : decode cX12_keep 9 = .ok (.iconst 0, 1) := by decide +kernel
theorem dX12_keep_10 : decode cX12_keep 10 = .ok (.iconst 1, 1) := by decide +kernel
theorem dX12_keep_11 : decode cX12_keep 11 = .ok (.invokestatic 47, 3) := by decide +kernel
theorem dX12_keep_14 : decode cX12_keep 14 = .ok (.ifCond .ne 9, 3) := by decide +kernel
theorem dX12_keep_17 : decode cX12_keep 17 = .ok (.aload_n 0, 1) := by decide +kernel
theorem dX12_keep_18 : decode cX12_keep 18 = .ok (.iconst 1, 1) := by decide +kernel
theorem dX12_keep_19 : decode cX12_keep 19 = .ok (.invokevirtual 60, 3) := by decide +kernel
theorem dX12_keep_22 : decode cX12_keep 22 = .ok (.ireturn, 1) := by decide +kernel
theorem dX12_keep_23 : decode cX12_keep 23 = .ok (.aload_n 0, 1) := by decide +kernel
theorem dX12_keep_24 : decode cX12_keep 24 = .ok (.iload_n 1, 1) := by decide +kernel
theorem dX12_keep_25 : decode cX12_keep 25 = .ok (.iconst 3, 1) := by decide +kernel
theorem dX12_keep_26 : decode cX12_keep 26 = .ok (.invokevirtual 51, 3) := by decide +kernel
theorem dX12_keep_29 : decode cX12_keep 29 = .ok (.istore_n 3, 1) := by decide +kernel
theorem dX12_keep_30 : decode cX12_keep 30 = .ok (.iload_n 2, 1) := by decide +kernel
theorem dX12_keep_31 : decode cX12_keep 31 = .ok (.iconst 1, 1) := by decide +kernel
theorem dX12_keep_32 : decode cX12_keep 32 = .ok (.if_icmp .ne 33, 3) := by decide +kernel
theorem dX12_keep_35 : decode cX12_keep 35 = .ok (.iload_n 3, 1) := by decide +kernel
theorem dX12_keep_36 : decode cX12_keep 36 = .ok (.ifCond .ne 29, 3) := by decide +kernel
theorem dX12_keep_39 : decode cX12_keep 39 = .ok (.aload_n 0, 1) := by decide +kernel
theorem dX12_keep_40 : decode cX12_keep 40 = .ok (.aload_n 0, 1) := by decide +kernel
theorem dX12_keep_41 : decode cX12_keep 41 = .ok (.iload_n 1, 1) := by decide +kernel
theorem dX12_keep_42 : decode cX12_keep 42 = .ok (.invokevirtual 67, 3) := by decide +kernel
theorem dX12_keep_45 : decode cX12_keep 45 = .ok (.iconst 4, 1) := by decide +kernel
theorem dX12_keep_46 : decode cX12_keep 46 = .ok (.invokevirtual 85, 3) := by decide +kernel
theorem dX12_keep_49 : decode cX12_keep 49 = .ok (.aload_n 0, 1) := by decide +kernel
theorem dX12_keep_50 : decode cX12_keep 50 = .ok (.getfield 7, 3) := by decide +kernel
theorem dX12_keep_53 : decode cX12_keep 53 = .ok (.bipush 13, 2) := by decide +kernel
theorem dX12_keep_55 : decode cX12_keep 55 = .ok (.iaload, 1) := by decide +kernel
theorem dX12_keep_56 : decode cX12_keep 56 = .ok (.if_icmp .lt 9, 3) := by decide +kernel
theorem dX12_keep_59 : decode cX12_keep 59 = .ok (.aload_n 0, 1) := by decide +kernel
theorem dX12_keep_60 : decode cX12_keep 60 = .ok (.iconst 3, 1) := by decide +kernel
theorem dX12_keep_61 : decode cX12_keep 61 = .ok (.invokevirtual 60, 3) := by decide +kernel
theorem dX12_keep_64 : decode cX12_keep 64 = .ok (.ireturn, 1) := by decide +kernel
theorem dX12_keep_65 : decode cX12_keep 65 = .ok (.aload_n 0, 1) := by decide +kernel
theorem dX12_keep_66 : decode cX12_keep 66 = .ok (.getfield 7, 3) := by decide +kernel
theorem dX12_keep_69 : decode cX12_keep 69 = .ok (.bipush 44, 2) := by decide +kernel
theorem dX12_keep_71 : decode cX12_keep 71 = .ok (.iconst 4, 1) := by decide +kernel
theorem dX12_keep_72 : decode cX12_keep 72 = .ok (.iload_n 1, 1) := by decide +kernel
theorem dX12_keep_73 : decode cX12_keep 73 = .ok (.imul, 1) := by decide +kernel
theorem dX12_keep_74 : decode cX12_keep 74 = .ok (.iadd, 1) := by decide +kernel
theorem dX12_keep_75 : decode cX12_keep 75 = .ok (.iconst 3, 1) := by decide +kernel
theorem dX12_keep_76 : decode cX12_keep 76 = .ok (.iadd, 1) := by decide +kernel
theorem dX12_keep_77 : decode cX12_keep 77 = .ok (.iload_n 2, 1) := by decide +kernel
theorem dX12_keep_78 : decode cX12_keep 78 = .ok (.iastore, 1) := by decide +kernel
theorem dX12_keep_79 : decode cX12_keep 79 = .ok (.iload_n 3, 1) := by decide +kernel
theorem dX12_keep_80 : decode cX12_keep 80 = .ok (.ireturn, 1) := by decide +kernel
theorem dX12_pair_0 : decode cX12_pair 0 = .ok (.aload_n 0, 1) := by decide +kernel
theorem dX12_pair_1 : decode cX12_pair 1 = .ok (.iload_n 1, 1) := by decide +kernel
theorem dX12_pair_2 : decode cX12_pair 2 = .ok (.invokevirtual 92, 3) := by decide +kernel
theorem dX12_pair_5 : decode cX12_pair 5 = .ok (.ifCond .eq 27, 3) := by decide +kernel
theorem dX12_pair_8 : decode cX12_pair 8 = .ok (.aload_n 0, 1) := by decide +kernel
theorem dX12_pair_9 : decode cX12_pair 9 = .ok (.iload_n 2, 1) := by decide +kernel
theorem dX12_pair_10 : decode cX12_pair 10 = .ok (.invokevirtual 92, 3) := by decide +kernel
theorem dX12_pair_13 : decode cX12_pair 13 = .ok (.ifCond .eq 19, 3) := by decide +kernel
theorem dX12_pair_16 : decode cX12_pair 16 = .ok (.iload_n 1, 1) := by decide +kernel
theorem dX12_pair_17 : decode cX12_pair 17 = .ok (.iload_n 2, 1) := by decide +kernel
theorem dX12_pair_18 : decode cX12_pair 18 = .ok (.if_icmp .eq 14, 3) := by decide +kernel
theorem dX12_pair_21 : decode cX12_pair 21 = .ok (.iload_n 3, 1) := by decide +kernel
theorem dX12_pair_22 : decode cX12_pair 22 = .ok (.iconst 0, 1) := by decide +kernel
theorem dX12_pair_23 : decode cX12_pair 23 = .ok (.sipush 9999, 3) := by decide +kernel
theorem dX12_pair_26 : decode cX12_pair 26 = .ok (.invokestatic 47, 3) := by decide +kernel
theorem dX12_pair_29 : decode cX12_pair 29 = .ok (.ifCond .ne 9, 3) := by decide +kernel
theorem dX12_pair_32 : decode cX12_pair 32 = .ok (.aload_n 0, 1) := by decide +kernel
theorem dX12_pair_33 : decode cX12_pair 33 = .ok (.iconst 1, 1) := by decide +kernel
theorem dX12_pair_34 : decode cX12_pair 34 = .ok (.invokevirtual 60, 3) := by decide +kernel
theorem dX12_pair_37 : decode cX12_pair 37 = .ok (.ireturn, 1) := by decide +kernel
theorem dX12_pair_38 : decode cX12_pair 38 = .ok (.aload_n 0, 1) := by decide +kernel
theorem dX12_pair_39 : decode cX12_pair 39 = .ok (.getfield 7, 3) := by decide +kernel
theorem dX12_pair_42 : decode cX12_pair 42 = .ok (.iconst 2, 1) := by decide +kernel
theorem dX12_pair_43 : decode cX12_pair 43 = .ok (.iaload, 1) := by decide +kernel
theorem dX12_pair_44 : decode cX12_pair 44 = .ok (.bipush 6, 2) := by decide +kernel
theorem dX12_pair_46 : decode cX12_pair 46 = .ok (.if_icmp .ne 9, 3) := by decide +kernel
theorem dX12_pair_49 : decode cX12_pair 49 = .ok (.aload_n 0, 1) := by decide +kernel
theorem dX12_pair_50 : decode cX12_pair 50 = .ok (.iconst 4, 1) := by decide +kernel
theorem dX12_pair_51 : decode cX12_pair 51 = .ok (.invokevirtual 60, 3) := by decide +kernel
theorem dX12_pair_54 : decode cX12_pair 54 = .ok (.ireturn, 1) := by decide +kernel
theorem dX12_pair_55 : decode cX12_pair 55 = .ok (.bipush 92, 2) := by decide +kernel
theorem dX12_pair_57 : decode cX12_pair 57 = .ok (.iconst 3, 1) := by decide +kernel
theorem dX12_pair_58 : decode cX12_pair 58 = .ok (.aload_n 0, 1) := by decide +kernel
theorem dX12_pair_59 : decode cX12_pair 59 = .ok (.getfield 7, 3) := by decide +kernel
theorem dX12_pair_62 : decode cX12_pair 62 = .ok (.iconst 2, 1) := by decide +kernel
theorem dX12_pair_63 : decode cX12_pair 63 = .ok (.iaload, 1) := by decide +kernel
theorem dX12_pair_64 : decode cX12_pair 64 = .ok (.imul, 1) := by decide +kernel
theorem dX12_pair_65 : decode cX12_pair 65 = .ok (.iadd, 1) := by decide +kernel
theorem dX12_pair_66 : decode cX12_pair 66 = .ok (.istore 4, 2) := by decide +kernel
theorem dX12_pair_68 : decode cX12_pair 68 = .ok (.aload_n 0, 1) := by decide +kernel
theorem dX12_pair_69 : decode cX12_pair 69 = .ok (.getfield 7, 3) := by decide +kernel
theorem dX12_pair_72 : decode cX12_pair 72 = .ok (.iload 4, 2) := by decide +kernel
theorem dX12_pair_74 : decode cX12_pair 74 = .ok (.iload_n 1, 1) := by decide +kernel
theorem dX12_pair_75 : decode cX12_pair 75 = .ok (.iastore, 1) := by decide +kernel
theorem dX12_pair_76 : decode cX12_pair 76 = .ok (.aload_n 0, 1) := by decide +kernel
theorem dX12_pair_77 : decode cX12_pair 77 = .ok (.getfield 7, 3) := by decide +kernel
theorem dX12_pair_80 : decode cX12_pair 80 = .ok (.iload 4, 2) := by decide +kernel
theorem dX12_pair_82 : decode cX12_pair 82 = .ok (.iconst 1, 1) := by decide +kernel
theorem dX12_pair_83 : decode cX12_pair 83 = .ok (.iadd, 1) := by decide +kernel
theorem dX12_pair_84 : decode cX12_pair 84 = .ok (.iload_n 2, 1) := by decide +kernel
theorem dX12_pair_85 : decode cX12_pair 85 = .ok (.iastore, 1) := by decide +kernel
theorem dX12_pair_86 : decode cX12_pair 86 = .ok (.aload_n 0, 1) := by decide +kernel
theorem dX12_pair_87 : decode cX12_pair 87 = .ok (.getfield 7, 3) := by decide +kernel
theorem dX12_pair_90 : decode cX12_pair 90 = .ok (.iload 4, 2) := by decide +kernel
theorem dX12_pair_92 : decode cX12_pair 92 = .ok (.iconst 2, 1) := by decide +kernel
theorem dX12_pair_93 : decode cX12_pair 93 = .ok (.iadd, 1) := by decide +kernel
theorem dX12_pair_94 : decode cX12_pair 94 = .ok (.iload_n 3, 1) := by decide +kernel
theorem dX12_pair_95 : decode cX12_pair 95 = .ok (.iastore, 1) := by decide +kernel
theorem dX12_pair_96 : decode cX12_pair 96 = .ok (.aload_n 0, 1) := by decide +kernel
theorem dX12_pair_97 : decode cX12_pair 97 = .ok (.getfield 7, 3) := by decide +kernel
theorem dX12_pair_100 : decode cX12_pair 100 = .ok (.iconst 2, 1) := by decide +kernel
theorem dX12_pair_101 : decode cX12_pair 101 = .ok (.dup2, 1) := by decide +kernel
theorem dX12_pair_102 : decode cX12_pair 102 = .ok (.iaload, 1) := by decide +kernel
theorem dX12_pair_103 : decode cX12_pair 103 = .ok (.iconst 1, 1) := by decide +kernel
theorem dX12_pair_104 : decode cX12_pair 104 = .ok (.iadd, 1) := by decide +kernel
theorem dX12_pair_105 : decode cX12_pair 105 = .ok (.iastore, 1) := by decide +kernel
theorem dX12_pair_106 : decode cX12_pair 106 = .ok (.aload_n 0, 1) := by decide +kernel
theorem dX12_pair_107 : decode cX12_pair 107 = .ok (.getfield 7, 3) := by decide +kernel
theorem dX12_pair_110 : decode cX12_pair 110 = .ok (.iconst 2, 1) := by decide +kernel
theorem dX12_pair_111 : decode cX12_pair 111 = .ok (.iaload, 1) := by decide +kernel
theorem dX12_pair_112 : decode cX12_pair 112 = .ok (.iconst 1, 1) := by decide +kernel
theorem dX12_pair_113 : decode cX12_pair 113 = .ok (.isub, 1) := by decide +kernel
theorem dX12_pair_114 : decode cX12_pair 114 = .ok (.ireturn, 1) := by decide +kernel
theorem dX12_hasBonus_0 : decode cX12_hasBonus 0 = .ok (.aload_n 0, 1) := by decide +kernel
theorem dX12_hasBonus_1 : decode cX12_hasBonus 1 = .ok (.iload_n 1, 1) := by decide +kernel
theorem dX12_hasBonus_2 : decode cX12_hasBonus 2 = .ok (.iconst 0, 1) := by decide +kernel
theorem dX12_hasBonus_3 : decode cX12_hasBonus 3 = .ok (.invokevirtual 64, 3) := by decide +kernel
theorem dX12_hasBonus_6 : decode cX12_hasBonus 6 = .ok (.istore_n 2, 1) := by decide +kernel
theorem dX12_hasBonus_7 : decode cX12_hasBonus 7 = .ok (.aload_n 0, 1) := by decide +kernel
theorem dX12_hasBonus_8 : decode cX12_hasBonus 8 = .ok (.iload_n 1, 1) := by decide +kernel
theorem dX12_hasBonus_9 : decode cX12_hasBonus 9 = .ok (.iconst 1, 1) := by decide +kernel
theorem dX12_hasBonus_10 : decode cX12_hasBonus 10 = .ok (.invokevirtual 64, 3) := by decide +kernel
theorem dX12_hasBonus_13 : decode cX12_hasBonus 13 = .ok (.istore_n 3, 1) := by decide +kernel
theorem dX12_hasBonus_14 : decode cX12_hasBonus 14 = .ok (.aload_n 0, 1) := by decide +kernel
theorem dX12_hasBonus_15 : decode cX12_hasBonus 15 = .ok (.iload_n 2, 1) := by decide +kernel
theorem dX12_hasBonus_16 : decode cX12_hasBonus 16 = .ok (.iconst 2, 1) := by decide +kernel
theorem dX12_hasBonus_17 : decode cX12_hasBonus 17 = .ok (.invokevirtual 51, 3) := by decide +kernel
theorem dX12_hasBonus_20 : decode cX12_hasBonus 20 = .ok (.bipush 50, 2) := by decide +kernel
theorem dX12_hasBonus_22 : decode cX12_hasBonus 22 = .ok (.if_icmp .lt 18, 3) := by decide +kernel
theorem dX12_hasBonus_25 : decode cX12_hasBonus 25 = .ok (.aload_n 0, 1) := by decide +kernel
theorem dX12_hasBonus_26 : decode cX12_hasBonus 26 = .ok (.iload_n 3, 1) := by decide +kernel
theorem dX12_hasBonus_27 : decode cX12_hasBonus 27 = .ok (.iconst 2, 1) := by decide +kernel
theorem dX12_hasBonus_28 : decode cX12_hasBonus 28 = .ok (.invokevirtual 51, 3) := by decide +kernel
theorem dX12_hasBonus_31 : decode cX12_hasBonus 31 = .ok (.bipush 50, 2) := by decide +kernel
theorem dX12_hasBonus_33 : decode cX12_hasBonus 33 = .ok (.if_icmp .lt 7, 3) := by decide +kernel
theorem dX12_hasBonus_36 : decode cX12_hasBonus 36 = .ok (.iconst 1, 1) := by decide +kernel
theorem dX12_hasBonus_37 : decode cX12_hasBonus 37 = .ok (.goto 4, 3) := by decide +kernel
theorem dX12_hasBonus_40 : decode cX12_hasBonus 40 = .ok (.iconst 0, 1) := by decide +kernel
theorem dX12_hasBonus_41 : decode cX12_hasBonus 41 = .ok (.istore 4, 2) := by decide +kernel
theorem dX12_hasBonus_43 : decode cX12_hasBonus 43 = .ok (.iload 4, 2) := by decide +kernel
theorem dX12_hasBonus_45 : decode cX12_hasBonus 45 = .ok (.ifCond .eq 24, 3) := by decide +kernel
theorem dX12_hasBonus_48 : decode cX12_hasBonus 48 = .ok (.aload_n 0, 1) := by decide +kernel
theorem dX12_hasBonus_49 : decode cX12_hasBonus 49 = .ok (.iload_n 2, 1) := by decide +kernel
theorem dX12_hasBonus_50 : decode cX12_hasBonus 50 = .ok (.invokevirtual 67, 3) := by decide +kernel
theorem dX12_hasBonus_53 : decode cX12_hasBonus 53 = .ok (.aload_n 0, 1) := by decide +kernel
theorem dX12_hasBonus_54 : decode cX12_hasBonus 54 = .ok (.iload_n 3, 1) := by decide +kernel
theorem dX12_hasBonus_55 : decode cX12_hasBonus 55 = .ok (.invokevirtual 67, 3) := by decide +kernel
theorem dX12_hasBonus_58 : decode cX12_hasBonus 58 = .ok (.if_icmp .ne 11, 3) := by decide +kernel
theorem dX12_hasBonus_61 : decode cX12_hasBonus 61 = .ok (.aload_n 0, 1) := by decide +kernel
theorem dX12_hasBonus_62 : decode cX12_hasBonus 62 = .ok (.iload_n 2, 1) := by decide +kernel
theorem dX12_hasBonus_63 : decode cX12_hasBonus 63 = .ok (.invokevirtual 67, 3) := by decide +kernel
theorem dX12_hasBonus_66 : decode cX12_hasBonus 66 = .ok (.goto 4, 3) := by decide +kernel
theorem dX12_hasBonus_69 : decode cX12_hasBonus 69 = .ok (.iconst (-1), 1) := by decide +kernel
theorem dX12_hasBonus_70 : decode cX12_hasBonus 70 = .ok (.ireturn, 1) := by decide +kernel
theorem dX12_pairIs_0 : decode cX12_pairIs 0 = .ok (.iload_n 1, 1) := by decide +kernel
theorem dX12_pairIs_1 : decode cX12_pairIs 1 = .ok (.iconst 0, 1) := by decide +kernel
theorem dX12_pairIs_2 : decode cX12_pairIs 2 = .ok (.aload_n 0, 1) := by decide +kernel
theorem dX12_pairIs_3 : decode cX12_pairIs 3 = .ok (.getfield 7, 3) := by decide +kernel
theorem dX12_pairIs_6 : decode cX12_pairIs 6 = .ok (.iconst 2, 1) := by decide +kernel
theorem dX12_pairIs_7 : decode cX12_pairIs 7 = .ok (.iaload, 1) := by decide +kernel
theorem dX12_pairIs_8 : decode cX12_pairIs 8 = .ok (.iconst 1, 1) := by decide +kernel
theorem dX12_pairIs_9 : decode cX12_pairIs 9 = .ok (.isub, 1) := by decide +kernel
theorem dX12_pairIs_10 : decode cX12_pairIs 10 = .ok (.invokestatic 47, 3) := by decide +kernel
theorem dX12_pairIs_13 : decode cX12_pairIs 13 = .ok (.ifCond .eq 12, 3) := by decide +kernel
theorem dX12_pairIs_16 : decode cX12_pairIs 16 = .ok (.iload_n 2, 1) := by decide +kernel
theorem dX12_pairIs_17 : decode cX12_pairIs 17 = .ok (.iconst 0, 1) := by decide +kernel
theorem dX12_pairIs_18 : decode cX12_pairIs 18 = .ok (.iconst 3, 1) := by decide +kernel
theorem dX12_pairIs_19 : decode cX12_pairIs 19 = .ok (.invokestatic 47, 3) := by decide +kernel
theorem dX12_pairIs_22 : decode cX12_pairIs 22 = .ok (.ifCond .ne 9, 3) := by decide +kernel
theorem dX12_pairIs_25 : decode cX12_pairIs 25 = .ok (.aload_n 0, 1) := by decide +kernel
theorem dX12_pairIs_26 : decode cX12_pairIs 26 = .ok (.iconst 1, 1) := by decide +kernel
theorem dX12_pairIs_27 : decode cX12_pairIs 27 = .ok (.invokevirtual 60, 3) := by decide +kernel
theorem dX12_pairIs_30 : decode cX12_pairIs 30 = .ok (.ireturn, 1) := by decide +kernel
theorem dX12_pairIs_31 : decode cX12_pairIs 31 = .ok (.iload_n 2, 1) := by decide +kernel
theorem dX12_pairIs_32 : decode cX12_pairIs 32 = .ok (.iconst 3, 1) := by decide +kernel
theorem dX12_pairIs_33 : decode cX12_pairIs 33 = .ok (.if_icmp .ge 12, 3) := by decide +kernel
theorem dX12_pairIs_36 : decode cX12_pairIs 36 = .ok (.aload_n 0, 1) := by decide +kernel
theorem dX12_pairIs_37 : decode cX12_pairIs 37 = .ok (.iload_n 1, 1) := by decide +kernel
theorem dX12_pairIs_38 : decode cX12_pairIs 38 = .ok (.iload_n 2, 1) := by decide +kernel
theorem dX12_pairIs_39 : decode cX12_pairIs 39 = .ok (.invokevirtual 64, 3) := by decide +kernel
theorem dX12_pairIs_42 : decode cX12_pairIs 42 = .ok (.goto 8, 3) := by decide +kernel
theorem dX12_pairIs_45 : decode cX12_pairIs 45 = .ok (.aload_n 0, 1) := by decide +kernel
theorem dX12_pairIs_46 : decode cX12_pairIs 46 = .ok (.iload_n 1, 1) := by decide +kernel
theorem dX12_pairIs_47 : decode cX12_pairIs 47 = .ok (.invokevirtual 98, 3) := by decide +kernel
theorem dX12_pairIs_50 : decode cX12_pairIs 50 = .ok (.ireturn, 1) := by decide +kernel
theorem dX12_mostOf_0 : decode cX12_mostOf 0 = .ok (.iload_n 0, 1) := by decide +kernel
theorem dX12_mostOf_1 : decode cX12_mostOf 1 = .ok (.iconst 2, 1) := by decide +kernel
theorem dX12_mostOf_2 : decode cX12_mostOf 2 = .ok (.if_icmp .ne 7, 3) := by decide +kernel
theorem dX12_mostOf_5 : decode cX12_mostOf 5 = .ok (.iconst 2, 1) := by decide +kernel
theorem dX12_mostOf_6 : decode cX12_mostOf 6 = .ok (.goto 26, 3) := by decide +kernel
theorem dX12_mostOf_9 : decode cX12_mostOf 9 = .ok (.iload_n 0, 1) := by decide +kernel
theorem dX12_mostOf_10 : decode cX12_mostOf 10 = .ok (.iconst 3, 1) := by decide +kernel
theorem dX12_mostOf_11 : decode cX12_mostOf 11 = .ok (.if_icmp .ne 8, 3) := by decide +kernel
theorem dX12_mostOf_14 : decode cX12_mostOf 14 = .ok (.bipush 9, 2) := by decide +kernel
theorem dX12_mostOf_16 : decode cX12_mostOf 16 = .ok (.goto 16, 3) := by decide +kernel
theorem dX12_mostOf_19 : decode cX12_mostOf 19 = .ok (.iload_n 0, 1) := by decide +kernel
theorem dX12_mostOf_20 : decode cX12_mostOf 20 = .ok (.iconst 4, 1) := by decide +kernel
theorem dX12_mostOf_21 : decode cX12_mostOf 21 = .ok (.if_icmp .ne 9, 3) := by decide +kernel
theorem dX12_mostOf_24 : decode cX12_mostOf 24 = .ok (.sipush 999, 3) := by decide +kernel
theorem dX12_mostOf_27 : decode cX12_mostOf 27 = .ok (.goto 5, 3) := by decide +kernel
theorem dX12_mostOf_30 : decode cX12_mostOf 30 = .ok (.bipush 99, 2) := by decide +kernel
theorem dX12_mostOf_32 : decode cX12_mostOf 32 = .ok (.ireturn, 1) := by decide +kernel
theorem dX12_rule_0 : decode cX12_rule 0 = .ok (.iload_n 1, 1) := by decide +kernel
theorem dX12_rule_1 : decode cX12_rule 1 = .ok (.iconst 0, 1) := by decide +kernel
theorem dX12_rule_2 : decode cX12_rule 2 = .ok (.iconst 4, 1) := by decide +kernel
theorem dX12_rule_3 : decode cX12_rule 3 = .ok (.invokestatic 47, 3) := by decide +kernel
theorem dX12_rule_6 : decode cX12_rule 6 = .ok (.ifCond .eq 15, 3) := by decide +kernel
theorem dX12_rule_9 : decode cX12_rule 9 = .ok (.iload_n 2, 1) := by decide +kernel
theorem dX12_rule_10 : decode cX12_rule 10 = .ok (.iconst 0, 1) := by decide +kernel
theorem dX12_rule_11 : decode cX12_rule 11 = .ok (.iload_n 1, 1) := by decide +kernel
theorem dX12_rule_12 : decode cX12_rule 12 = .ok (.invokestatic 101, 3) := by decide +kernel
theorem dX12_rule_15 : decode cX12_rule 15 = .ok (.invokestatic 47, 3) := by decide +kernel
theorem dX12_rule_18 : decode cX12_rule 18 = .ok (.ifCond .ne 9, 3) := by decide +kernel
theorem dX12_rule_21 : decode cX12_rule 21 = .ok (.aload_n 0, 1) := by decide +kernel
theorem dX12_rule_22 : decode cX12_rule 22 = .ok (.iconst 1, 1) := by decide +kernel
theorem dX12_rule_23 : decode cX12_rule 23 = .ok (.invokevirtual 60, 3) := by decide +kernel
theorem dX12_rule_26 : decode cX12_rule 26 = .ok (.ireturn, 1) := by decide +kernel
theorem dX12_rule_27 : decode cX12_rule 27 = .ok (.aload_n 0, 1) := by decide +kernel
theorem dX12_rule_28 : decode cX12_rule 28 = .ok (.getfield 7, 3) := by decide +kernel
theorem dX12_rule_31 : decode cX12_rule 31 = .ok (.bipush 10, 2) := by decide +kernel
theorem dX12_rule_33 : decode cX12_rule 33 = .ok (.iload_n 1, 1) := by decide +kernel
theorem dX12_rule_34 : decode cX12_rule 34 = .ok (.iadd, 1) := by decide +kernel
theorem dX12_rule_35 : decode cX12_rule 35 = .ok (.iaload, 1) := by decide +kernel
theorem dX12_rule_36 : decode cX12_rule 36 = .ok (.istore_n 3, 1) := by decide +kernel
theorem dX12_rule_37 : decode cX12_rule 37 = .ok (.aload_n 0, 1) := by decide +kernel
theorem dX12_rule_38 : decode cX12_rule 38 = .ok (.getfield 7, 3) := by decide +kernel
theorem dX12_rule_41 : decode cX12_rule 41 = .ok (.bipush 10, 2) := by decide +kernel
theorem dX12_rule_43 : decode cX12_rule 43 = .ok (.iload_n 1, 1) := by decide +kernel
theorem dX12_rule_44 : decode cX12_rule 44 = .ok (.iadd, 1) := by decide +kernel
theorem dX12_rule_45 : decode cX12_rule 45 = .ok (.iload_n 2, 1) := by decide +kernel
theorem dX12_rule_46 : decode cX12_rule 46 = .ok (.iastore, 1) := by decide +kernel
theorem dX12_rule_47 : decode cX12_rule 47 = .ok (.iload_n 3, 1) := by decide +kernel
theorem dX12_rule_48 : decode cX12_rule 48 = .ok (.ireturn, 1) := by decide +kernel
theorem dX12_feed_0 : decode cX12_feed 0 = .ok (.iload_n 3, 1) := by decide +kernel
theorem dX12_feed_1 : decode cX12_feed 1 = .ok (.iconst 1, 1) := by decide +kernel
theorem dX12_feed_2 : decode cX12_feed 2 = .ok (.bipush 8, 2) := by decide +kernel
theorem dX12_feed_4 : decode cX12_feed 4 = .ok (.invokestatic 47, 3) := by decide +kernel
theorem dX12_feed_7 : decode cX12_feed 7 = .ok (.ifCond .ne 9, 3) := by decide +kernel
theorem dX12_feed_10 : decode cX12_feed 10 = .ok (.aload_n 0, 1) := by decide +kernel
theorem dX12_feed_11 : decode cX12_feed 11 = .ok (.iconst 1, 1) := by decide +kernel
theorem dX12_feed_12 : decode cX12_feed 12 = .ok (.invokevirtual 60, 3) := by decide +kernel
theorem dX12_feed_15 : decode cX12_feed 15 = .ok (.ireturn, 1) := by decide +kernel
theorem dX12_feed_16 : decode cX12_feed 16 = .ok (.aload_n 0, 1) := by decide +kernel
theorem dX12_feed_17 : decode cX12_feed 17 = .ok (.getfield 7, 3) := by decide +kernel
theorem dX12_feed_20 : decode cX12_feed 20 = .ok (.bipush 6, 2) := by decide +kernel
theorem dX12_feed_22 : decode cX12_feed 22 = .ok (.iaload, 1) := by decide +kernel
theorem dX12_feed_23 : decode cX12_feed 23 = .ok (.iload_n 3, 1) := by decide +kernel
theorem dX12_feed_24 : decode cX12_feed 24 = .ok (.iadd, 1) := by decide +kernel
theorem dX12_feed_25 : decode cX12_feed 25 = .ok (.bipush 60, 2) := by decide +kernel
theorem dX12_feed_27 : decode cX12_feed 27 = .ok (.if_icmp .le 9, 3) := by decide +kernel
theorem dX12_feed_30 : decode cX12_feed 30 = .ok (.aload_n 0, 1) := by decide +kernel
theorem dX12_feed_31 : decode cX12_feed 31 = .ok (.iconst 4, 1) := by decide +kernel
theorem dX12_feed_32 : decode cX12_feed 32 = .ok (.invokevirtual 60, 3) := by decide +kernel
theorem dX12_feed_35 : decode cX12_feed 35 = .ok (.ireturn, 1) := by decide +kernel
theorem dX12_feed_36 : decode cX12_feed 36 = .ok (.iconst 0, 1) := by decide +kernel
theorem dX12_feed_37 : decode cX12_feed 37 = .ok (.istore 4, 2) := by decide +kernel
theorem dX12_feed_39 : decode cX12_feed 39 = .ok (.iload 4, 2) := by decide +kernel
theorem dX12_feed_41 : decode cX12_feed 41 = .ok (.iload_n 3, 1) := by decide +kernel
theorem dX12_feed_42 : decode cX12_feed 42 = .ok (.if_icmp .ge 48, 3) := by decide +kernel
theorem dX12_feed_45 : decode cX12_feed 45 = .ok (.aload_n 0, 1) := by decide +kernel
theorem dX12_feed_46 : decode cX12_feed 46 = .ok (.getfield 7, 3) := by decide +kernel
theorem dX12_feed_49 : decode cX12_feed 49 = .ok (.sipush 432, 3) := by decide +kernel
theorem dX12_feed_52 : decode cX12_feed 52 = .ok (.aload_n 0, 1) := by decide +kernel
theorem dX12_feed_53 : decode cX12_feed 53 = .ok (.getfield 7, 3) := by decide +kernel
theorem dX12_feed_56 : decode cX12_feed 56 = .ok (.bipush 6, 2) := by decide +kernel
theorem dX12_feed_58 : decode cX12_feed 58 = .ok (.iaload, 1) := by decide +kernel
theorem dX12_feed_59 : decode cX12_feed 59 = .ok (.iadd, 1) := by decide +kernel
theorem dX12_feed_60 : decode cX12_feed 60 = .ok (.lload_n 1, 1) := by decide +kernel
theorem dX12_feed_61 : decode cX12_feed 61 = .ok (.bipush 8, 2) := by decide +kernel
theorem dX12_feed_63 : decode cX12_feed 63 = .ok (.iload 4, 2) := by decide +kernel
theorem dX12_feed_65 : decode cX12_feed 65 = .ok (.imul, 1) := by decide +kernel
theorem dX12_feed_66 : decode cX12_feed 66 = .ok (.lshr, 1) := by decide +kernel
theorem dX12_feed_67 : decode cX12_feed 67 = .ok (.ldc2_w 104, 3) := by decide +kernel
theorem dX12_feed_70 : decode cX12_feed 70 = .ok (.land, 1) := by decide +kernel
theorem dX12_feed_71 : decode cX12_feed 71 = .ok (.l2i, 1) := by decide +kernel
theorem dX12_feed_72 : decode cX12_feed 72 = .ok (.iastore, 1) := by decide +kernel
theorem dX12_feed_73 : decode cX12_feed 73 = .ok (.aload_n 0, 1) := by decide +kernel
theorem dX12_feed_74 : decode cX12_feed 74 = .ok (.getfield 7, 3) := by decide +kernel
theorem dX12_feed_77 : decode cX12_feed 77 = .ok (.bipush 6, 2) := by decide +kernel
theorem dX12_feed_79 : decode cX12_feed 79 = .ok (.dup2, 1) := by decide +kernel
theorem dX12_feed_80 : decode cX12_feed 80 = .ok (.iaload, 1) := by decide +kernel
theorem dX12_feed_81 : decode cX12_feed 81 = .ok (.iconst 1, 1) := by decide +kernel
theorem dX12_feed_82 : decode cX12_feed 82 = .ok (.iadd, 1) := by decide +kernel
theorem dX12_feed_83 : decode cX12_feed 83 = .ok (.iastore, 1) := by decide +kernel
theorem dX12_feed_84 : decode cX12_feed 84 = .ok (.iinc 4 1, 3) := by decide +kernel
theorem dX12_feed_87 : decode cX12_feed 87 = .ok (.goto (-48), 3) := by decide +kernel
theorem dX12_feed_90 : decode cX12_feed 90 = .ok (.aload_n 0, 1) := by decide +kernel
theorem dX12_feed_91 : decode cX12_feed 91 = .ok (.getfield 7, 3) := by decide +kernel
theorem dX12_feed_94 : decode cX12_feed 94 = .ok (.bipush 6, 2) := by decide +kernel
theorem dX12_feed_96 : decode cX12_feed 96 = .ok (.iaload, 1) := by decide +kernel
theorem dX12_feed_97 : decode cX12_feed 97 = .ok (.ireturn, 1) := by decide +kernel
theorem dX12_look_0 : decode cX12_look 0 = .ok (.aload_n 0, 1) := by decide +kernel
theorem dX12_look_1 : decode cX12_look 1 = .ok (.getfield 106, 3) := by decide +kernel
theorem dX12_look_4 : decode cX12_look 4 = .ok (.aload_n 0, 1) := by decide +kernel
theorem dX12_look_5 : decode cX12_look 5 = .ok (.getfield 7, 3) := by decide +kernel
theorem dX12_look_8 : decode cX12_look 8 = .ok (.bipush 6, 2) := by decide +kernel
theorem dX12_look_10 : decode cX12_look 10 = .ok (.iaload, 1) := by decide +kernel
theorem dX12_look_11 : decode cX12_look 11 = .ok (.if_icmp .ge 19, 3) := by decide +kernel
theorem dX12_look_14 : decode cX12_look 14 = .ok (.aload_n 0, 1) := by decide +kernel
theorem dX12_look_15 : decode cX12_look 15 = .ok (.getfield 7, 3) := by decide +kernel
theorem dX12_look_18 : decode cX12_look 18 = .ok (.sipush 432, 3) := by decide +kernel
theorem dX12_look_21 : decode cX12_look 21 = .ok (.aload_n 0, 1) := by decide +kernel
theorem dX12_look_22 : decode cX12_look 22 = .ok (.getfield 106, 3) := by decide +kernel
theorem dX12_look_25 : decode cX12_look 25 = .ok (.iadd, 1) := by decide +kernel
theorem dX12_look_26 : decode cX12_look 26 = .ok (.iaload, 1) := by decide +kernel
theorem dX12_look_27 : decode cX12_look 27 = .ok (.goto 4, 3) := by decide +kernel
theorem dX12_look_30 : decode cX12_look 30 = .ok (.iconst (-1), 1) := by decide +kernel
theorem dX12_look_31 : decode cX12_look 31 = .ok (.ireturn, 1) := by decide +kernel
theorem dX12_isName_0 : decode cX12_isName 0 = .ok (.iload_n 1, 1) := by decide +kernel
theorem dX12_isName_1 : decode cX12_isName 1 = .ok (.bipush 118, 2) := by decide +kernel
theorem dX12_isName_3 : decode cX12_isName 3 = .ok (.if_icmp .eq 9, 3) := by decide +kernel
theorem dX12_isName_6 : decode cX12_isName 6 = .ok (.iload_n 1, 1) := by decide +kernel
theorem dX12_isName_7 : decode cX12_isName 7 = .ok (.bipush 114, 2) := by decide +kernel
theorem dX12_isName_9 : decode cX12_isName 9 = .ok (.if_icmp .ne 5, 3) := by decide +kernel
theorem dX12_isName_12 : decode cX12_isName 12 = .ok (.iconst 1, 1) := by decide +kernel
theorem dX12_isName_13 : decode cX12_isName 13 = .ok (.ireturn, 1) := by decide +kernel
theorem dX12_isName_14 : decode cX12_isName 14 = .ok (.aload_n 0, 1) := by decide +kernel
theorem dX12_isName_15 : decode cX12_isName 15 = .ok (.getfield 110, 3) := by decide +kernel
theorem dX12_isName_18 : decode cX12_isName 18 = .ok (.ifCond .ne 29, 3) := by decide +kernel
theorem dX12_isName_21 : decode cX12_isName 21 = .ok (.iload_n 1, 1) := by decide +kernel
theorem dX12_isName_22 : decode cX12_isName 22 = .ok (.bipush 109, 2) := by decide +kernel
theorem dX12_isName_24 : decode cX12_isName 24 = .ok (.if_icmp .eq 15, 3) := by decide +kernel
theorem dX12_isName_27 : decode cX12_isName 27 = .ok (.iload_n 1, 1) := by decide +kernel
theorem dX12_isName_28 : decode cX12_isName 28 = .ok (.bipush 112, 2) := by decide +kernel
theorem dX12_isName_30 : decode cX12_isName 30 = .ok (.if_icmp .eq 9, 3) := by decide +kernel
theorem dX12_isName_33 : decode cX12_isName 33 = .ok (.iload_n 1, 1) := by decide +kernel
theorem dX12_isName_34 : decode cX12_isName 34 = .ok (.bipush 121, 2) := by decide +kernel
theorem dX12_isName_36 : decode cX12_isName 36 = .ok (.if_icmp .ne 7, 3) := by decide +kernel
theorem dX12_isName_39 : decode cX12_isName 39 = .ok (.iconst 1, 1) := by decide +kernel
theorem dX12_isName_40 : decode cX12_isName 40 = .ok (.goto 30, 3) := by decide +kernel
theorem dX12_isName_43 : decode cX12_isName 43 = .ok (.iconst 0, 1) := by decide +kernel
theorem dX12_isName_44 : decode cX12_isName 44 = .ok (.goto 26, 3) := by decide +kernel
theorem dX12_isName_47 : decode cX12_isName 47 = .ok (.iload_n 1, 1) := by decide +kernel
theorem dX12_isName_48 : decode cX12_isName 48 = .ok (.bipush 115, 2) := by decide +kernel
theorem dX12_isName_50 : decode cX12_isName 50 = .ok (.if_icmp .eq 15, 3) := by decide +kernel
theorem dX12_isName_53 : decode cX12_isName 53 = .ok (.iload_n 1, 1) := by decide +kernel
theorem dX12_isName_54 : decode cX12_isName 54 = .ok (.bipush 99, 2) := by decide +kernel
theorem dX12_isName_56 : decode cX12_isName 56 = .ok (.if_icmp .eq 9, 3) := by decide +kernel
theorem dX12_isName_59 : decode cX12_isName 59 = .ok (.iload_n 1, 1) := by decide +kernel
theorem dX12_isName_60 : decode cX12_isName 60 = .ok (.bipush 117, 2) := by decide +kernel
theorem dX12_isName_62 : decode cX12_isName 62 = .ok (.if_icmp .ne 7, 3) := by decide +kernel
theorem dX12_isName_65 : decode cX12_isName 65 = .ok (.iconst 1, 1) := by decide +kernel
theorem dX12_isName_66 : decode cX12_isName 66 = .ok (.goto 4, 3) := by decide +kernel
theorem dX12_isName_69 : decode cX12_isName 69 = .ok (.iconst 0, 1) := by decide +kernel
theorem dX12_isName_70 : decode cX12_isName 70 = .ok (.ireturn, 1) := by decide +kernel
theorem dX12_lays_0 : decode cX12_lays 0 = .ok (.aload_n 0, 1) := by decide +kernel
theorem dX12_lays_1 : decode cX12_lays 1 = .ok (.getfield 22, 3) := by decide +kernel
theorem dX12_lays_4 : decode cX12_lays 4 = .ok (.iconst 2, 1) := by decide +kernel
theorem dX12_lays_5 : decode cX12_lays 5 = .ok (.aload_n 0, 1) := by decide +kernel
theorem dX12_lays_6 : decode cX12_lays 6 = .ok (.getfield 113, 3) := by decide +kernel
theorem dX12_lays_9 : decode cX12_lays 9 = .ok (.imul, 1) := by decide +kernel
theorem dX12_lays_10 : decode cX12_lays 10 = .ok (.iload_n 1, 1) := by decide +kernel
theorem dX12_lays_11 : decode cX12_lays 11 = .ok (.iastore, 1) := by decide +kernel
theorem dX12_lays_12 : decode cX12_lays 12 = .ok (.aload_n 0, 1) := by decide +kernel
theorem dX12_lays_13 : decode cX12_lays 13 = .ok (.getfield 22, 3) := by decide +kernel
theorem dX12_lays_16 : decode cX12_lays 16 = .ok (.iconst 2, 1) := by decide +kernel
theorem dX12_lays_17 : decode cX12_lays 17 = .ok (.aload_n 0, 1) := by decide +kernel
theorem dX12_lays_18 : decode cX12_lays 18 = .ok (.getfield 113, 3) := by decide +kernel
theorem dX12_lays_21 : decode cX12_lays 21 = .ok (.imul, 1) := by decide +kernel
theorem dX12_lays_22 : decode cX12_lays 22 = .ok (.iconst 1, 1) := by decide +kernel
theorem dX12_lays_23 : decode cX12_lays 23 = .ok (.iadd, 1) := by decide +kernel
theorem dX12_lays_24 : decode cX12_lays 24 = .ok (.iload_n 2, 1) := by decide +kernel
theorem dX12_lays_25 : decode cX12_lays 25 = .ok (.iastore, 1) := by decide +kernel
theorem dX12_lays_26 : decode cX12_lays 26 = .ok (.aload_n 0, 1) := by decide +kernel
theorem dX12_lays_27 : decode cX12_lays 27 = .ok (.dup, 1) := by decide +kernel
theorem dX12_lays_28 : decode cX12_lays 28 = .ok (.getfield 113, 3) := by decide +kernel
theorem dX12_lays_31 : decode cX12_lays 31 = .ok (.iconst 1, 1) := by decide +kernel
theorem dX12_lays_32 : decode cX12_lays 32 = .ok (.iadd, 1) := by decide +kernel
theorem dX12_lays_33 : decode cX12_lays 33 = .ok (.putfield 113, 3) := by decide +kernel
theorem dX12_lays_36 : decode cX12_lays 36 = .ok (.return_, 1) := by decide +kernel
theorem dX12_whole_0 : decode cX12_whole 0 = .ok (.aload_n 0, 1) := by decide +kernel
theorem dX12_whole_1 : decode cX12_whole 1 = .ok (.invokevirtual 116, 3) := by decide +kernel
theorem dX12_whole_4 : decode cX12_whole 4 = .ok (.ifCond .ne 5, 3) := by decide +kernel
theorem dX12_whole_7 : decode cX12_whole 7 = .ok (.iconst 0, 1) := by decide +kernel
theorem dX12_whole_8 : decode cX12_whole 8 = .ok (.ireturn, 1) := by decide +kernel
theorem dX12_whole_9 : decode cX12_whole 9 = .ok (.aload_n 0, 1) := by decide +kernel
theorem dX12_whole_10 : decode cX12_whole 10 = .ok (.invokevirtual 120, 3) := by decide +kernel
theorem dX12_whole_13 : decode cX12_whole 13 = .ok (.bipush 124, 2) := by decide +kernel
theorem dX12_whole_15 : decode cX12_whole 15 = .ok (.if_icmp .ne 32, 3) := by decide +kernel
theorem dX12_whole_18 : decode cX12_whole 18 = .ok (.aload_n 0, 1) := by decide +kernel
theorem dX12_whole_19 : decode cX12_whole 19 = .ok (.dup, 1) := by decide +kernel
theorem dX12_whole_20 : decode cX12_whole 20 = .ok (.getfield 106, 3) := by decide +kernel
theorem dX12_whole_23 : decode cX12_whole 23 = .ok (.iconst 1, 1) := by decide +kernel
theorem dX12_whole_24 : decode cX12_whole 24 = .ok (.iadd, 1) := by decide +kernel
theorem dX12_whole_25 : decode cX12_whole 25 = .ok (.putfield 106, 3) := by decide +kernel
theorem dX12_whole_28 : decode cX12_whole 28 = .ok (.aload_n 0, 1) := by decide +kernel
theorem dX12_whole_29 : decode cX12_whole 29 = .ok (.invokevirtual 116, 3) := by decide +kernel
theorem dX12_whole_32 : decode cX12_whole 32 = .ok (.ifCond .ne 5, 3) := by decide +kernel
theorem dX12_whole_35 : decode cX12_whole 35 = .ok (.iconst 0, 1) := by decide +kernel
theorem dX12_whole_36 : decode cX12_whole 36 = .ok (.ireturn, 1) := by decide +kernel
theorem dX12_whole_37 : decode cX12_whole 37 = .ok (.aload_n 0, 1) := by decide +kernel
theorem dX12_whole_38 : decode cX12_whole 38 = .ok (.iconst 3, 1) := by decide +kernel
theorem dX12_whole_39 : decode cX12_whole 39 = .ok (.bipush 124, 2) := by decide +kernel
theorem dX12_whole_41 : decode cX12_whole 41 = .ok (.invokevirtual 124, 3) := by decide +kernel
theorem dX12_whole_44 : decode cX12_whole 44 = .ok (.goto (-35), 3) := by decide +kernel
theorem dX12_whole_47 : decode cX12_whole 47 = .ok (.iconst 1, 1) := by decide +kernel
theorem dX12_whole_48 : decode cX12_whole 48 = .ok (.ireturn, 1) := by decide +kernel
theorem dX12_both_0 : decode cX12_both 0 = .ok (.aload_n 0, 1) := by decide +kernel
theorem dX12_both_1 : decode cX12_both 1 = .ok (.invokevirtual 128, 3) := by decide +kernel
theorem dX12_both_4 : decode cX12_both 4 = .ok (.ifCond .ne 5, 3) := by decide +kernel
theorem dX12_both_7 : decode cX12_both 7 = .ok (.iconst 0, 1) := by decide +kernel
theorem dX12_both_8 : decode cX12_both 8 = .ok (.ireturn, 1) := by decide +kernel
theorem dX12_both_9 : decode cX12_both 9 = .ok (.aload_n 0, 1) := by decide +kernel
theorem dX12_both_10 : decode cX12_both 10 = .ok (.invokevirtual 120, 3) := by decide +kernel
theorem dX12_both_13 : decode cX12_both 13 = .ok (.bipush 38, 2) := by decide +kernel
theorem dX12_both_15 : decode cX12_both 15 = .ok (.if_icmp .ne 32, 3) := by decide +kernel
theorem dX12_both_18 : decode cX12_both 18 = .ok (.aload_n 0, 1) := by decide +kernel
theorem dX12_both_19 : decode cX12_both 19 = .ok (.dup, 1) := by decide +kernel
theorem dX12_both_20 : decode cX12_both 20 = .ok (.getfield 106, 3) := by decide +kernel
theorem dX12_both_23 : decode cX12_both 23 = .ok (.iconst 1, 1) := by decide +kernel
theorem dX12_both_24 : decode cX12_both 24 = .ok (.iadd, 1) := by decide +kernel
theorem dX12_both_25 : decode cX12_both 25 = .ok (.putfield 106, 3) := by decide +kernel
theorem dX12_both_28 : decode cX12_both 28 = .ok (.aload_n 0, 1) := by decide +kernel
theorem dX12_both_29 : decode cX12_both 29 = .ok (.invokevirtual 128, 3) := by decide +kernel
theorem dX12_both_32 : decode cX12_both 32 = .ok (.ifCond .ne 5, 3) := by decide +kernel
theorem dX12_both_35 : decode cX12_both 35 = .ok (.iconst 0, 1) := by decide +kernel
theorem dX12_both_36 : decode cX12_both 36 = .ok (.ireturn, 1) := by decide +kernel
theorem dX12_both_37 : decode cX12_both 37 = .ok (.aload_n 0, 1) := by decide +kernel
theorem dX12_both_38 : decode cX12_both 38 = .ok (.iconst 3, 1) := by decide +kernel
theorem dX12_both_39 : decode cX12_both 39 = .ok (.bipush 38, 2) := by decide +kernel
theorem dX12_both_41 : decode cX12_both 41 = .ok (.invokevirtual 124, 3) := by decide +kernel
theorem dX12_both_44 : decode cX12_both 44 = .ok (.goto (-35), 3) := by decide +kernel
theorem dX12_both_47 : decode cX12_both 47 = .ok (.iconst 1, 1) := by decide +kernel
theorem dX12_both_48 : decode cX12_both 48 = .ok (.ireturn, 1) := by decide +kernel
theorem dX12_compared_0 : decode cX12_compared 0 = .ok (.aload_n 0, 1) := by decide +kernel
theorem dX12_compared_1 : decode cX12_compared 1 = .ok (.invokevirtual 131, 3) := by decide +kernel
theorem dX12_compared_4 : decode cX12_compared 4 = .ok (.ifCond .ne 5, 3) := by decide +kernel
theorem dX12_compared_7 : decode cX12_compared 7 = .ok (.iconst 0, 1) := by decide +kernel
theorem dX12_compared_8 : decode cX12_compared 8 = .ok (.ireturn, 1) := by decide +kernel
theorem dX12_compared_9 : decode cX12_compared 9 = .ok (.aload_n 0, 1) := by decide +kernel
theorem dX12_compared_10 : decode cX12_compared 10 = .ok (.invokevirtual 120, 3) := by decide +kernel
theorem dX12_compared_13 : decode cX12_compared 13 = .ok (.istore_n 1, 1) := by decide +kernel
theorem dX12_compared_14 : decode cX12_compared 14 = .ok (.iload_n 1, 1) := by decide +kernel
theorem dX12_compared_15 : decode cX12_compared 15 = .ok (.bipush 60, 2) := by decide +kernel
theorem dX12_compared_17 : decode cX12_compared 17 = .ok (.if_icmp .eq 17, 3) := by decide +kernel
theorem dX12_compared_20 : decode cX12_compared 20 = .ok (.iload_n 1, 1) := by decide +kernel
theorem dX12_compared_21 : decode cX12_compared 21 = .ok (.bipush 61, 2) := by decide +kernel
theorem dX12_compared_23 : decode cX12_compared 23 = .ok (.if_icmp .eq 11, 3) := by decide +kernel
theorem dX12_compared_26 : decode cX12_compared 26 = .ok (.iload_n 1, 1) := by decide +kernel
theorem dX12_compared_27 : decode cX12_compared 27 = .ok (.bipush 62, 2) := by decide +kernel
theorem dX12_compared_29 : decode cX12_compared 29 = .ok (.if_icmp .eq 5, 3) := by decide +kernel
theorem dX12_compared_32 : decode cX12_compared 32 = .ok (.iconst 1, 1) := by decide +kernel
theorem dX12_compared_33 : decode cX12_compared 33 = .ok (.ireturn, 1) := by decide +kernel
theorem dX12_compared_34 : decode cX12_compared 34 = .ok (.aload_n 0, 1) := by decide +kernel
theorem dX12_compared_35 : decode cX12_compared 35 = .ok (.dup, 1) := by decide +kernel
theorem dX12_compared_36 : decode cX12_compared 36 = .ok (.getfield 106, 3) := by decide +kernel
theorem dX12_compared_39 : decode cX12_compared 39 = .ok (.iconst 1, 1) := by decide +kernel
theorem dX12_compared_40 : decode cX12_compared 40 = .ok (.iadd, 1) := by decide +kernel
theorem dX12_compared_41 : decode cX12_compared 41 = .ok (.putfield 106, 3) := by decide +kernel
theorem dX12_compared_44 : decode cX12_compared 44 = .ok (.aload_n 0, 1) := by decide +kernel
theorem dX12_compared_45 : decode cX12_compared 45 = .ok (.invokevirtual 131, 3) := by decide +kernel
theorem dX12_compared_48 : decode cX12_compared 48 = .ok (.ifCond .ne 5, 3) := by decide +kernel
theorem dX12_compared_51 : decode cX12_compared 51 = .ok (.iconst 0, 1) := by decide +kernel
theorem dX12_compared_52 : decode cX12_compared 52 = .ok (.ireturn, 1) := by decide +kernel
theorem dX12_compared_53 : decode cX12_compared 53 = .ok (.aload_n 0, 1) := by decide +kernel
theorem dX12_compared_54 : decode cX12_compared 54 = .ok (.iconst 3, 1) := by decide +kernel
theorem dX12_compared_55 : decode cX12_compared 55 = .ok (.iload_n 1, 1) := by decide +kernel
theorem dX12_compared_56 : decode cX12_compared 56 = .ok (.invokevirtual 124, 3) := by decide +kernel
theorem dX12_compared_59 : decode cX12_compared 59 = .ok (.iconst 1, 1) := by decide +kernel
theorem dX12_compared_60 : decode cX12_compared 60 = .ok (.ireturn, 1) := by decide +kernel
theorem dX12_sum_0 : decode cX12_sum 0 = .ok (.aload_n 0, 1) := by decide +kernel
theorem dX12_sum_1 : decode cX12_sum 1 = .ok (.invokevirtual 134, 3) := by decide +kernel
theorem dX12_sum_4 : decode cX12_sum 4 = .ok (.ifCond .ne 5, 3) := by decide +kernel
theorem dX12_sum_7 : decode cX12_sum 7 = .ok (.iconst 0, 1) := by decide +kernel
theorem dX12_sum_8 : decode cX12_sum 8 = .ok (.ireturn, 1) := by decide +kernel
theorem dX12_sum_9 : decode cX12_sum 9 = .ok (.aload_n 0, 1) := by decide +kernel
theorem dX12_sum_10 : decode cX12_sum 10 = .ok (.invokevirtual 120, 3) := by decide +kernel
theorem dX12_sum_13 : decode cX12_sum 13 = .ok (.bipush 43, 2) := by decide +kernel
theorem dX12_sum_15 : decode cX12_sum 15 = .ok (.if_icmp .eq 12, 3) := by decide +kernel
theorem dX12_sum_18 : decode cX12_sum 18 = .ok (.aload_n 0, 1) := by decide +kernel
theorem dX12_sum_19 : decode cX12_sum 19 = .ok (.invokevirtual 120, 3) := by decide +kernel
theorem dX12_sum_22 : decode cX12_sum 22 = .ok (.bipush 45, 2) := by decide +kernel
theorem dX12_sum_24 : decode cX12_sum 24 = .ok (.if_icmp .ne 36, 3) := by decide +kernel
theorem dX12_sum_27 : decode cX12_sum 27 = .ok (.aload_n 0, 1) := by decide +kernel
theorem dX12_sum_28 : decode cX12_sum 28 = .ok (.invokevirtual 120, 3) := by decide +kernel
theorem dX12_sum_31 : decode cX12_sum 31 = .ok (.istore_n 1, 1) := by decide +kernel
theorem dX12_sum_32 : decode cX12_sum 32 = .ok (.aload_n 0, 1) := by decide +kernel
theorem dX12_sum_33 : decode cX12_sum 33 = .ok (.dup, 1) := by decide +kernel
theorem dX12_sum_34 : decode cX12_sum 34 = .ok (.getfield 106, 3) := by decide +kernel
theorem dX12_sum_37 : decode cX12_sum 37 = .ok (.iconst 1, 1) := by decide +kernel
theorem dX12_sum_38 : decode cX12_sum 38 = .ok (.iadd, 1) := by decide +kernel
theorem dX12_sum_39 : decode cX12_sum 39 = .ok (.putfield 106, 3) := by decide +kernel
theorem dX12_sum_42 : decode cX12_sum 42 = .ok (.aload_n 0, 1) := by decide +kernel
theorem dX12_sum_43 : decode cX12_sum 43 = .ok (.invokevirtual 134, 3) := by decide +kernel
theorem dX12_sum_46 : decode cX12_sum 46 = .ok (.ifCond .ne 5, 3) := by decide +kernel
theorem dX12_sum_49 : decode cX12_sum 49 = .ok (.iconst 0, 1) := by decide +kernel
theorem dX12_sum_50 : decode cX12_sum 50 = .ok (.ireturn, 1) := by decide +kernel
theorem dX12_sum_51 : decode cX12_sum 51 = .ok (.aload_n 0, 1) := by decide +kernel
theorem dX12_sum_52 : decode cX12_sum 52 = .ok (.iconst 3, 1) := by decide +kernel
theorem dX12_sum_53 : decode cX12_sum 53 = .ok (.iload_n 1, 1) := by decide +kernel
theorem dX12_sum_54 : decode cX12_sum 54 = .ok (.invokevirtual 124, 3) := by decide +kernel
theorem dX12_sum_57 : decode cX12_sum 57 = .ok (.goto (-48), 3) := by decide +kernel
theorem dX12_sum_60 : decode cX12_sum 60 = .ok (.iconst 1, 1) := by decide +kernel
theorem dX12_sum_61 : decode cX12_sum 61 = .ok (.ireturn, 1) := by decide +kernel
theorem dX12_product_0 : decode cX12_product 0 = .ok (.aload_n 0, 1) := by decide +kernel
theorem dX12_product_1 : decode cX12_product 1 = .ok (.invokevirtual 137, 3) := by decide +kernel
theorem dX12_product_4 : decode cX12_product 4 = .ok (.ifCond .ne 5, 3) := by decide +kernel
theorem dX12_product_7 : decode cX12_product 7 = .ok (.iconst 0, 1) := by decide +kernel
theorem dX12_product_8 : decode cX12_product 8 = .ok (.ireturn, 1) := by decide +kernel
theorem dX12_product_9 : decode cX12_product 9 = .ok (.aload_n 0, 1) := by decide +kernel
theorem dX12_product_10 : decode cX12_product 10 = .ok (.invokevirtual 120, 3) := by decide +kernel
theorem dX12_product_13 : decode cX12_product 13 = .ok (.bipush 42, 2) := by decide +kernel
theorem dX12_product_15 : decode cX12_product 15 = .ok (.if_icmp .eq 21, 3) := by decide +kernel
theorem dX12_product_18 : decode cX12_product 18 = .ok (.aload_n 0, 1) := by decide +kernel
theorem dX12_product_19 : decode cX12_product 19 = .ok (.invokevirtual 120, 3) := by decide +kernel
theorem dX12_product_22 : decode cX12_product 22 = .ok (.bipush 47, 2) := by decide +kernel
theorem dX12_product_24 : decode cX12_product 24 = .ok (.if_icmp .eq 12, 3) := by decide +kernel
theorem dX12_product_27 : decode cX12_product 27 = .ok (.aload_n 0, 1) := by decide +kernel
theorem dX12_product_28 : decode cX12_product 28 = .ok (.invokevirtual 120, 3) := by decide +kernel
theorem dX12_product_31 : decode cX12_product 31 = .ok (.bipush 37, 2) := by decide +kernel
theorem dX12_product_33 : decode cX12_product 33 = .ok (.if_icmp .ne 36, 3) := by decide +kernel
theorem dX12_product_36 : decode cX12_product 36 = .ok (.aload_n 0, 1) := by decide +kernel
theorem dX12_product_37 : decode cX12_product 37 = .ok (.invokevirtual 120, 3) := by decide +kernel
theorem dX12_product_40 : decode cX12_product 40 = .ok (.istore_n 1, 1) := by decide +kernel
theorem dX12_product_41 : decode cX12_product 41 = .ok (.aload_n 0, 1) := by decide +kernel
theorem dX12_product_42 : decode cX12_product 42 = .ok (.dup, 1) := by decide +kernel
theorem dX12_product_43 : decode cX12_product 43 = .ok (.getfield 106, 3) := by decide +kernel
theorem dX12_product_46 : decode cX12_product 46 = .ok (.iconst 1, 1) := by decide +kernel
theorem dX12_product_47 : decode cX12_product 47 = .ok (.iadd, 1) := by decide +kernel
theorem dX12_product_48 : decode cX12_product 48 = .ok (.putfield 106, 3) := by decide +kernel
theorem dX12_product_51 : decode cX12_product 51 = .ok (.aload_n 0, 1) := by decide +kernel
theorem dX12_product_52 : decode cX12_product 52 = .ok (.invokevirtual 137, 3) := by decide +kernel
theorem dX12_product_55 : decode cX12_product 55 = .ok (.ifCond .ne 5, 3) := by decide +kernel
theorem dX12_product_58 : decode cX12_product 58 = .ok (.iconst 0, 1) := by decide +kernel
theorem dX12_product_59 : decode cX12_product 59 = .ok (.ireturn, 1) := by decide +kernel
theorem dX12_product_60 : decode cX12_product 60 = .ok (.aload_n 0, 1) := by decide +kernel
theorem dX12_product_61 : decode cX12_product 61 = .ok (.iconst 3, 1) := by decide +kernel
theorem dX12_product_62 : decode cX12_product 62 = .ok (.iload_n 1, 1) := by decide +kernel
theorem dX12_product_63 : decode cX12_product 63 = .ok (.invokevirtual 124, 3) := by decide +kernel
theorem dX12_product_66 : decode cX12_product 66 = .ok (.goto (-57), 3) := by decide +kernel
theorem dX12_product_69 : decode cX12_product 69 = .ok (.iconst 1, 1) := by decide +kernel
theorem dX12_product_70 : decode cX12_product 70 = .ok (.ireturn, 1) := by decide +kernel
theorem dX12_opens_0 : decode cX12_opens 0 = .ok (.aload_n 0, 1) := by decide +kernel
theorem dX12_opens_1 : decode cX12_opens 1 = .ok (.getfield 140, 3) := by decide +kernel
theorem dX12_opens_4 : decode cX12_opens 4 = .ok (.iconst 5, 1) := by decide +kernel
theorem dX12_opens_5 : decode cX12_opens 5 = .ok (.if_icmp .ne 5, 3) := by decide +kernel
theorem dX12_opens_8 : decode cX12_opens 8 = .ok (.iconst 0, 1) := by decide +kernel
theorem dX12_opens_9 : decode cX12_opens 9 = .ok (.ireturn, 1) := by decide +kernel
theorem dX12_opens_10 : decode cX12_opens 10 = .ok (.aload_n 0, 1) := by decide +kernel
theorem dX12_opens_11 : decode cX12_opens 11 = .ok (.dup, 1) := by decide +kernel
theorem dX12_opens_12 : decode cX12_opens 12 = .ok (.getfield 140, 3) := by decide +kernel
theorem dX12_opens_15 : decode cX12_opens 15 = .ok (.iconst 1, 1) := by decide +kernel
theorem dX12_opens_16 : decode cX12_opens 16 = .ok (.iadd, 1) := by decide +kernel
theorem dX12_opens_17 : decode cX12_opens 17 = .ok (.putfield 140, 3) := by decide +kernel
theorem dX12_opens_20 : decode cX12_opens 20 = .ok (.aload_n 0, 1) := by decide +kernel
theorem dX12_opens_21 : decode cX12_opens 21 = .ok (.dup, 1) := by decide +kernel
theorem dX12_opens_22 : decode cX12_opens 22 = .ok (.getfield 106, 3) := by decide +kernel
theorem dX12_opens_25 : decode cX12_opens 25 = .ok (.iconst 1, 1) := by decide +kernel
theorem dX12_opens_26 : decode cX12_opens 26 = .ok (.iadd, 1) := by decide +kernel
theorem dX12_opens_27 : decode cX12_opens 27 = .ok (.putfield 106, 3) := by decide +kernel
theorem dX12_opens_30 : decode cX12_opens 30 = .ok (.iconst 1, 1) := by decide +kernel
theorem dX12_opens_31 : decode cX12_opens 31 = .ok (.ireturn, 1) := by decide +kernel
theorem dX12_one_0 : decode cX12_one 0 = .ok (.aload_n 0, 1) := by decide +kernel
theorem dX12_one_1 : decode cX12_one 1 = .ok (.invokevirtual 120, 3) := by decide +kernel
theorem dX12_one_4 : decode cX12_one 4 = .ok (.istore_n 1, 1) := by decide +kernel
theorem dX12_one_5 : decode cX12_one 5 = .ok (.aload_n 0, 1) := by decide +kernel
theorem dX12_one_6 : decode cX12_one 6 = .ok (.iload_n 1, 1) := by decide +kernel
theorem dX12_one_7 : decode cX12_one 7 = .ok (.invokevirtual 143, 3) := by decide +kernel
theorem dX12_one_10 : decode cX12_one 10 = .ok (.ifCond .eq 21, 3) := by decide +kernel
theorem dX12_one_13 : decode cX12_one 13 = .ok (.aload_n 0, 1) := by decide +kernel
theorem dX12_one_14 : decode cX12_one 14 = .ok (.dup, 1) := by decide +kernel
theorem dX12_one_15 : decode cX12_one 15 = .ok (.getfield 106, 3) := by decide +kernel
theorem dX12_one_18 : decode cX12_one 18 = .ok (.iconst 1, 1) := by decide +kernel
theorem dX12_one_19 : decode cX12_one 19 = .ok (.iadd, 1) := by decide +kernel
theorem dX12_one_20 : decode cX12_one 20 = .ok (.putfield 106, 3) := by decide +kernel
theorem dX12_one_23 : decode cX12_one 23 = .ok (.aload_n 0, 1) := by decide +kernel
theorem dX12_one_24 : decode cX12_one 24 = .ok (.iconst 1, 1) := by decide +kernel
theorem dX12_one_25 : decode cX12_one 25 = .ok (.iload_n 1, 1) := by decide +kernel
theorem dX12_one_26 : decode cX12_one 26 = .ok (.invokevirtual 124, 3) := by decide +kernel
theorem dX12_one_29 : decode cX12_one 29 = .ok (.iconst 1, 1) := by decide +kernel
theorem dX12_one_30 : decode cX12_one 30 = .ok (.ireturn, 1) := by decide +kernel
theorem dX12_one_31 : decode cX12_one 31 = .ok (.iload_n 1, 1) := by decide +kernel
theorem dX12_one_32 : decode cX12_one 32 = .ok (.bipush 48, 2) := by decide +kernel
theorem dX12_one_34 : decode cX12_one 34 = .ok (.bipush 57, 2) := by decide +kernel
theorem dX12_one_36 : decode cX12_one 36 = .ok (.invokestatic 47, 3) := by decide +kernel
theorem dX12_one_39 : decode cX12_one 39 = .ok (.ifCond .eq 63, 3) := by decide +kernel
theorem dX12_one_42 : decode cX12_one 42 = .ok (.iconst 0, 1) := by decide +kernel
theorem dX12_one_43 : decode cX12_one 43 = .ok (.istore_n 2, 1) := by decide +kernel
theorem dX12_one_44 : decode cX12_one 44 = .ok (.iconst 0, 1) := by decide +kernel
theorem dX12_one_45 : decode cX12_one 45 = .ok (.istore_n 3, 1) := by decide +kernel
theorem dX12_one_46 : decode cX12_one 46 = .ok (.iload_n 3, 1) := by decide +kernel
theorem dX12_one_47 : decode cX12_one 47 = .ok (.iconst 4, 1) := by decide +kernel
theorem dX12_one_48 : decode cX12_one 48 = .ok (.if_icmp .ge 46, 3) := by decide +kernel
theorem dX12_one_51 : decode cX12_one 51 = .ok (.aload_n 0, 1) := by decide +kernel
theorem dX12_one_52 : decode cX12_one 52 = .ok (.invokevirtual 120, 3) := by decide +kernel
theorem dX12_one_55 : decode cX12_one 55 = .ok (.bipush 48, 2) := by decide +kernel
theorem dX12_one_57 : decode cX12_one 57 = .ok (.bipush 57, 2) := by decide +kernel
theorem dX12_one_59 : decode cX12_one 59 = .ok (.invokestatic 47, 3) := by decide +kernel
theorem dX12_one_62 : decode cX12_one 62 = .ok (.ifCond .eq 32, 3) := by decide +kernel
theorem dX12_one_65 : decode cX12_one 65 = .ok (.bipush 10, 2) := by decide +kernel
theorem dX12_one_67 : decode cX12_one 67 = .ok (.iload_n 2, 1) := by decide +kernel
theorem dX12_one_68 : decode cX12_one 68 = .ok (.imul, 1) := by decide +kernel
theorem dX12_one_69 : decode cX12_one 69 = .ok (.aload_n 0, 1) := by decide +kernel
theorem dX12_one_70 : decode cX12_one 70 = .ok (.invokevirtual 120, 3) := by decide +kernel
theorem dX12_one_73 : decode cX12_one 73 = .ok (.iadd, 1) := by decide +kernel
theorem dX12_one_74 : decode cX12_one 74 = .ok (.bipush 48, 2) := by decide +kernel
theorem dX12_one_76 : decode cX12_one 76 = .ok (.isub, 1) := by decide +kernel
theorem dX12_one_77 : decode cX12_one 77 = .ok (.istore_n 2, 1) := by decide +kernel
theorem dX12_one_78 : decode cX12_one 78 = .ok (.aload_n 0, 1) := by decide +kernel
theorem dX12_one_79 : decode cX12_one 79 = .ok (.dup, 1) := by decide +kernel
theorem dX12_one_80 : decode cX12_one 80 = .ok (.getfield 106, 3) := by decide +kernel
theorem dX12_one_83 : decode cX12_one 83 = .ok (.iconst 1, 1) := by decide +kernel
theorem dX12_one_84 : decode cX12_one 84 = .ok (.iadd, 1) := by decide +kernel
theorem dX12_one_85 : decode cX12_one 85 = .ok (.putfield 106, 3) := by decide +kernel
theorem dX12_one_88 : decode cX12_one 88 = .ok (.iinc 3 1, 3) := by decide +kernel
theorem dX12_one_91 : decode cX12_one 91 = .ok (.goto (-45), 3) := by decide +kernel
theorem dX12_one_94 : decode cX12_one 94 = .ok (.aload_n 0, 1) := by decide +kernel
theorem dX12_one_95 : decode cX12_one 95 = .ok (.iconst 0, 1) := by decide +kernel
theorem dX12_one_96 : decode cX12_one 96 = .ok (.iload_n 2, 1) := by decide +kernel
theorem dX12_one_97 : decode cX12_one 97 = .ok (.invokevirtual 124, 3) := by decide +kernel
theorem dX12_one_100 : decode cX12_one 100 = .ok (.iconst 1, 1) := by decide +kernel
theorem dX12_one_101 : decode cX12_one 101 = .ok (.ireturn, 1) := by decide +kernel
theorem dX12_one_102 : decode cX12_one 102 = .ok (.iload_n 1, 1) := by decide +kernel
theorem dX12_one_103 : decode cX12_one 103 = .ok (.bipush 33, 2) := by decide +kernel
theorem dX12_one_105 : decode cX12_one 105 = .ok (.if_icmp .ne 37, 3) := by decide +kernel
theorem dX12_one_108 : decode cX12_one 108 = .ok (.aload_n 0, 1) := by decide +kernel
theorem dX12_one_109 : decode cX12_one 109 = .ok (.invokevirtual 146, 3) := by decide +kernel
theorem dX12_one_112 : decode cX12_one 112 = .ok (.ifCond .eq 10, 3) := by decide +kernel
theorem dX12_one_115 : decode cX12_one 115 = .ok (.aload_n 0, 1) := by decide +kernel
theorem dX12_one_116 : decode cX12_one 116 = .ok (.invokevirtual 137, 3) := by decide +kernel
theorem dX12_one_119 : decode cX12_one 119 = .ok (.ifCond .ne 5, 3) := by decide +kernel
theorem dX12_one_122 : decode cX12_one 122 = .ok (.iconst 0, 1) := by decide +kernel
theorem dX12_one_123 : decode cX12_one 123 = .ok (.ireturn, 1) := by decide +kernel
theorem dX12_one_124 : decode cX12_one 124 = .ok (.aload_n 0, 1) := by decide +kernel
theorem dX12_one_125 : decode cX12_one 125 = .ok (.dup, 1) := by decide +kernel
theorem dX12_one_126 : decode cX12_one 126 = .ok (.getfield 140, 3) := by decide +kernel
theorem dX12_one_129 : decode cX12_one 129 = .ok (.iconst 1, 1) := by decide +kernel
theorem dX12_one_130 : decode cX12_one 130 = .ok (.isub, 1) := by decide +kernel
theorem dX12_one_131 : decode cX12_one 131 = .ok (.putfield 140, 3) := by decide +kernel
theorem dX12_one_134 : decode cX12_one 134 = .ok (.aload_n 0, 1) := by decide +kernel
theorem dX12_one_135 : decode cX12_one 135 = .ok (.iconst 2, 1) := by decide +kernel
theorem dX12_one_136 : decode cX12_one 136 = .ok (.iconst 0, 1) := by decide +kernel
theorem dX12_one_137 : decode cX12_one 137 = .ok (.invokevirtual 124, 3) := by decide +kernel
theorem dX12_one_140 : decode cX12_one 140 = .ok (.iconst 1, 1) := by decide +kernel
theorem dX12_one_141 : decode cX12_one 141 = .ok (.ireturn, 1) := by decide +kernel
theorem dX12_one_142 : decode cX12_one 142 = .ok (.iload_n 1, 1) := by decide +kernel
theorem dX12_one_143 : decode cX12_one 143 = .ok (.bipush 40, 2) := by decide +kernel
theorem dX12_one_145 : decode cX12_one 145 = .ok (.if_icmp .ne 26, 3) := by decide +kernel
theorem dX12_one_148 : decode cX12_one 148 = .ok (.aload_n 0, 1) := by decide +kernel
theorem dX12_one_149 : decode cX12_one 149 = .ok (.invokevirtual 146, 3) := by decide +kernel
theorem dX12_one_152 : decode cX12_one 152 = .ok (.ifCond .eq 19, 3) := by decide +kernel
theorem dX12_one_155 : decode cX12_one 155 = .ok (.aload_n 0, 1) := by decide +kernel
theorem dX12_one_156 : decode cX12_one 156 = .ok (.invokevirtual 149, 3) := by decide +kernel
theorem dX12_one_159 : decode cX12_one 159 = .ok (.ifCond .eq 12, 3) := by decide +kernel
theorem dX12_one_162 : decode cX12_one 162 = .ok (.aload_n 0, 1) := by decide +kernel
theorem dX12_one_163 : decode cX12_one 163 = .ok (.invokevirtual 120, 3) := by decide +kernel
theorem dX12_one_166 : decode cX12_one 166 = .ok (.bipush 41, 2) := by decide +kernel
theorem dX12_one_168 : decode cX12_one 168 = .ok (.if_icmp .eq 5, 3) := by decide +kernel
theorem dX12_one_171 : decode cX12_one 171 = .ok (.iconst 0, 1) := by decide +kernel
theorem dX12_one_172 : decode cX12_one 172 = .ok (.ireturn, 1) := by decide +kernel
theorem dX12_one_173 : decode cX12_one 173 = .ok (.aload_n 0, 1) := by decide +kernel
theorem dX12_one_174 : decode cX12_one 174 = .ok (.dup, 1) := by decide +kernel
theorem dX12_one_175 : decode cX12_one 175 = .ok (.getfield 106, 3) := by decide +kernel
theorem dX12_one_178 : decode cX12_one 178 = .ok (.iconst 1, 1) := by decide +kernel
theorem dX12_one_179 : decode cX12_one 179 = .ok (.iadd, 1) := by decide +kernel
theorem dX12_one_180 : decode cX12_one 180 = .ok (.putfield 106, 3) := by decide +kernel
theorem dX12_one_183 : decode cX12_one 183 = .ok (.aload_n 0, 1) := by decide +kernel
theorem dX12_one_184 : decode cX12_one 184 = .ok (.dup, 1) := by decide +kernel
theorem dX12_one_185 : decode cX12_one 185 = .ok (.getfield 140, 3) := by decide +kernel
theorem dX12_one_188 : decode cX12_one 188 = .ok (.iconst 1, 1) := by decide +kernel
theorem dX12_one_189 : decode cX12_one 189 = .ok (.isub, 1) := by decide +kernel
theorem dX12_one_190 : decode cX12_one 190 = .ok (.putfield 140, 3) := by decide +kernel
theorem dX12_one_193 : decode cX12_one 193 = .ok (.iconst 1, 1) := by decide +kernel
theorem dX12_one_194 : decode cX12_one 194 = .ok (.ireturn, 1) := by decide +kernel
theorem dX12_hasText_0 : decode cX12_hasText 0 = .ok (.aload_n 0, 1) := by decide +kernel
theorem dX12_hasText_1 : decode cX12_hasText 1 = .ok (.getfield 7, 3) := by decide +kernel
theorem dX12_hasText_4 : decode cX12_hasText 4 = .ok (.sipush 182, 3) := by decide +kernel
theorem dX12_hasText_7 : decode cX12_hasText 7 = .ok (.bipush 125, 2) := by decide +kernel
theorem dX12_hasText_9 : decode cX12_hasText 9 = .ok (.iload_n 1, 1) := by decide +kernel
theorem dX12_hasText_10 : decode cX12_hasText 10 = .ok (.imul, 1) := by decide +kernel
theorem dX12_hasText_11 : decode cX12_hasText 11 = .ok (.iadd, 1) := by decide +kernel
theorem dX12_hasText_12 : decode cX12_hasText 12 = .ok (.iaload, 1) := by decide +kernel
theorem dX12_hasText_13 : decode cX12_hasText 13 = .ok (.ifCond .le 7, 3) := by decide +kernel
theorem dX12_hasText_16 : decode cX12_hasText 16 = .ok (.iconst 1, 1) := by decide +kernel
theorem dX12_hasText_17 : decode cX12_hasText 17 = .ok (.goto 4, 3) := by decide +kernel
theorem dX12_hasText_20 : decode cX12_hasText 20 = .ok (.iconst 0, 1) := by decide +kernel
theorem dX12_hasText_21 : decode cX12_hasText 21 = .ok (.ireturn, 1) := by decide +kernel
theorem dX12_text_0 : decode cX12_text 0 = .ok (.iload_n 1, 1) := by decide +kernel
theorem dX12_text_1 : decode cX12_text 1 = .ok (.iconst 0, 1) := by decide +kernel
theorem dX12_text_2 : decode cX12_text 2 = .ok (.iconst 1, 1) := by decide +kernel
theorem dX12_text_3 : decode cX12_text 3 = .ok (.invokestatic 47, 3) := by decide +kernel
theorem dX12_text_6 : decode cX12_text 6 = .ok (.ifCond .ne 9, 3) := by decide +kernel
theorem dX12_text_9 : decode cX12_text 9 = .ok (.aload_n 0, 1) := by decide +kernel
theorem dX12_text_10 : decode cX12_text 10 = .ok (.iconst 1, 1) := by decide +kernel
theorem dX12_text_11 : decode cX12_text 11 = .ok (.invokevirtual 60, 3) := by decide +kernel
theorem dX12_text_14 : decode cX12_text 14 = .ok (.ireturn, 1) := by decide +kernel
theorem dX12_text_15 : decode cX12_text 15 = .ok (.aload_n 0, 1) := by decide +kernel
theorem dX12_text_16 : decode cX12_text 16 = .ok (.iload_n 1, 1) := by decide +kernel
theorem dX12_text_17 : decode cX12_text 17 = .ok (.putfield 110, 3) := by decide +kernel
theorem dX12_text_20 : decode cX12_text 20 = .ok (.aload_n 0, 1) := by decide +kernel
theorem dX12_text_21 : decode cX12_text 21 = .ok (.iconst 0, 1) := by decide +kernel
theorem dX12_text_22 : decode cX12_text 22 = .ok (.putfield 106, 3) := by decide +kernel
theorem dX12_text_25 : decode cX12_text 25 = .ok (.aload_n 0, 1) := by decide +kernel
theorem dX12_text_26 : decode cX12_text 26 = .ok (.iconst 0, 1) := by decide +kernel
theorem dX12_text_27 : decode cX12_text 27 = .ok (.putfield 140, 3) := by decide +kernel
theorem dX12_text_30 : decode cX12_text 30 = .ok (.aload_n 0, 1) := by decide +kernel
theorem dX12_text_31 : decode cX12_text 31 = .ok (.iconst 0, 1) := by decide +kernel
theorem dX12_text_32 : decode cX12_text 32 = .ok (.putfield 113, 3) := by decide +kernel
theorem dX12_text_35 : decode cX12_text 35 = .ok (.aload_n 0, 1) := by decide +kernel
theorem dX12_text_36 : decode cX12_text 36 = .ok (.invokevirtual 149, 3) := by decide +kernel
theorem dX12_text_39 : decode cX12_text 39 = .ok (.ifCond .eq 21, 3) := by decide +kernel
theorem dX12_text_42 : decode cX12_text 42 = .ok (.aload_n 0, 1) := by decide +kernel
theorem dX12_text_43 : decode cX12_text 43 = .ok (.getfield 106, 3) := by decide +kernel
theorem dX12_text_46 : decode cX12_text 46 = .ok (.aload_n 0, 1) := by decide +kernel
theorem dX12_text_47 : decode cX12_text 47 = .ok (.getfield 7, 3) := by decide +kernel
theorem dX12_text_50 : decode cX12_text 50 = .ok (.bipush 6, 2) := by decide +kernel
theorem dX12_text_52 : decode cX12_text 52 = .ok (.iaload, 1) := by decide +kernel
theorem dX12_text_53 : decode cX12_text 53 = .ok (.if_icmp .ne 7, 3) := by decide +kernel
theorem dX12_text_56 : decode cX12_text 56 = .ok (.iconst 1, 1) := by decide +kernel
theorem dX12_text_57 : decode cX12_text 57 = .ok (.goto 4, 3) := by decide +kernel
theorem dX12_text_60 : decode cX12_text 60 = .ok (.iconst 0, 1) := by decide +kernel
theorem dX12_text_61 : decode cX12_text 61 = .ok (.istore_n 2, 1) := by decide +kernel
theorem dX12_text_62 : decode cX12_text 62 = .ok (.aload_n 0, 1) := by decide +kernel
theorem dX12_text_63 : decode cX12_text 63 = .ok (.getfield 7, 3) := by decide +kernel
theorem dX12_text_66 : decode cX12_text 66 = .ok (.bipush 6, 2) := by decide +kernel
theorem dX12_text_68 : decode cX12_text 68 = .ok (.iconst 0, 1) := by decide +kernel
theorem dX12_text_69 : decode cX12_text 69 = .ok (.iastore, 1) := by decide +kernel
theorem dX12_text_70 : decode cX12_text 70 = .ok (.iload_n 2, 1) := by decide +kernel
theorem dX12_text_71 : decode cX12_text 71 = .ok (.ifCond .ne 11, 3) := by decide +kernel
theorem dX12_text_74 : decode cX12_text 74 = .ok (.bipush (-10), 2) := by decide +kernel
theorem dX12_text_76 : decode cX12_text 76 = .ok (.aload_n 0, 1) := by decide +kernel
theorem dX12_text_77 : decode cX12_text 77 = .ok (.getfield 106, 3) := by decide +kernel
theorem dX12_text_80 : decode cX12_text 80 = .ok (.isub, 1) := by decide +kernel
theorem dX12_text_81 : decode cX12_text 81 = .ok (.ireturn, 1) := by decide +kernel
theorem dX12_text_82 : decode cX12_text 82 = .ok (.sipush 182, 3) := by decide +kernel
theorem dX12_text_85 : decode cX12_text 85 = .ok (.bipush 125, 2) := by decide +kernel
theorem dX12_text_87 : decode cX12_text 87 = .ok (.iload_n 1, 1) := by decide +kernel
theorem dX12_text_88 : decode cX12_text 88 = .ok (.imul, 1) := by decide +kernel
theorem dX12_text_89 : decode cX12_text 89 = .ok (.iadd, 1) := by decide +kernel
theorem dX12_text_90 : decode cX12_text 90 = .ok (.istore_n 3, 1) := by decide +kernel
theorem dX12_text_91 : decode cX12_text 91 = .ok (.aload_n 0, 1) := by decide +kernel
theorem dX12_text_92 : decode cX12_text 92 = .ok (.getfield 7, 3) := by decide +kernel
theorem dX12_text_95 : decode cX12_text 95 = .ok (.iload_n 3, 1) := by decide +kernel
theorem dX12_text_96 : decode cX12_text 96 = .ok (.aload_n 0, 1) := by decide +kernel
theorem dX12_text_97 : decode cX12_text 97 = .ok (.getfield 113, 3) := by decide +kernel
theorem dX12_text_100 : decode cX12_text 100 = .ok (.iastore, 1) := by decide +kernel
theorem dX12_text_101 : decode cX12_text 101 = .ok (.iconst 0, 1) := by decide +kernel
theorem dX12_text_102 : decode cX12_text 102 = .ok (.istore 4, 2) := by decide +kernel
theorem dX12_text_104 : decode cX12_text 104 = .ok (.iload 4, 2) := by decide +kernel
theorem dX12_text_106 : decode cX12_text 106 = .ok (.iconst 2, 1) := by decide +kernel
theorem dX12_text_107 : decode cX12_text 107 = .ok (.aload_n 0, 1) := by decide +kernel
theorem dX12_text_108 : decode cX12_text 108 = .ok (.getfield 113, 3) := by decide +kernel
theorem dX12_text_111 : decode cX12_text 111 = .ok (.imul, 1) := by decide +kernel
theorem dX12_text_112 : decode cX12_text 112 = .ok (.if_icmp .ge 27, 3) := by decide +kernel
theorem dX12_text_115 : decode cX12_text 115 = .ok (.aload_n 0, 1) := by decide +kernel
theorem dX12_text_116 : decode cX12_text 116 = .ok (.getfield 7, 3) := by decide +kernel
theorem dX12_text_119 : decode cX12_text 119 = .ok (.iload_n 3, 1) := by decide +kernel
theorem dX12_text_120 : decode cX12_text 120 = .ok (.iconst 1, 1) := by decide +kernel
theorem dX12_text_121 : decode cX12_text 121 = .ok (.iadd, 1) := by decide +kernel
theorem dX12_text_122 : decode cX12_text 122 = .ok (.iload 4, 2) := by decide +kernel
theorem dX12_text_124 : decode cX12_text 124 = .ok (.iadd, 1) := by decide +kernel
theorem dX12_text_125 : decode cX12_text 125 = .ok (.aload_n 0, 1) := by decide +kernel
theorem dX12_text_126 : decode cX12_text 126 = .ok (.getfield 22, 3) := by decide +kernel
theorem dX12_text_129 : decode cX12_text 129 = .ok (.iload 4, 2) := by decide +kernel
theorem dX12_text_131 : decode cX12_text 131 = .ok (.iaload, 1) := by decide +kernel
theorem dX12_text_132 : decode cX12_text 132 = .ok (.iastore, 1) := by decide +kernel
theorem dX12_text_133 : decode cX12_text 133 = .ok (.iinc 4 1, 3) := by decide +kernel
theorem dX12_text_136 : decode cX12_text 136 = .ok (.goto (-32), 3) := by decide +kernel
theorem dX12_text_139 : decode cX12_text 139 = .ok (.iconst 1, 1) := by decide +kernel
theorem dX12_text_140 : decode cX12_text 140 = .ok (.ireturn, 1) := by decide +kernel
theorem dX12_untell_0 : decode cX12_untell 0 = .ok (.iload_n 1, 1) := by decide +kernel
theorem dX12_untell_1 : decode cX12_untell 1 = .ok (.iconst 0, 1) := by decide +kernel
theorem dX12_untell_2 : decode cX12_untell 2 = .ok (.iconst 1, 1) := by decide +kernel
theorem dX12_untell_3 : decode cX12_untell 3 = .ok (.invokestatic 47, 3) := by decide +kernel
theorem dX12_untell_6 : decode cX12_untell 6 = .ok (.ifCond .ne 9, 3) := by decide +kernel
theorem dX12_untell_9 : decode cX12_untell 9 = .ok (.aload_n 0, 1) := by decide +kernel
theorem dX12_untell_10 : decode cX12_untell 10 = .ok (.iconst 1, 1) := by decide +kernel
theorem dX12_untell_11 : decode cX12_untell 11 = .ok (.invokevirtual 60, 3) := by decide +kernel
theorem dX12_untell_14 : decode cX12_untell 14 = .ok (.ireturn, 1) := by decide +kernel
theorem dX12_untell_15 : decode cX12_untell 15 = .ok (.aload_n 0, 1) := by decide +kernel
theorem dX12_untell_16 : decode cX12_untell 16 = .ok (.iload_n 1, 1) := by decide +kernel
theorem dX12_untell_17 : decode cX12_untell 17 = .ok (.invokevirtual 152, 3) := by decide +kernel
theorem dX12_untell_20 : decode cX12_untell 20 = .ok (.ifCond .eq 7, 3) := by decide +kernel
theorem dX12_untell_23 : decode cX12_untell 23 = .ok (.iconst 1, 1) := by decide +kernel
theorem dX12_untell_24 : decode cX12_untell 24 = .ok (.goto 4, 3) := by decide +kernel
theorem dX12_untell_27 : decode cX12_untell 27 = .ok (.iconst 0, 1) := by decide +kernel
theorem dX12_untell_28 : decode cX12_untell 28 = .ok (.istore_n 2, 1) := by decide +kernel
theorem dX12_untell_29 : decode cX12_untell 29 = .ok (.aload_n 0, 1) := by decide +kernel
theorem dX12_untell_30 : decode cX12_untell 30 = .ok (.getfield 7, 3) := by decide +kernel
theorem dX12_untell_33 : decode cX12_untell 33 = .ok (.sipush 182, 3) := by decide +kernel
theorem dX12_untell_36 : decode cX12_untell 36 = .ok (.bipush 125, 2) := by decide +kernel
theorem dX12_untell_38 : decode cX12_untell 38 = .ok (.iload_n 1, 1) := by decide +kernel
theorem dX12_untell_39 : decode cX12_untell 39 = .ok (.imul, 1) := by decide +kernel
theorem dX12_untell_40 : decode cX12_untell 40 = .ok (.iadd, 1) := by decide +kernel
theorem dX12_untell_41 : decode cX12_untell 41 = .ok (.iconst 0, 1) := by decide +kernel
theorem dX12_untell_42 : decode cX12_untell 42 = .ok (.iastore, 1) := by decide +kernel
theorem dX12_untell_43 : decode cX12_untell 43 = .ok (.iload_n 2, 1) := by decide +kernel
theorem dX12_untell_44 : decode cX12_untell 44 = .ok (.ireturn, 1) := by decide +kernel
theorem dX12_joined_0 : decode cX12_joined 0 = .ok (.iload_n 0, 1) := by decide +kernel
theorem dX12_joined_1 : decode cX12_joined 1 = .ok (.tableswitch 217 37 62 #[153, 203, 217, 217, 217, 127, 119, 217, 123, 217, 131, 217, 217, 217, 217, 217, 217, 217, 217, 217, 217, 217, 217, 170, 192, 181], 119) := by decide +kernel
theorem dX12_joined_120 : decode cX12_joined 120 = .ok (.iload_n 1, 1) := by decide +kernel
theorem dX12_joined_121 : decode cX12_joined 121 = .ok (.iload_n 2, 1) := by decide +kernel
theorem dX12_joined_122 : decode cX12_joined 122 = .ok (.iadd, 1) := by decide +kernel
theorem dX12_joined_123 : decode cX12_joined 123 = .ok (.ireturn, 1) := by decide +kernel
theorem dX12_joined_124 : decode cX12_joined 124 = .ok (.iload_n 1, 1) := by decide +kernel
theorem dX12_joined_125 : decode cX12_joined 125 = .ok (.iload_n 2, 1) := by decide +kernel
theorem dX12_joined_126 : decode cX12_joined 126 = .ok (.isub, 1) := by decide +kernel
theorem dX12_joined_127 : decode cX12_joined 127 = .ok (.ireturn, 1) := by decide +kernel
theorem dX12_joined_128 : decode cX12_joined 128 = .ok (.iload_n 1, 1) := by decide +kernel
theorem dX12_joined_129 : decode cX12_joined 129 = .ok (.iload_n 2, 1) := by decide +kernel
theorem dX12_joined_130 : decode cX12_joined 130 = .ok (.imul, 1) := by decide +kernel
theorem dX12_joined_131 : decode cX12_joined 131 = .ok (.ireturn, 1) := by decide +kernel
theorem dX12_joined_132 : decode cX12_joined 132 = .ok (.iload_n 2, 1) := by decide +kernel
theorem dX12_joined_133 : decode cX12_joined 133 = .ok (.ifCond .ne 7, 3) := by decide +kernel
theorem dX12_joined_136 : decode cX12_joined 136 = .ok (.iconst 0, 1) := by decide +kernel
theorem dX12_joined_137 : decode cX12_joined 137 = .ok (.goto 16, 3) := by decide +kernel
theorem dX12_joined_140 : decode cX12_joined 140 = .ok (.iload_n 2, 1) := by decide +kernel
theorem dX12_joined_141 : decode cX12_joined 141 = .ok (.iconst (-1), 1) := by decide +kernel
theorem dX12_joined_142 : decode cX12_joined 142 = .ok (.if_icmp .ne 8, 3) := by decide +kernel
theorem dX12_joined_145 : decode cX12_joined 145 = .ok (.iload_n 1, 1) := by decide +kernel
theorem dX12_joined_146 : decode cX12_joined 146 = .ok (.ineg, 1) := by decide +kernel
theorem dX12_joined_147 : decode cX12_joined 147 = .ok (.goto 6, 3) := by decide +kernel
theorem dX12_joined_150 : decode cX12_joined 150 = .ok (.iload_n 1, 1) := by decide +kernel
theorem dX12_joined_151 : decode cX12_joined 151 = .ok (.iload_n 2, 1) := by decide +kernel
theorem dX12_joined_152 : decode cX12_joined 152 = .ok (.idiv, 1) := by decide +kernel
theorem dX12_joined_153 : decode cX12_joined 153 = .ok (.ireturn, 1) := by decide +kernel
theorem dX12_joined_154 : decode cX12_joined 154 = .ok (.iload_n 2, 1) := by decide +kernel
theorem dX12_joined_155 : decode cX12_joined 155 = .ok (.ifCond .eq 8, 3) := by decide +kernel
theorem dX12_joined_158 : decode cX12_joined 158 = .ok (.iload_n 2, 1) := by decide +kernel
theorem dX12_joined_159 : decode cX12_joined 159 = .ok (.iconst (-1), 1) := by decide +kernel
theorem dX12_joined_160 : decode cX12_joined 160 = .ok (.if_icmp .ne 7, 3) := by decide +kernel
theorem dX12_joined_163 : decode cX12_joined 163 = .ok (.iconst 0, 1) := by decide +kernel
theorem dX12_joined_164 : decode cX12_joined 164 = .ok (.goto 6, 3) := by decide +kernel
theorem dX12_joined_167 : decode cX12_joined 167 = .ok (.iload_n 1, 1) := by decide +kernel
theorem dX12_joined_168 : decode cX12_joined 168 = .ok (.iload_n 2, 1) := by decide +kernel
theorem dX12_joined_169 : decode cX12_joined 169 = .ok (.irem, 1) := by decide +kernel
theorem dX12_joined_170 : decode cX12_joined 170 = .ok (.ireturn, 1) := by decide +kernel
theorem dX12_joined_171 : decode cX12_joined 171 = .ok (.iload_n 1, 1) := by decide +kernel
theorem dX12_joined_172 : decode cX12_joined 172 = .ok (.iload_n 2, 1) := by decide +kernel
theorem dX12_joined_173 : decode cX12_joined 173 = .ok (.if_icmp .ge 7, 3) := by decide +kernel
theorem dX12_joined_176 : decode cX12_joined 176 = .ok (.iconst 1, 1) := by decide +kernel
theorem dX12_joined_177 : decode cX12_joined 177 = .ok (.goto 4, 3) := by decide +kernel
theorem dX12_joined_180 : decode cX12_joined 180 = .ok (.iconst 0, 1) := by decide +kernel
theorem dX12_joined_181 : decode cX12_joined 181 = .ok (.ireturn, 1) := by decide +kernel
theorem dX12_joined_182 : decode cX12_joined 182 = .ok (.iload_n 1, 1) := by decide +kernel
theorem dX12_joined_183 : decode cX12_joined 183 = .ok (.iload_n 2, 1) := by decide +kernel
theorem dX12_joined_184 : decode cX12_joined 184 = .ok (.if_icmp .le 7, 3) := by decide +kernel
theorem dX12_joined_187 : decode cX12_joined 187 = .ok (.iconst 1, 1) := by decide +kernel
theorem dX12_joined_188 : decode cX12_joined 188 = .ok (.goto 4, 3) := by decide +kernel
theorem dX12_joined_191 : decode cX12_joined 191 = .ok (.iconst 0, 1) := by decide +kernel
theorem dX12_joined_192 : decode cX12_joined 192 = .ok (.ireturn, 1) := by decide +kernel
theorem dX12_joined_193 : decode cX12_joined 193 = .ok (.iload_n 1, 1) := by decide +kernel
theorem dX12_joined_194 : decode cX12_joined 194 = .ok (.iload_n 2, 1) := by decide +kernel
theorem dX12_joined_195 : decode cX12_joined 195 = .ok (.if_icmp .ne 7, 3) := by decide +kernel
theorem dX12_joined_198 : decode cX12_joined 198 = .ok (.iconst 1, 1) := by decide +kernel
theorem dX12_joined_199 : decode cX12_joined 199 = .ok (.goto 4, 3) := by decide +kernel
theorem dX12_joined_202 : decode cX12_joined 202 = .ok (.iconst 0, 1) := by decide +kernel
theorem dX12_joined_203 : decode cX12_joined 203 = .ok (.ireturn, 1) := by decide +kernel
theorem dX12_joined_204 : decode cX12_joined 204 = .ok (.iload_n 1, 1) := by decide +kernel
theorem dX12_joined_205 : decode cX12_joined 205 = .ok (.ifCond .eq 11, 3) := by decide +kernel
theorem dX12_joined_208 : decode cX12_joined 208 = .ok (.iload_n 2, 1) := by decide +kernel
theorem dX12_joined_209 : decode cX12_joined 209 = .ok (.ifCond .eq 7, 3) := by decide +kernel
theorem dX12_joined_212 : decode cX12_joined 212 = .ok (.iconst 1, 1) := by decide +kernel
theorem dX12_joined_213 : decode cX12_joined 213 = .ok (.goto 4, 3) := by decide +kernel
theorem dX12_joined_216 : decode cX12_joined 216 = .ok (.iconst 0, 1) := by decide +kernel
theorem dX12_joined_217 : decode cX12_joined 217 = .ok (.ireturn, 1) := by decide +kernel
theorem dX12_joined_218 : decode cX12_joined 218 = .ok (.iload_n 1, 1) := by decide +kernel
theorem dX12_joined_219 : decode cX12_joined 219 = .ok (.ifCond .ne 7, 3) := by decide +kernel
theorem dX12_joined_222 : decode cX12_joined 222 = .ok (.iload_n 2, 1) := by decide +kernel
theorem dX12_joined_223 : decode cX12_joined 223 = .ok (.ifCond .eq 7, 3) := by decide +kernel
theorem dX12_joined_226 : decode cX12_joined 226 = .ok (.iconst 1, 1) := by decide +kernel
theorem dX12_joined_227 : decode cX12_joined 227 = .ok (.goto 4, 3) := by decide +kernel
theorem dX12_joined_230 : decode cX12_joined 230 = .ok (.iconst 0, 1) := by decide +kernel
theorem dX12_joined_231 : decode cX12_joined 231 = .ok (.ireturn, 1) := by decide +kernel
theorem dX12_worked_0 : decode cX12_worked 0 = .ok (.sipush 182, 3) := by decide +kernel
theorem dX12_worked_3 : decode cX12_worked 3 = .ok (.bipush 125, 2) := by decide +kernel
theorem dX12_worked_5 : decode cX12_worked 5 = .ok (.iload_n 1, 1) := by decide +kernel
theorem dX12_worked_6 : decode cX12_worked 6 = .ok (.imul, 1) := by decide +kernel
theorem dX12_worked_7 : decode cX12_worked 7 = .ok (.iadd, 1) := by decide +kernel
theorem dX12_worked_8 : decode cX12_worked 8 = .ok (.istore_n 2, 1) := by decide +kernel
theorem dX12_worked_9 : decode cX12_worked 9 = .ok (.iconst 0, 1) := by decide +kernel
theorem dX12_worked_10 : decode cX12_worked 10 = .ok (.istore_n 3, 1) := by decide +kernel
theorem dX12_worked_11 : decode cX12_worked 11 = .ok (.iconst 0, 1) := by decide +kernel
theorem dX12_worked_12 : decode cX12_worked 12 = .ok (.istore 4, 2) := by decide +kernel
theorem dX12_worked_14 : decode cX12_worked 14 = .ok (.iload 4, 2) := by decide +kernel
theorem dX12_worked_16 : decode cX12_worked 16 = .ok (.aload_n 0, 1) := by decide +kernel
theorem dX12_worked_17 : decode cX12_worked 17 = .ok (.getfield 7, 3) := by decide +kernel
theorem dX12_worked_20 : decode cX12_worked 20 = .ok (.iload_n 2, 1) := by decide +kernel
theorem dX12_worked_21 : decode cX12_worked 21 = .ok (.iaload, 1) := by decide +kernel
theorem dX12_worked_22 : decode cX12_worked 22 = .ok (.if_icmp .ge 142, 3) := by decide +kernel
theorem dX12_worked_25 : decode cX12_worked 25 = .ok (.aload_n 0, 1) := by decide +kernel
theorem dX12_worked_26 : decode cX12_worked 26 = .ok (.getfield 7, 3) := by decide +kernel
theorem dX12_worked_29 : decode cX12_worked 29 = .ok (.iload_n 2, 1) := by decide +kernel
theorem dX12_worked_30 : decode cX12_worked 30 = .ok (.iconst 1, 1) := by decide +kernel
theorem dX12_worked_31 : decode cX12_worked 31 = .ok (.iadd, 1) := by decide +kernel
theorem dX12_worked_32 : decode cX12_worked 32 = .ok (.iconst 2, 1) := by decide +kernel
theorem dX12_worked_33 : decode cX12_worked 33 = .ok (.iload 4, 2) := by decide +kernel
theorem dX12_worked_35 : decode cX12_worked 35 = .ok (.imul, 1) := by decide +kernel
theorem dX12_worked_36 : decode cX12_worked 36 = .ok (.iadd, 1) := by decide +kernel
theorem dX12_worked_37 : decode cX12_worked 37 = .ok (.iaload, 1) := by decide +kernel
theorem dX12_worked_38 : decode cX12_worked 38 = .ok (.istore 5, 2) := by decide +kernel
theorem dX12_worked_40 : decode cX12_worked 40 = .ok (.aload_n 0, 1) := by decide +kernel
theorem dX12_worked_41 : decode cX12_worked 41 = .ok (.getfield 7, 3) := by decide +kernel
theorem dX12_worked_44 : decode cX12_worked 44 = .ok (.iload_n 2, 1) := by decide +kernel
theorem dX12_worked_45 : decode cX12_worked 45 = .ok (.iconst 2, 1) := by decide +kernel
theorem dX12_worked_46 : decode cX12_worked 46 = .ok (.iadd, 1) := by decide +kernel
theorem dX12_worked_47 : decode cX12_worked 47 = .ok (.iconst 2, 1) := by decide +kernel
theorem dX12_worked_48 : decode cX12_worked 48 = .ok (.iload 4, 2) := by decide +kernel
theorem dX12_worked_50 : decode cX12_worked 50 = .ok (.imul, 1) := by decide +kernel
theorem dX12_worked_51 : decode cX12_worked 51 = .ok (.iadd, 1) := by decide +kernel
theorem dX12_worked_52 : decode cX12_worked 52 = .ok (.iaload, 1) := by decide +kernel
theorem dX12_worked_53 : decode cX12_worked 53 = .ok (.istore 6, 2) := by decide +kernel
theorem dX12_worked_55 : decode cX12_worked 55 = .ok (.iload 5, 2) := by decide +kernel
theorem dX12_worked_57 : decode cX12_worked 57 = .ok (.ifCond .eq 9, 3) := by decide +kernel
theorem dX12_worked_60 : decode cX12_worked 60 = .ok (.iload 5, 2) := by decide +kernel
theorem dX12_worked_62 : decode cX12_worked 62 = .ok (.iconst 1, 1) := by decide +kernel
theorem dX12_worked_63 : decode cX12_worked 63 = .ok (.if_icmp .ne 32, 3) := by decide +kernel
theorem dX12_worked_66 : decode cX12_worked 66 = .ok (.aload_n 0, 1) := by decide +kernel
theorem dX12_worked_67 : decode cX12_worked 67 = .ok (.getfield 28, 3) := by decide +kernel
theorem dX12_worked_70 : decode cX12_worked 70 = .ok (.iload_n 3, 1) := by decide +kernel
theorem dX12_worked_71 : decode cX12_worked 71 = .ok (.iload 5, 2) := by decide +kernel
theorem dX12_worked_73 : decode cX12_worked 73 = .ok (.ifCond .ne 8, 3) := by decide +kernel
theorem dX12_worked_76 : decode cX12_worked 76 = .ok (.iload 6, 2) := by decide +kernel
theorem dX12_worked_78 : decode cX12_worked 78 = .ok (.goto 10, 3) := by decide +kernel
theorem dX12_worked_81 : decode cX12_worked 81 = .ok (.aload_n 0, 1) := by decide +kernel
theorem dX12_worked_82 : decode cX12_worked 82 = .ok (.getfield 25, 3) := by decide +kernel
theorem dX12_worked_85 : decode cX12_worked 85 = .ok (.iload 6, 2) := by decide +kernel
theorem dX12_worked_87 : decode cX12_worked 87 = .ok (.iaload, 1) := by decide +kernel
theorem dX12_worked_88 : decode cX12_worked 88 = .ok (.iastore, 1) := by decide +kernel
theorem dX12_worked_89 : decode cX12_worked 89 = .ok (.iinc 3 1, 3) := by decide +kernel
theorem dX12_worked_92 : decode cX12_worked 92 = .ok (.goto 66, 3) := by decide +kernel
theorem dX12_worked_95 : decode cX12_worked 95 = .ok (.iload 5, 2) := by decide +kernel
theorem dX12_worked_97 : decode cX12_worked 97 = .ok (.iconst 2, 1) := by decide +kernel
theorem dX12_worked_98 : decode cX12_worked 98 = .ok (.if_icmp .ne 30, 3) := by decide +kernel
theorem dX12_worked_101 : decode cX12_worked 101 = .ok (.aload_n 0, 1) := by decide +kernel
theorem dX12_worked_102 : decode cX12_worked 102 = .ok (.getfield 28, 3) := by decide +kernel
theorem dX12_worked_105 : decode cX12_worked 105 = .ok (.iload_n 3, 1) := by decide +kernel
theorem dX12_worked_106 : decode cX12_worked 106 = .ok (.iconst 1, 1) := by decide +kernel
theorem dX12_worked_107 : decode cX12_worked 107 = .ok (.isub, 1) := by decide +kernel
theorem dX12_worked_108 : decode cX12_worked 108 = .ok (.aload_n 0, 1) := by decide +kernel
theorem dX12_worked_109 : decode cX12_worked 109 = .ok (.getfield 28, 3) := by decide +kernel
theorem dX12_worked_112 : decode cX12_worked 112 = .ok (.iload_n 3, 1) := by decide +kernel
theorem dX12_worked_113 : decode cX12_worked 113 = .ok (.iconst 1, 1) := by decide +kernel
theorem dX12_worked_114 : decode cX12_worked 114 = .ok (.isub, 1) := by decide +kernel
theorem dX12_worked_115 : decode cX12_worked 115 = .ok (.iaload, 1) := by decide +kernel
theorem dX12_worked_116 : decode cX12_worked 116 = .ok (.ifCond .ne 7, 3) := by decide +kernel
theorem dX12_worked_119 : decode cX12_worked 119 = .ok (.iconst 1, 1) := by decide +kernel
theorem dX12_worked_120 : decode cX12_worked 120 = .ok (.goto 4, 3) := by decide +kernel
theorem dX12_worked_123 : decode cX12_worked 123 = .ok (.iconst 0, 1) := by decide +kernel
theorem dX12_worked_124 : decode cX12_worked 124 = .ok (.iastore, 1) := by decide +kernel
theorem dX12_worked_125 : decode cX12_worked 125 = .ok (.goto 33, 3) := by decide +kernel
theorem dX12_worked_128 : decode cX12_worked 128 = .ok (.iinc 3 (-1), 3) := by decide +kernel
theorem dX12_worked_131 : decode cX12_worked 131 = .ok (.aload_n 0, 1) := by decide +kernel
theorem dX12_worked_132 : decode cX12_worked 132 = .ok (.getfield 28, 3) := by decide +kernel
theorem dX12_worked_135 : decode cX12_worked 135 = .ok (.iload_n 3, 1) := by decide +kernel
theorem dX12_worked_136 : decode cX12_worked 136 = .ok (.iconst 1, 1) := by decide +kernel
theorem dX12_worked_137 : decode cX12_worked 137 = .ok (.isub, 1) := by decide +kernel
theorem dX12_worked_138 : decode cX12_worked 138 = .ok (.iload 6, 2) := by decide +kernel
theorem dX12_worked_140 : decode cX12_worked 140 = .ok (.aload_n 0, 1) := by decide +kernel
theorem dX12_worked_141 : decode cX12_worked 141 = .ok (.getfield 28, 3) := by decide +kernel
theorem dX12_worked_144 : decode cX12_worked 144 = .ok (.iload_n 3, 1) := by decide +kernel
theorem dX12_worked_145 : decode cX12_worked 145 = .ok (.iconst 1, 1) := by decide +kernel
theorem dX12_worked_146 : decode cX12_worked 146 = .ok (.isub, 1) := by decide +kernel
theorem dX12_worked_147 : decode cX12_worked 147 = .ok (.iaload, 1) := by decide +kernel
theorem dX12_worked_148 : decode cX12_worked 148 = .ok (.aload_n 0, 1) := by decide +kernel
theorem dX12_worked_149 : decode cX12_worked 149 = .ok (.getfield 28, 3) := by decide +kernel
theorem dX12_worked_152 : decode cX12_worked 152 = .ok (.iload_n 3, 1) := by decide +kernel
theorem dX12_worked_153 : decode cX12_worked 153 = .ok (.iaload, 1) := by decide +kernel
theorem dX12_worked_154 : decode cX12_worked 154 = .ok (.invokestatic 155, 3) := by decide +kernel
theorem dX12_worked_157 : decode cX12_worked 157 = .ok (.iastore, 1) := by decide +kernel
theorem dX12_worked_158 : decode cX12_worked 158 = .ok (.iinc 4 1, 3) := by decide +kernel
theorem dX12_worked_161 : decode cX12_worked 161 = .ok (.goto (-147), 3) := by decide +kernel
theorem dX12_worked_164 : decode cX12_worked 164 = .ok (.aload_n 0, 1) := by decide +kernel
theorem dX12_worked_165 : decode cX12_worked 165 = .ok (.getfield 28, 3) := by decide +kernel
theorem dX12_worked_168 : decode cX12_worked 168 = .ok (.iconst 0, 1) := by decide +kernel
theorem dX12_worked_169 : decode cX12_worked 169 = .ok (.iaload, 1) := by decide +kernel
theorem dX12_worked_170 : decode cX12_worked 170 = .ok (.ireturn, 1) := by decide +kernel
theorem dX12_greatestElse_0 : decode cX12_greatestElse 0 = .ok (.iconst 0, 1) := by decide +kernel
theorem dX12_greatestElse_1 : decode cX12_greatestElse 1 = .ok (.istore_n 2, 1) := by decide +kernel
theorem dX12_greatestElse_2 : decode cX12_greatestElse 2 = .ok (.iconst 0, 1) := by decide +kernel
theorem dX12_greatestElse_3 : decode cX12_greatestElse 3 = .ok (.istore_n 3, 1) := by decide +kernel
theorem dX12_greatestElse_4 : decode cX12_greatestElse 4 = .ok (.iload_n 3, 1) := by decide +kernel
theorem dX12_greatestElse_5 : decode cX12_greatestElse 5 = .ok (.aload_n 0, 1) := by decide +kernel
theorem dX12_greatestElse_6 : decode cX12_greatestElse 6 = .ok (.getfield 7, 3) := by decide +kernel
theorem dX12_greatestElse_9 : decode cX12_greatestElse 9 = .ok (.iconst 0, 1) := by decide +kernel
theorem dX12_greatestElse_10 : decode cX12_greatestElse 10 = .ok (.iaload, 1) := by decide +kernel
theorem dX12_greatestElse_11 : decode cX12_greatestElse 11 = .ok (.if_icmp .ge 39, 3) := by decide +kernel
theorem dX12_greatestElse_14 : decode cX12_greatestElse 14 = .ok (.aload_n 0, 1) := by decide +kernel
theorem dX12_greatestElse_15 : decode cX12_greatestElse 15 = .ok (.iload_n 3, 1) := by decide +kernel
theorem dX12_greatestElse_16 : decode cX12_greatestElse 16 = .ok (.iload_n 1, 1) := by decide +kernel
theorem dX12_greatestElse_17 : decode cX12_greatestElse 17 = .ok (.invokevirtual 73, 3) := by decide +kernel
theorem dX12_greatestElse_20 : decode cX12_greatestElse 20 = .ok (.istore 4, 2) := by decide +kernel
theorem dX12_greatestElse_22 : decode cX12_greatestElse 22 = .ok (.iload_n 3, 1) := by decide +kernel
theorem dX12_greatestElse_23 : decode cX12_greatestElse 23 = .ok (.aload_n 0, 1) := by decide +kernel
theorem dX12_greatestElse_24 : decode cX12_greatestElse 24 = .ok (.iload_n 1, 1) := by decide +kernel
theorem dX12_greatestElse_25 : decode cX12_greatestElse 25 = .ok (.invokevirtual 67, 3) := by decide +kernel
theorem dX12_greatestElse_28 : decode cX12_greatestElse 28 = .ok (.if_icmp .eq 14, 3) := by decide +kernel
theorem dX12_greatestElse_31 : decode cX12_greatestElse 31 = .ok (.iload 4, 2) := by decide +kernel
theorem dX12_greatestElse_33 : decode cX12_greatestElse 33 = .ok (.iload_n 2, 1) := by decide +kernel
theorem dX12_greatestElse_34 : decode cX12_greatestElse 34 = .ok (.if_icmp .le 8, 3) := by decide +kernel
theorem dX12_greatestElse_37 : decode cX12_greatestElse 37 = .ok (.iload 4, 2) := by decide +kernel
theorem dX12_greatestElse_39 : decode cX12_greatestElse 39 = .ok (.goto 4, 3) := by decide +kernel
theorem dX12_greatestElse_42 : decode cX12_greatestElse 42 = .ok (.iload_n 2, 1) := by decide +kernel
theorem dX12_greatestElse_43 : decode cX12_greatestElse 43 = .ok (.istore_n 2, 1) := by decide +kernel
theorem dX12_greatestElse_44 : decode cX12_greatestElse 44 = .ok (.iinc 3 1, 3) := by decide +kernel
theorem dX12_greatestElse_47 : decode cX12_greatestElse 47 = .ok (.goto (-43), 3) := by decide +kernel
theorem dX12_greatestElse_50 : decode cX12_greatestElse 50 = .ok (.iload_n 2, 1) := by decide +kernel
theorem dX12_greatestElse_51 : decode cX12_greatestElse 51 = .ok (.ireturn, 1) := by decide +kernel
theorem dX12_namedBy_0 : decode cX12_namedBy 0 = .ok (.aload_n 0, 1) := by decide +kernel
theorem dX12_namedBy_1 : decode cX12_namedBy 1 = .ok (.iload_n 1, 1) := by decide +kernel
theorem dX12_namedBy_2 : decode cX12_namedBy 2 = .ok (.invokevirtual 67, 3) := by decide +kernel
theorem dX12_namedBy_5 : decode cX12_namedBy 5 = .ok (.istore_n 2, 1) := by decide +kernel
theorem dX12_namedBy_6 : decode cX12_namedBy 6 = .ok (.aload_n 0, 1) := by decide +kernel
theorem dX12_namedBy_7 : decode cX12_namedBy 7 = .ok (.iload_n 2, 1) := by decide +kernel
theorem dX12_namedBy_8 : decode cX12_namedBy 8 = .ok (.iload_n 1, 1) := by decide +kernel
theorem dX12_namedBy_9 : decode cX12_namedBy 9 = .ok (.invokevirtual 73, 3) := by decide +kernel
theorem dX12_namedBy_12 : decode cX12_namedBy 12 = .ok (.istore_n 3, 1) := by decide +kernel
theorem dX12_namedBy_13 : decode cX12_namedBy 13 = .ok (.aload_n 0, 1) := by decide +kernel
theorem dX12_namedBy_14 : decode cX12_namedBy 14 = .ok (.iload_n 2, 1) := by decide +kernel
theorem dX12_namedBy_15 : decode cX12_namedBy 15 = .ok (.iconst 0, 1) := by decide +kernel
theorem dX12_namedBy_16 : decode cX12_namedBy 16 = .ok (.invokevirtual 79, 3) := by decide +kernel
theorem dX12_namedBy_19 : decode cX12_namedBy 19 = .ok (.tableswitch 137 1 6 #[37, 39, 43, 47, 55, 131], 37) := by decide +kernel
theorem dX12_namedBy_56 : decode cX12_namedBy 56 = .ok (.iload_n 3, 1) := by decide +kernel
theorem dX12_namedBy_57 : decode cX12_namedBy 57 = .ok (.ireturn, 1) := by decide +kernel
theorem dX12_namedBy_58 : decode cX12_namedBy 58 = .ok (.iconst 2, 1) := by decide +kernel
theorem dX12_namedBy_59 : decode cX12_namedBy 59 = .ok (.iload_n 3, 1) := by decide +kernel
theorem dX12_namedBy_60 : decode cX12_namedBy 60 = .ok (.imul, 1) := by decide +kernel
theorem dX12_namedBy_61 : decode cX12_namedBy 61 = .ok (.ireturn, 1) := by decide +kernel
theorem dX12_namedBy_62 : decode cX12_namedBy 62 = .ok (.iload_n 3, 1) := by decide +kernel
theorem dX12_namedBy_63 : decode cX12_namedBy 63 = .ok (.iconst 2, 1) := by decide +kernel
theorem dX12_namedBy_64 : decode cX12_namedBy 64 = .ok (.idiv, 1) := by decide +kernel
theorem dX12_namedBy_65 : decode cX12_namedBy 65 = .ok (.ireturn, 1) := by decide +kernel
theorem dX12_namedBy_66 : decode cX12_namedBy 66 = .ok (.aload_n 0, 1) := by decide +kernel
theorem dX12_namedBy_67 : decode cX12_namedBy 67 = .ok (.iload_n 1, 1) := by decide +kernel
theorem dX12_namedBy_68 : decode cX12_namedBy 68 = .ok (.invokevirtual 159, 3) := by decide +kernel
theorem dX12_namedBy_71 : decode cX12_namedBy 71 = .ok (.iconst 1, 1) := by decide +kernel
theorem dX12_namedBy_72 : decode cX12_namedBy 72 = .ok (.isub, 1) := by decide +kernel
theorem dX12_namedBy_73 : decode cX12_namedBy 73 = .ok (.ireturn, 1) := by decide +kernel
theorem dX12_namedBy_74 : decode cX12_namedBy 74 = .ok (.aload_n 0, 1) := by decide +kernel
theorem dX12_namedBy_75 : decode cX12_namedBy 75 = .ok (.iconst 0, 1) := by decide +kernel
theorem dX12_namedBy_76 : decode cX12_namedBy 76 = .ok (.invokevirtual 152, 3) := by decide +kernel
theorem dX12_namedBy_79 : decode cX12_namedBy 79 = .ok (.ifCond .ne 5, 3) := by decide +kernel
theorem dX12_namedBy_82 : decode cX12_namedBy 82 = .ok (.iload_n 3, 1) := by decide +kernel
theorem dX12_namedBy_83 : decode cX12_namedBy 83 = .ok (.ireturn, 1) := by decide +kernel
theorem dX12_namedBy_84 : decode cX12_namedBy 84 = .ok (.aload_n 0, 1) := by decide +kernel
theorem dX12_namedBy_85 : decode cX12_namedBy 85 = .ok (.getfield 25, 3) := by decide +kernel
theorem dX12_namedBy_88 : decode cX12_namedBy 88 = .ok (.bipush 118, 2) := by decide +kernel
theorem dX12_namedBy_90 : decode cX12_namedBy 90 = .ok (.iload_n 3, 1) := by decide +kernel
theorem dX12_namedBy_91 : decode cX12_namedBy 91 = .ok (.iastore, 1) := by decide +kernel
theorem dX12_namedBy_92 : decode cX12_namedBy 92 = .ok (.aload_n 0, 1) := by decide +kernel
theorem dX12_namedBy_93 : decode cX12_namedBy 93 = .ok (.getfield 25, 3) := by decide +kernel
theorem dX12_namedBy_96 : decode cX12_namedBy 96 = .ok (.bipush 109, 2) := by decide +kernel
theorem dX12_namedBy_98 : decode cX12_namedBy 98 = .ok (.aload_n 0, 1) := by decide +kernel
theorem dX12_namedBy_99 : decode cX12_namedBy 99 = .ok (.iload_n 1, 1) := by decide +kernel
theorem dX12_namedBy_100 : decode cX12_namedBy 100 = .ok (.invokevirtual 159, 3) := by decide +kernel
theorem dX12_namedBy_103 : decode cX12_namedBy 103 = .ok (.iastore, 1) := by decide +kernel
theorem dX12_namedBy_104 : decode cX12_namedBy 104 = .ok (.aload_n 0, 1) := by decide +kernel
theorem dX12_namedBy_105 : decode cX12_namedBy 105 = .ok (.getfield 25, 3) := by decide +kernel
theorem dX12_namedBy_108 : decode cX12_namedBy 108 = .ok (.bipush 112, 2) := by decide +kernel
theorem dX12_namedBy_110 : decode cX12_namedBy 110 = .ok (.aload_n 0, 1) := by decide +kernel
theorem dX12_namedBy_111 : decode cX12_namedBy 111 = .ok (.iload_n 1, 1) := by decide +kernel
theorem dX12_namedBy_112 : decode cX12_namedBy 112 = .ok (.iconst 1, 1) := by decide +kernel
theorem dX12_namedBy_113 : decode cX12_namedBy 113 = .ok (.invokevirtual 51, 3) := by decide +kernel
theorem dX12_namedBy_116 : decode cX12_namedBy 116 = .ok (.iastore, 1) := by decide +kernel
theorem dX12_namedBy_117 : decode cX12_namedBy 117 = .ok (.aload_n 0, 1) := by decide +kernel
theorem dX12_namedBy_118 : decode cX12_namedBy 118 = .ok (.getfield 25, 3) := by decide +kernel
theorem dX12_namedBy_121 : decode cX12_namedBy 121 = .ok (.bipush 114, 2) := by decide +kernel
theorem dX12_namedBy_123 : decode cX12_namedBy 123 = .ok (.aload_n 0, 1) := by decide +kernel
theorem dX12_namedBy_124 : decode cX12_namedBy 124 = .ok (.getfield 7, 3) := by decide +kernel
theorem dX12_namedBy_127 : decode cX12_namedBy 127 = .ok (.bipush 10, 2) := by decide +kernel
theorem dX12_namedBy_129 : decode cX12_namedBy 129 = .ok (.iaload, 1) := by decide +kernel
theorem dX12_namedBy_130 : decode cX12_namedBy 130 = .ok (.iastore, 1) := by decide +kernel
theorem dX12_namedBy_131 : decode cX12_namedBy 131 = .ok (.aload_n 0, 1) := by decide +kernel
theorem dX12_namedBy_132 : decode cX12_namedBy 132 = .ok (.getfield 25, 3) := by decide +kernel
theorem dX12_namedBy_135 : decode cX12_namedBy 135 = .ok (.bipush 121, 2) := by decide +kernel
theorem dX12_namedBy_137 : decode cX12_namedBy 137 = .ok (.aload_n 0, 1) := by decide +kernel
theorem dX12_namedBy_138 : decode cX12_namedBy 138 = .ok (.getfield 7, 3) := by decide +kernel
theorem dX12_namedBy_141 : decode cX12_namedBy 141 = .ok (.iconst 3, 1) := by decide +kernel
theorem dX12_namedBy_142 : decode cX12_namedBy 142 = .ok (.iaload, 1) := by decide +kernel
theorem dX12_namedBy_143 : decode cX12_namedBy 143 = .ok (.iastore, 1) := by decide +kernel
theorem dX12_namedBy_144 : decode cX12_namedBy 144 = .ok (.aload_n 0, 1) := by decide +kernel
theorem dX12_namedBy_145 : decode cX12_namedBy 145 = .ok (.iconst 0, 1) := by decide +kernel
theorem dX12_namedBy_146 : decode cX12_namedBy 146 = .ok (.invokevirtual 162, 3) := by decide +kernel
theorem dX12_namedBy_149 : decode cX12_namedBy 149 = .ok (.ireturn, 1) := by decide +kernel
theorem dX12_namedBy_150 : decode cX12_namedBy 150 = .ok (.aload_n 0, 1) := by decide +kernel
theorem dX12_namedBy_151 : decode cX12_namedBy 151 = .ok (.iload_n 1, 1) := by decide +kernel
theorem dX12_namedBy_152 : decode cX12_namedBy 152 = .ok (.invokevirtual 165, 3) := by decide +kernel
theorem dX12_namedBy_155 : decode cX12_namedBy 155 = .ok (.ireturn, 1) := by decide +kernel
theorem dX12_namedBy_156 : decode cX12_namedBy 156 = .ok (.aload_n 0, 1) := by decide +kernel
theorem dX12_namedBy_157 : decode cX12_namedBy 157 = .ok (.iload_n 1, 1) := by decide +kernel
theorem dX12_namedBy_158 : decode cX12_namedBy 158 = .ok (.iconst 1, 1) := by decide +kernel
theorem dX12_namedBy_159 : decode cX12_namedBy 159 = .ok (.invokevirtual 51, 3) := by decide +kernel
theorem dX12_namedBy_162 : decode cX12_namedBy 162 = .ok (.ireturn, 1) := by decide +kernel
theorem dX12_names_0 : decode cX12_names 0 = .ok (.aload_n 0, 1) := by decide +kernel
theorem dX12_names_1 : decode cX12_names 1 = .ok (.iload_n 1, 1) := by decide +kernel
theorem dX12_names_2 : decode cX12_names 2 = .ok (.invokevirtual 168, 3) := by decide +kernel
theorem dX12_names_5 : decode cX12_names 5 = .ok (.iconst 0, 1) := by decide +kernel
theorem dX12_names_6 : decode cX12_names 6 = .ok (.sipush 9999, 3) := by decide +kernel
theorem dX12_names_9 : decode cX12_names 9 = .ok (.invokestatic 171, 3) := by decide +kernel
theorem dX12_names_12 : decode cX12_names 12 = .ok (.ireturn, 1) := by decide +kernel
theorem dX12_named_0 : decode cX12_named 0 = .ok (.aload_n 0, 1) := by decide +kernel
theorem dX12_named_1 : decode cX12_named 1 = .ok (.iload_n 1, 1) := by decide +kernel
theorem dX12_named_2 : decode cX12_named 2 = .ok (.invokevirtual 92, 3) := by decide +kernel
theorem dX12_named_5 : decode cX12_named 5 = .ok (.ifCond .eq 11, 3) := by decide +kernel
theorem dX12_named_8 : decode cX12_named 8 = .ok (.aload_n 0, 1) := by decide +kernel
theorem dX12_named_9 : decode cX12_named 9 = .ok (.iload_n 1, 1) := by decide +kernel
theorem dX12_named_10 : decode cX12_named 10 = .ok (.invokevirtual 174, 3) := by decide +kernel
theorem dX12_named_13 : decode cX12_named 13 = .ok (.goto 8, 3) := by decide +kernel
theorem dX12_named_16 : decode cX12_named 16 = .ok (.aload_n 0, 1) := by decide +kernel
theorem dX12_named_17 : decode cX12_named 17 = .ok (.iconst 1, 1) := by decide +kernel
theorem dX12_named_18 : decode cX12_named 18 = .ok (.invokevirtual 60, 3) := by decide +kernel
theorem dX12_named_21 : decode cX12_named 21 = .ok (.ireturn, 1) := by decide +kernel
theorem dX12_isMended_0 : decode cX12_isMended 0 = .ok (.aload_n 0, 1) := by decide +kernel
theorem dX12_isMended_1 : decode cX12_isMended 1 = .ok (.iload_n 1, 1) := by decide +kernel
theorem dX12_isMended_2 : decode cX12_isMended 2 = .ok (.invokevirtual 67, 3) := by decide +kernel
theorem dX12_isMended_5 : decode cX12_isMended 5 = .ok (.istore_n 2, 1) := by decide +kernel
theorem dX12_isMended_6 : decode cX12_isMended 6 = .ok (.aload_n 0, 1) := by decide +kernel
theorem dX12_isMended_7 : decode cX12_isMended 7 = .ok (.iload_n 2, 1) := by decide +kernel
theorem dX12_isMended_8 : decode cX12_isMended 8 = .ok (.iload_n 1, 1) := by decide +kernel
theorem dX12_isMended_9 : decode cX12_isMended 9 = .ok (.invokevirtual 73, 3) := by decide +kernel
theorem dX12_isMended_12 : decode cX12_isMended 12 = .ok (.istore_n 3, 1) := by decide +kernel
theorem dX12_isMended_13 : decode cX12_isMended 13 = .ok (.aload_n 0, 1) := by decide +kernel
theorem dX12_isMended_14 : decode cX12_isMended 14 = .ok (.getfield 7, 3) := by decide +kernel
theorem dX12_isMended_17 : decode cX12_isMended 17 = .ok (.bipush 14, 2) := by decide +kernel
theorem dX12_isMended_19 : decode cX12_isMended 19 = .ok (.iaload, 1) := by decide +kernel
theorem dX12_isMended_20 : decode cX12_isMended 20 = .ok (.istore 4, 2) := by decide +kernel
theorem dX12_isMended_22 : decode cX12_isMended 22 = .ok (.aload_n 0, 1) := by decide +kernel
theorem dX12_isMended_23 : decode cX12_isMended 23 = .ok (.iload_n 1, 1) := by decide +kernel
theorem dX12_isMended_24 : decode cX12_isMended 24 = .ok (.iconst 2, 1) := by decide +kernel
theorem dX12_isMended_25 : decode cX12_isMended 25 = .ok (.invokevirtual 51, 3) := by decide +kernel
theorem dX12_isMended_28 : decode cX12_isMended 28 = .ok (.bipush 100, 2) := by decide +kernel
theorem dX12_isMended_30 : decode cX12_isMended 30 = .ok (.if_icmp .eq 14, 3) := by decide +kernel
theorem dX12_isMended_33 : decode cX12_isMended 33 = .ok (.aload_n 0, 1) := by decide +kernel
theorem dX12_isMended_34 : decode cX12_isMended 34 = .ok (.iload_n 2, 1) := by decide +kernel
theorem dX12_isMended_35 : decode cX12_isMended 35 = .ok (.iconst 1, 1) := by decide +kernel
theorem dX12_isMended_36 : decode cX12_isMended 36 = .ok (.invokevirtual 79, 3) := by decide +kernel
theorem dX12_isMended_39 : decode cX12_isMended 39 = .ok (.iload 4, 2) := by decide +kernel
theorem dX12_isMended_41 : decode cX12_isMended 41 = .ok (.if_icmp .ge 5, 3) := by decide +kernel
theorem dX12_isMended_44 : decode cX12_isMended 44 = .ok (.iconst 0, 1) := by decide +kernel
theorem dX12_isMended_45 : decode cX12_isMended 45 = .ok (.ireturn, 1) := by decide +kernel
theorem dX12_isMended_46 : decode cX12_isMended 46 = .ok (.aload_n 0, 1) := by decide +kernel
theorem dX12_isMended_47 : decode cX12_isMended 47 = .ok (.iconst 1, 1) := by decide +kernel
theorem dX12_isMended_48 : decode cX12_isMended 48 = .ok (.invokevirtual 152, 3) := by decide +kernel
theorem dX12_isMended_51 : decode cX12_isMended 51 = .ok (.ifCond .ne 18, 3) := by decide +kernel
theorem dX12_isMended_54 : decode cX12_isMended 54 = .ok (.iload_n 3, 1) := by decide +kernel
theorem dX12_isMended_55 : decode cX12_isMended 55 = .ok (.bipush 10, 2) := by decide +kernel
theorem dX12_isMended_57 : decode cX12_isMended 57 = .ok (.idiv, 1) := by decide +kernel
theorem dX12_isMended_58 : decode cX12_isMended 58 = .ok (.iload 4, 2) := by decide +kernel
theorem dX12_isMended_60 : decode cX12_isMended 60 = .ok (.if_icmp .lt 7, 3) := by decide +kernel
theorem dX12_isMended_63 : decode cX12_isMended 63 = .ok (.iconst 1, 1) := by decide +kernel
theorem dX12_isMended_64 : decode cX12_isMended 64 = .ok (.goto 4, 3) := by decide +kernel
theorem dX12_isMended_67 : decode cX12_isMended 67 = .ok (.iconst 0, 1) := by decide +kernel
theorem dX12_isMended_68 : decode cX12_isMended 68 = .ok (.ireturn, 1) := by decide +kernel
theorem dX12_isMended_69 : decode cX12_isMended 69 = .ok (.aload_n 0, 1) := by decide +kernel
theorem dX12_isMended_70 : decode cX12_isMended 70 = .ok (.getfield 25, 3) := by decide +kernel
theorem dX12_isMended_73 : decode cX12_isMended 73 = .ok (.bipush 118, 2) := by decide +kernel
theorem dX12_isMended_75 : decode cX12_isMended 75 = .ok (.iload_n 3, 1) := by decide +kernel
theorem dX12_isMended_76 : decode cX12_isMended 76 = .ok (.iastore, 1) := by decide +kernel
theorem dX12_isMended_77 : decode cX12_isMended 77 = .ok (.aload_n 0, 1) := by decide +kernel
theorem dX12_isMended_78 : decode cX12_isMended 78 = .ok (.getfield 25, 3) := by decide +kernel
theorem dX12_isMended_81 : decode cX12_isMended 81 = .ok (.bipush 115, 2) := by decide +kernel
theorem dX12_isMended_83 : decode cX12_isMended 83 = .ok (.aload_n 0, 1) := by decide +kernel
theorem dX12_isMended_84 : decode cX12_isMended 84 = .ok (.iload_n 1, 1) := by decide +kernel
theorem dX12_isMended_85 : decode cX12_isMended 85 = .ok (.iconst 2, 1) := by decide +kernel
theorem dX12_isMended_86 : decode cX12_isMended 86 = .ok (.invokevirtual 51, 3) := by decide +kernel
theorem dX12_isMended_89 : decode cX12_isMended 89 = .ok (.iastore, 1) := by decide +kernel
theorem dX12_isMended_90 : decode cX12_isMended 90 = .ok (.aload_n 0, 1) := by decide +kernel
theorem dX12_isMended_91 : decode cX12_isMended 91 = .ok (.getfield 25, 3) := by decide +kernel
theorem dX12_isMended_94 : decode cX12_isMended 94 = .ok (.bipush 99, 2) := by decide +kernel
theorem dX12_isMended_96 : decode cX12_isMended 96 = .ok (.iload 4, 2) := by decide +kernel
theorem dX12_isMended_98 : decode cX12_isMended 98 = .ok (.iastore, 1) := by decide +kernel
theorem dX12_isMended_99 : decode cX12_isMended 99 = .ok (.aload_n 0, 1) := by decide +kernel
theorem dX12_isMended_100 : decode cX12_isMended 100 = .ok (.getfield 25, 3) := by decide +kernel
theorem dX12_isMended_103 : decode cX12_isMended 103 = .ok (.bipush 117, 2) := by decide +kernel
theorem dX12_isMended_105 : decode cX12_isMended 105 = .ok (.aload_n 0, 1) := by decide +kernel
theorem dX12_isMended_106 : decode cX12_isMended 106 = .ok (.iload_n 2, 1) := by decide +kernel
theorem dX12_isMended_107 : decode cX12_isMended 107 = .ok (.iconst 1, 1) := by decide +kernel
theorem dX12_isMended_108 : decode cX12_isMended 108 = .ok (.invokevirtual 79, 3) := by decide +kernel
theorem dX12_isMended_111 : decode cX12_isMended 111 = .ok (.iastore, 1) := by decide +kernel
theorem dX12_isMended_112 : decode cX12_isMended 112 = .ok (.aload_n 0, 1) := by decide +kernel
theorem dX12_isMended_113 : decode cX12_isMended 113 = .ok (.getfield 25, 3) := by decide +kernel
theorem dX12_isMended_116 : decode cX12_isMended 116 = .ok (.bipush 114, 2) := by decide +kernel
theorem dX12_isMended_118 : decode cX12_isMended 118 = .ok (.aload_n 0, 1) := by decide +kernel
theorem dX12_isMended_119 : decode cX12_isMended 119 = .ok (.getfield 7, 3) := by decide +kernel
theorem dX12_isMended_122 : decode cX12_isMended 122 = .ok (.bipush 10, 2) := by decide +kernel
theorem dX12_isMended_124 : decode cX12_isMended 124 = .ok (.iaload, 1) := by decide +kernel
theorem dX12_isMended_125 : decode cX12_isMended 125 = .ok (.iastore, 1) := by decide +kernel
theorem dX12_isMended_126 : decode cX12_isMended 126 = .ok (.aload_n 0, 1) := by decide +kernel
theorem dX12_isMended_127 : decode cX12_isMended 127 = .ok (.iconst 1, 1) := by decide +kernel
theorem dX12_isMended_128 : decode cX12_isMended 128 = .ok (.invokevirtual 162, 3) := by decide +kernel
theorem dX12_isMended_131 : decode cX12_isMended 131 = .ok (.ifCond .eq 7, 3) := by decide +kernel
theorem dX12_isMended_134 : decode cX12_isMended 134 = .ok (.iconst 1, 1) := by decide +kernel
theorem dX12_isMended_135 : decode cX12_isMended 135 = .ok (.goto 4, 3) := by decide +kernel
theorem dX12_isMended_138 : decode cX12_isMended 138 = .ok (.iconst 0, 1) := by decide +kernel
theorem dX12_isMended_139 : decode cX12_isMended 139 = .ok (.ireturn, 1) := by decide +kernel
theorem dX12_mended_0 : decode cX12_mended 0 = .ok (.aload_n 0, 1) := by decide +kernel
theorem dX12_mended_1 : decode cX12_mended 1 = .ok (.iload_n 1, 1) := by decide +kernel
theorem dX12_mended_2 : decode cX12_mended 2 = .ok (.invokevirtual 92, 3) := by decide +kernel
theorem dX12_mended_5 : decode cX12_mended 5 = .ok (.ifCond .ne 11, 3) := by decide +kernel
theorem dX12_mended_8 : decode cX12_mended 8 = .ok (.aload_n 0, 1) := by decide +kernel
theorem dX12_mended_9 : decode cX12_mended 9 = .ok (.iconst 1, 1) := by decide +kernel
theorem dX12_mended_10 : decode cX12_mended 10 = .ok (.invokevirtual 60, 3) := by decide +kernel
theorem dX12_mended_13 : decode cX12_mended 13 = .ok (.goto 16, 3) := by decide +kernel
theorem dX12_mended_16 : decode cX12_mended 16 = .ok (.aload_n 0, 1) := by decide +kernel
theorem dX12_mended_17 : decode cX12_mended 17 = .ok (.iload_n 1, 1) := by decide +kernel
theorem dX12_mended_18 : decode cX12_mended 18 = .ok (.invokevirtual 177, 3) := by decide +kernel
theorem dX12_mended_21 : decode cX12_mended 21 = .ok (.ifCond .eq 7, 3) := by decide +kernel
theorem dX12_mended_24 : decode cX12_mended 24 = .ok (.iconst 1, 1) := by decide +kernel
theorem dX12_mended_25 : decode cX12_mended 25 = .ok (.goto 4, 3) := by decide +kernel
theorem dX12_mended_28 : decode cX12_mended 28 = .ok (.iconst 0, 1) := by decide +kernel
theorem dX12_mended_29 : decode cX12_mended 29 = .ok (.ireturn, 1) := by decide +kernel
theorem dX12_draw_0 : decode cX12_draw 0 = .ok (.aload_n 0, 1) := by decide +kernel
theorem dX12_draw_1 : decode cX12_draw 1 = .ok (.getfield 7, 3) := by decide +kernel
theorem dX12_draw_4 : decode cX12_draw 4 = .ok (.bipush 8, 2) := by decide +kernel
theorem dX12_draw_6 : decode cX12_draw 6 = .ok (.aload_n 0, 1) := by decide +kernel
theorem dX12_draw_7 : decode cX12_draw 7 = .ok (.getfield 7, 3) := by decide +kernel
theorem dX12_draw_10 : decode cX12_draw 10 = .ok (.bipush 8, 2) := by decide +kernel
theorem dX12_draw_12 : decode cX12_draw 12 = .ok (.iaload, 1) := by decide +kernel
theorem dX12_draw_13 : decode cX12_draw 13 = .ok (.ldc 180, 2) := by decide +kernel
theorem dX12_draw_15 : decode cX12_draw 15 = .ok (.imul, 1) := by decide +kernel
theorem dX12_draw_16 : decode cX12_draw 16 = .ok (.sipush 12345, 3) := by decide +kernel
theorem dX12_draw_19 : decode cX12_draw 19 = .ok (.iadd, 1) := by decide +kernel
theorem dX12_draw_20 : decode cX12_draw 20 = .ok (.iastore, 1) := by decide +kernel
theorem dX12_draw_21 : decode cX12_draw 21 = .ok (.aload_n 0, 1) := by decide +kernel
theorem dX12_draw_22 : decode cX12_draw 22 = .ok (.getfield 7, 3) := by decide +kernel
theorem dX12_draw_25 : decode cX12_draw 25 = .ok (.bipush 8, 2) := by decide +kernel
theorem dX12_draw_27 : decode cX12_draw 27 = .ok (.iaload, 1) := by decide +kernel
theorem dX12_draw_28 : decode cX12_draw 28 = .ok (.bipush 8, 2) := by decide +kernel
theorem dX12_draw_30 : decode cX12_draw 30 = .ok (.iushr, 1) := by decide +kernel
theorem dX12_draw_31 : decode cX12_draw 31 = .ok (.ireturn, 1) := by decide +kernel
theorem dX12_gets_0 : decode cX12_gets 0 = .ok (.bipush 20, 2) := by decide +kernel
theorem dX12_gets_2 : decode cX12_gets 2 = .ok (.iconst 4, 1) := by decide +kernel
theorem dX12_gets_3 : decode cX12_gets 3 = .ok (.iload_n 1, 1) := by decide +kernel
theorem dX12_gets_4 : decode cX12_gets 4 = .ok (.imul, 1) := by decide +kernel
theorem dX12_gets_5 : decode cX12_gets 5 = .ok (.iadd, 1) := by decide +kernel
theorem dX12_gets_6 : decode cX12_gets 6 = .ok (.iconst 1, 1) := by decide +kernel
theorem dX12_gets_7 : decode cX12_gets 7 = .ok (.iadd, 1) := by decide +kernel
theorem dX12_gets_8 : decode cX12_gets 8 = .ok (.istore_n 3, 1) := by decide +kernel
theorem dX12_gets_9 : decode cX12_gets 9 = .ok (.aload_n 0, 1) := by decide +kernel
theorem dX12_gets_10 : decode cX12_gets 10 = .ok (.getfield 7, 3) := by decide +kernel
theorem dX12_gets_13 : decode cX12_gets 13 = .ok (.iload_n 3, 1) := by decide +kernel
theorem dX12_gets_14 : decode cX12_gets 14 = .ok (.iload_n 2, 1) := by decide +kernel
theorem dX12_gets_15 : decode cX12_gets 15 = .ok (.ldc 55, 2) := by decide +kernel
theorem dX12_gets_17 : decode cX12_gets 17 = .ok (.aload_n 0, 1) := by decide +kernel
theorem dX12_gets_18 : decode cX12_gets 18 = .ok (.getfield 7, 3) := by decide +kernel
theorem dX12_gets_21 : decode cX12_gets 21 = .ok (.iload_n 3, 1) := by decide +kernel
theorem dX12_gets_22 : decode cX12_gets 22 = .ok (.iaload, 1) := by decide +kernel
theorem dX12_gets_23 : decode cX12_gets 23 = .ok (.isub, 1) := by decide +kernel
theorem dX12_gets_24 : decode cX12_gets 24 = .ok (.if_icmp .le 8, 3) := by decide +kernel
theorem dX12_gets_27 : decode cX12_gets 27 = .ok (.ldc 55, 2) := by decide +kernel
theorem dX12_gets_29 : decode cX12_gets 29 = .ok (.goto 11, 3) := by decide +kernel
theorem dX12_gets_32 : decode cX12_gets 32 = .ok (.aload_n 0, 1) := by decide +kernel
theorem dX12_gets_33 : decode cX12_gets 33 = .ok (.getfield 7, 3) := by decide +kernel
theorem dX12_gets_36 : decode cX12_gets 36 = .ok (.iload_n 3, 1) := by decide +kernel
theorem dX12_gets_37 : decode cX12_gets 37 = .ok (.iaload, 1) := by decide +kernel
theorem dX12_gets_38 : decode cX12_gets 38 = .ok (.iload_n 2, 1) := by decide +kernel
theorem dX12_gets_39 : decode cX12_gets 39 = .ok (.iadd, 1) := by decide +kernel
theorem dX12_gets_40 : decode cX12_gets 40 = .ok (.iastore, 1) := by decide +kernel
theorem dX12_gets_41 : decode cX12_gets 41 = .ok (.return_, 1) := by decide +kernel
theorem dX12_pays_0 : decode cX12_pays 0 = .ok (.aload_n 0, 1) := by decide +kernel
theorem dX12_pays_1 : decode cX12_pays 1 = .ok (.iload_n 1, 1) := by decide +kernel
theorem dX12_pays_2 : decode cX12_pays 2 = .ok (.invokevirtual 67, 3) := by decide +kernel
theorem dX12_pays_5 : decode cX12_pays 5 = .ok (.istore_n 2, 1) := by decide +kernel
theorem dX12_pays_6 : decode cX12_pays 6 = .ok (.aload_n 0, 1) := by decide +kernel
theorem dX12_pays_7 : decode cX12_pays 7 = .ok (.getfield 7, 3) := by decide +kernel
theorem dX12_pays_10 : decode cX12_pays 10 = .ok (.bipush 10, 2) := by decide +kernel
theorem dX12_pays_12 : decode cX12_pays 12 = .ok (.iaload, 1) := by decide +kernel
theorem dX12_pays_13 : decode cX12_pays 13 = .ok (.aload_n 0, 1) := by decide +kernel
theorem dX12_pays_14 : decode cX12_pays 14 = .ok (.iload_n 1, 1) := by decide +kernel
theorem dX12_pays_15 : decode cX12_pays 15 = .ok (.iconst 1, 1) := by decide +kernel
theorem dX12_pays_16 : decode cX12_pays 16 = .ok (.invokevirtual 51, 3) := by decide +kernel
theorem dX12_pays_19 : decode cX12_pays 19 = .ok (.imul, 1) := by decide +kernel
theorem dX12_pays_20 : decode cX12_pays 20 = .ok (.bipush 100, 2) := by decide +kernel
theorem dX12_pays_22 : decode cX12_pays 22 = .ok (.idiv, 1) := by decide +kernel
theorem dX12_pays_23 : decode cX12_pays 23 = .ok (.istore_n 3, 1) := by decide +kernel
theorem dX12_pays_24 : decode cX12_pays 24 = .ok (.iload_n 3, 1) := by decide +kernel
theorem dX12_pays_25 : decode cX12_pays 25 = .ok (.aload_n 0, 1) := by decide +kernel
theorem dX12_pays_26 : decode cX12_pays 26 = .ok (.iload_n 2, 1) := by decide +kernel
theorem dX12_pays_27 : decode cX12_pays 27 = .ok (.iconst 1, 1) := by decide +kernel
theorem dX12_pays_28 : decode cX12_pays 28 = .ok (.invokevirtual 79, 3) := by decide +kernel
theorem dX12_pays_31 : decode cX12_pays 31 = .ok (.if_icmp .ge 7, 3) := by decide +kernel
theorem dX12_pays_34 : decode cX12_pays 34 = .ok (.iload_n 3, 1) := by decide +kernel
theorem dX12_pays_35 : decode cX12_pays 35 = .ok (.goto 9, 3) := by decide +kernel
theorem dX12_pays_38 : decode cX12_pays 38 = .ok (.aload_n 0, 1) := by decide +kernel
theorem dX12_pays_39 : decode cX12_pays 39 = .ok (.iload_n 2, 1) := by decide +kernel
theorem dX12_pays_40 : decode cX12_pays 40 = .ok (.iconst 1, 1) := by decide +kernel
theorem dX12_pays_41 : decode cX12_pays 41 = .ok (.invokevirtual 79, 3) := by decide +kernel
theorem dX12_pays_44 : decode cX12_pays 44 = .ok (.istore 4, 2) := by decide +kernel
theorem dX12_pays_46 : decode cX12_pays 46 = .ok (.aload_n 0, 1) := by decide +kernel
theorem dX12_pays_47 : decode cX12_pays 47 = .ok (.getfield 7, 3) := by decide +kernel
theorem dX12_pays_50 : decode cX12_pays 50 = .ok (.bipush 20, 2) := by decide +kernel
theorem dX12_pays_52 : decode cX12_pays 52 = .ok (.iconst 4, 1) := by decide +kernel
theorem dX12_pays_53 : decode cX12_pays 53 = .ok (.iload_n 2, 1) := by decide +kernel
theorem dX12_pays_54 : decode cX12_pays 54 = .ok (.imul, 1) := by decide +kernel
theorem dX12_pays_55 : decode cX12_pays 55 = .ok (.iadd, 1) := by decide +kernel
theorem dX12_pays_56 : decode cX12_pays 56 = .ok (.iconst 1, 1) := by decide +kernel
theorem dX12_pays_57 : decode cX12_pays 57 = .ok (.iadd, 1) := by decide +kernel
theorem dX12_pays_58 : decode cX12_pays 58 = .ok (.dup2, 1) := by decide +kernel
theorem dX12_pays_59 : decode cX12_pays 59 = .ok (.iaload, 1) := by decide +kernel
theorem dX12_pays_60 : decode cX12_pays 60 = .ok (.iload 4, 2) := by decide +kernel
