theorem dX4_init_0 : decode cX4_init 0 = .ok (.aload_n 0, 1) := by decide +kernel
theorem dX4_init_1 : decode cX4_init 1 = .ok (.invokespecial 1, 3) := by decide +kernel
theorem dX4_init_4 : decode cX4_init 4 = .ok (.aload_n 0, 1) := by decide +kernel
theorem dX4_init_5 : decode cX4_init 5 = .ok (.bipush 6, 2) := by decide +kernel
theorem dX4_init_7 : decode cX4_init 7 = .ok (.newarray .int, 2) := by decide +kernel
theorem dX4_init_9 : decode cX4_init 9 = .ok (.putfield 7, 3) := by decide +kernel
theorem dX4_init_12 : decode cX4_init 12 = .ok (.aload_n 0, 1) := by decide +kernel
theorem dX4_init_13 : decode cX4_init 13 = .ok (.sipush 240, 3) := by decide +kernel
theorem dX4_init_16 : decode cX4_init 16 = .ok (.newarray .int, 2) := by decide +kernel
theorem dX4_init_18 : decode cX4_init 18 = .ok (.putfield 13, 3) := by decide +kernel
theorem dX4_init_21 : decode cX4_init 21 = .ok (.aload_n 0, 1) := by decide +kernel
theorem dX4_init_22 : decode cX4_init 22 = .ok (.bipush 40, 2) := by decide +kernel
theorem dX4_init_24 : decode cX4_init 24 = .ok (.newarray .int, 2) := by decide +kernel
theorem dX4_init_26 : decode cX4_init 26 = .ok (.putfield 16, 3) := by decide +kernel
theorem dX4_init_29 : decode cX4_init 29 = .ok (.aload_n 0, 1) := by decide +kernel
theorem dX4_init_30 : decode cX4_init 30 = .ok (.bipush 40, 2) := by decide +kernel
theorem dX4_init_32 : decode cX4_init 32 = .ok (.newarray .int, 2) := by decide +kernel
theorem dX4_init_34 : decode cX4_init 34 = .ok (.putfield 19, 3) := by decide +kernel
theorem dX4_init_37 : decode cX4_init 37 = .ok (.aload_n 0, 1) := by decide +kernel
theorem dX4_init_38 : decode cX4_init 38 = .ok (.bipush 40, 2) := by decide +kernel
theorem dX4_init_40 : decode cX4_init 40 = .ok (.newarray .int, 2) := by decide +kernel
theorem dX4_init_42 : decode cX4_init 42 = .ok (.putfield 22, 3) := by decide +kernel
theorem dX4_init_45 : decode cX4_init 45 = .ok (.aload_n 0, 1) := by decide +kernel
theorem dX4_init_46 : decode cX4_init 46 = .ok (.bipush 40, 2) := by decide +kernel
theorem dX4_init_48 : decode cX4_init 48 = .ok (.newarray .int, 2) := by decide +kernel
theorem dX4_init_50 : decode cX4_init 50 = .ok (.putfield 25, 3) := by decide +kernel
theorem dX4_init_53 : decode cX4_init 53 = .ok (.aload_n 0, 1) := by decide +kernel
theorem dX4_init_54 : decode cX4_init 54 = .ok (.bipush 40, 2) := by decide +kernel
theorem dX4_init_56 : decode cX4_init 56 = .ok (.newarray .int, 2) := by decide +kernel
theorem dX4_init_58 : decode cX4_init 58 = .ok (.putfield 28, 3) := by decide +kernel
theorem dX4_init_61 : decode cX4_init 61 = .ok (.aload_n 0, 1) := by decide +kernel
theorem dX4_init_62 : decode cX4_init 62 = .ok (.bipush 40, 2) := by decide +kernel
theorem dX4_init_64 : decode cX4_init 64 = .ok (.newarray .int, 2) := by decide +kernel
theorem dX4_init_66 : decode cX4_init 66 = .ok (.putfield 31, 3) := by decide +kernel
theorem dX4_init_69 : decode cX4_init 69 = .ok (.aload_n 0, 1) := by decide +kernel
theorem dX4_init_70 : decode cX4_init 70 = .ok (.bipush 12, 2) := by decide +kernel
theorem dX4_init_72 : decode cX4_init 72 = .ok (.newarray .int, 2) := by decide +kernel
theorem dX4_init_74 : decode cX4_init 74 = .ok (.putfield 34, 3) := by decide +kernel
theorem dX4_init_77 : decode cX4_init 77 = .ok (.aload_n 0, 1) := by decide +kernel
theorem dX4_init_78 : decode cX4_init 78 = .ok (.bipush 12, 2) := by decide +kernel
theorem dX4_init_80 : decode cX4_init 80 = .ok (.newarray .int, 2) := by decide +kernel
theorem dX4_init_82 : decode cX4_init 82 = .ok (.putfield 37, 3) := by decide +kernel
theorem dX4_init_85 : decode cX4_init 85 = .ok (.aload_n 0, 1) := by decide +kernel
theorem dX4_init_86 : decode cX4_init 86 = .ok (.bipush 108, 2) := by decide +kernel
theorem dX4_init_88 : decode cX4_init 88 = .ok (.newarray .int, 2) := by decide +kernel
theorem dX4_init_90 : decode cX4_init 90 = .ok (.putfield 40, 3) := by decide +kernel
theorem dX4_init_93 : decode cX4_init 93 = .ok (.aload_n 0, 1) := by decide +kernel
theorem dX4_init_94 : decode cX4_init 94 = .ok (.bipush 12, 2) := by decide +kernel
theorem dX4_init_96 : decode cX4_init 96 = .ok (.newarray .int, 2) := by decide +kernel
theorem dX4_init_98 : decode cX4_init 98 = .ok (.putfield 43, 3) := by decide +kernel
theorem dX4_init_101 : decode cX4_init 101 = .ok (.aload_n 0, 1) := by decide +kernel
theorem dX4_init_102 : decode cX4_init 102 = .ok (.bipush 12, 2) := by decide +kernel
theorem dX4_init_104 : decode cX4_init 104 = .ok (.newarray .char, 2) := by decide +kernel
theorem dX4_init_106 : decode cX4_init 106 = .ok (.putfield 46, 3) := by decide +kernel
theorem dX4_init_109 : decode cX4_init 109 = .ok (.aload_n 0, 1) := by decide +kernel
theorem dX4_init_110 : decode cX4_init 110 = .ok (.bipush 30, 2) := by decide +kernel
theorem dX4_init_112 : decode cX4_init 112 = .ok (.newarray .char, 2) := by decide +kernel
theorem dX4_init_114 : decode cX4_init 114 = .ok (.putfield 50, 3) := by decide +kernel
theorem dX4_init_117 : decode cX4_init 117 = .ok (.aload_n 0, 1) := by decide +kernel
theorem dX4_init_118 : decode cX4_init 118 = .ok (.bipush 12, 2) := by decide +kernel
theorem dX4_init_120 : decode cX4_init 120 = .ok (.newarray .boolean, 2) := by decide +kernel
theorem dX4_init_122 : decode cX4_init 122 = .ok (.putfield 53, 3) := by decide +kernel
theorem dX4_init_125 : decode cX4_init 125 = .ok (.aload_n 0, 1) := by decide +kernel
theorem dX4_init_126 : decode cX4_init 126 = .ok (.sipush 810, 3) := by decide +kernel
theorem dX4_init_129 : decode cX4_init 129 = .ok (.newarray .boolean, 2) := by decide +kernel
theorem dX4_init_131 : decode cX4_init 131 = .ok (.putfield 57, 3) := by decide +kernel
theorem dX4_init_134 : decode cX4_init 134 = .ok (.aload_n 0, 1) := by decide +kernel
theorem dX4_init_135 : decode cX4_init 135 = .ok (.sipush 810, 3) := by decide +kernel
theorem dX4_init_138 : decode cX4_init 138 = .ok (.newarray .int, 2) := by decide +kernel
theorem dX4_init_140 : decode cX4_init 140 = .ok (.putfield 60, 3) := by decide +kernel
theorem dX4_init_143 : decode cX4_init 143 = .ok (.aload_n 0, 1) := by decide +kernel
theorem dX4_init_144 : decode cX4_init 144 = .ok (.bipush 30, 2) := by decide +kernel
theorem dX4_init_146 : decode cX4_init 146 = .ok (.newarray .int, 2) := by decide +kernel
theorem dX4_init_148 : decode cX4_init 148 = .ok (.putfield 63, 3) := by decide +kernel
theorem dX4_init_151 : decode cX4_init 151 = .ok (.aload_n 0, 1) := by decide +kernel
theorem dX4_init_152 : decode cX4_init 152 = .ok (.sipush 200, 3) := by decide +kernel
theorem dX4_init_155 : decode cX4_init 155 = .ok (.newarray .char, 2) := by decide +kernel
theorem dX4_init_157 : decode cX4_init 157 = .ok (.putfield 66, 3) := by decide +kernel
theorem dX4_init_160 : decode cX4_init 160 = .ok (.aload_n 0, 1) := by decide +kernel
theorem dX4_init_161 : decode cX4_init 161 = .ok (.bipush 27, 2) := by decide +kernel
theorem dX4_init_163 : decode cX4_init 163 = .ok (.newarray .int, 2) := by decide +kernel
theorem dX4_init_165 : decode cX4_init 165 = .ok (.putfield 69, 3) := by decide +kernel
theorem dX4_init_168 : decode cX4_init 168 = .ok (.return_, 1) := by decide +kernel
theorem dX4_thrown_0 : decode cX4_thrown 0 = .ok (.aload_n 0, 1) := by decide +kernel
theorem dX4_thrown_1 : decode cX4_thrown 1 = .ok (.getfield 72, 3) := by decide +kernel
theorem dX4_thrown_4 : decode cX4_thrown 4 = .ok (.ireturn, 1) := by decide +kernel
theorem dX4_in_0 : decode cX4_in 0 = .ok (.iload_n 0, 1) := by decide +kernel
theorem dX4_in_1 : decode cX4_in 1 = .ok (.iload_n 1, 1) := by decide +kernel
theorem dX4_in_2 : decode cX4_in 2 = .ok (.if_icmp .lt 12, 3) := by decide +kernel
theorem dX4_in_5 : decode cX4_in 5 = .ok (.iload_n 0, 1) := by decide +kernel
theorem dX4_in_6 : decode cX4_in 6 = .ok (.iload_n 2, 1) := by decide +kernel
theorem dX4_in_7 : decode cX4_in 7 = .ok (.if_icmp .gt 7, 3) := by decide +kernel
theorem dX4_in_10 : decode cX4_in 10 = .ok (.iconst 1, 1) := by decide +kernel
theorem dX4_in_11 : decode cX4_in 11 = .ok (.goto 4, 3) := by decide +kernel
theorem dX4_in_14 : decode cX4_in 14 = .ok (.iconst 0, 1) := by decide +kernel
theorem dX4_in_15 : decode cX4_in 15 = .ok (.ireturn, 1) := by decide +kernel
theorem dX4_plain_0 : decode cX4_plain 0 = .ok (.aload_n 0, 1) := by decide +kernel
theorem dX4_plain_1 : decode cX4_plain 1 = .ok (.iconst 0, 1) := by decide +kernel
theorem dX4_plain_2 : decode cX4_plain 2 = .ok (.putfield 72, 3) := by decide +kernel
theorem dX4_plain_5 : decode cX4_plain 5 = .ok (.iload_n 1, 1) := by decide +kernel
theorem dX4_plain_6 : decode cX4_plain 6 = .ok (.ireturn, 1) := by decide +kernel
theorem dX4_isQuestion_0 : decode cX4_isQuestion 0 = .ok (.iload_n 1, 1) := by decide +kernel
theorem dX4_isQuestion_1 : decode cX4_isQuestion 1 = .ok (.iconst 0, 1) := by decide +kernel
theorem dX4_isQuestion_2 : decode cX4_isQuestion 2 = .ok (.aload_n 0, 1) := by decide +kernel
theorem dX4_isQuestion_3 : decode cX4_isQuestion 3 = .ok (.getfield 76, 3) := by decide +kernel
theorem dX4_isQuestion_6 : decode cX4_isQuestion 6 = .ok (.iconst 1, 1) := by decide +kernel
theorem dX4_isQuestion_7 : decode cX4_isQuestion 7 = .ok (.isub, 1) := by decide +kernel
theorem dX4_isQuestion_8 : decode cX4_isQuestion 8 = .ok (.invokestatic 79, 3) := by decide +kernel
theorem dX4_isQuestion_11 : decode cX4_isQuestion 11 = .ok (.ireturn, 1) := by decide +kernel
theorem dX4_isPlan_0 : decode cX4_isPlan 0 = .ok (.iload_n 1, 1) := by decide +kernel
theorem dX4_isPlan_1 : decode cX4_isPlan 1 = .ok (.iconst 0, 1) := by decide +kernel
theorem dX4_isPlan_2 : decode cX4_isPlan 2 = .ok (.aload_n 0, 1) := by decide +kernel
theorem dX4_isPlan_3 : decode cX4_isPlan 3 = .ok (.getfield 83, 3) := by decide +kernel
theorem dX4_isPlan_6 : decode cX4_isPlan 6 = .ok (.iconst 1, 1) := by decide +kernel
theorem dX4_isPlan_7 : decode cX4_isPlan 7 = .ok (.isub, 1) := by decide +kernel
theorem dX4_isPlan_8 : decode cX4_isPlan 8 = .ok (.invokestatic 79, 3) := by decide +kernel
theorem dX4_isPlan_11 : decode cX4_isPlan 11 = .ok (.ireturn, 1) := by decide +kernel
theorem dX4_isSheet_0 : decode cX4_isSheet 0 = .ok (.iload_n 1, 1) := by decide +kernel
theorem dX4_isSheet_1 : decode cX4_isSheet 1 = .ok (.iconst 0, 1) := by decide +kernel
theorem dX4_isSheet_2 : decode cX4_isSheet 2 = .ok (.aload_n 0, 1) := by decide +kernel
theorem dX4_isSheet_3 : decode cX4_isSheet 3 = .ok (.getfield 86, 3) := by decide +kernel
theorem dX4_isSheet_6 : decode cX4_isSheet 6 = .ok (.iconst 1, 1) := by decide +kernel
theorem dX4_isSheet_7 : decode cX4_isSheet 7 = .ok (.isub, 1) := by decide +kernel
theorem dX4_isSheet_8 : decode cX4_isSheet 8 = .ok (.invokestatic 79, 3) := by decide +kernel
theorem dX4_isSheet_11 : decode cX4_isSheet 11 = .ok (.ireturn, 1) := by decide +kernel
theorem dX4_type_0 : decode cX4_type 0 = .ok (.aload_n 0, 1) := by decide +kernel
theorem dX4_type_1 : decode cX4_type 1 = .ok (.iload_n 1, 1) := by decide +kernel
theorem dX4_type_2 : decode cX4_type 2 = .ok (.iconst 0, 1) := by decide +kernel
theorem dX4_type_3 : decode cX4_type 3 = .ok (.bipush 29, 2) := by decide +kernel
theorem dX4_type_5 : decode cX4_type 5 = .ok (.invokestatic 79, 3) := by decide +kernel
theorem dX4_type_8 : decode cX4_type 8 = .ok (.ifCond .ne 7, 3) := by decide +kernel
theorem dX4_type_11 : decode cX4_type 11 = .ok (.iconst 1, 1) := by decide +kernel
theorem dX4_type_12 : decode cX4_type 12 = .ok (.goto 17, 3) := by decide +kernel
theorem dX4_type_15 : decode cX4_type 15 = .ok (.aload_n 0, 1) := by decide +kernel
theorem dX4_type_16 : decode cX4_type 16 = .ok (.getfield 89, 3) := by decide +kernel
theorem dX4_type_19 : decode cX4_type 19 = .ok (.bipush 6, 2) := by decide +kernel
theorem dX4_type_21 : decode cX4_type 21 = .ok (.if_icmp .ne 7, 3) := by decide +kernel
theorem dX4_type_24 : decode cX4_type 24 = .ok (.iconst 2, 1) := by decide +kernel
theorem dX4_type_25 : decode cX4_type 25 = .ok (.goto 4, 3) := by decide +kernel
theorem dX4_type_28 : decode cX4_type 28 = .ok (.iconst 0, 1) := by decide +kernel
theorem dX4_type_29 : decode cX4_type 29 = .ok (.putfield 72, 3) := by decide +kernel
theorem dX4_type_32 : decode cX4_type 32 = .ok (.aload_n 0, 1) := by decide +kernel
theorem dX4_type_33 : decode cX4_type 33 = .ok (.getfield 72, 3) := by decide +kernel
theorem dX4_type_36 : decode cX4_type 36 = .ok (.ifCond .le 5, 3) := by decide +kernel
theorem dX4_type_39 : decode cX4_type 39 = .ok (.iconst 0, 1) := by decide +kernel
theorem dX4_type_40 : decode cX4_type 40 = .ok (.ireturn, 1) := by decide +kernel
theorem dX4_type_41 : decode cX4_type 41 = .ok (.aload_n 0, 1) := by decide +kernel
theorem dX4_type_42 : decode cX4_type 42 = .ok (.getfield 7, 3) := by decide +kernel
theorem dX4_type_45 : decode cX4_type 45 = .ok (.aload_n 0, 1) := by decide +kernel
theorem dX4_type_46 : decode cX4_type 46 = .ok (.getfield 89, 3) := by decide +kernel
theorem dX4_type_49 : decode cX4_type 49 = .ok (.iload_n 1, 1) := by decide +kernel
theorem dX4_type_50 : decode cX4_type 50 = .ok (.iastore, 1) := by decide +kernel
theorem dX4_type_51 : decode cX4_type 51 = .ok (.aload_n 0, 1) := by decide +kernel
theorem dX4_type_52 : decode cX4_type 52 = .ok (.dup, 1) := by decide +kernel
theorem dX4_type_53 : decode cX4_type 53 = .ok (.getfield 89, 3) := by decide +kernel
theorem dX4_type_56 : decode cX4_type 56 = .ok (.iconst 1, 1) := by decide +kernel
theorem dX4_type_57 : decode cX4_type 57 = .ok (.iadd, 1) := by decide +kernel
theorem dX4_type_58 : decode cX4_type 58 = .ok (.putfield 89, 3) := by decide +kernel
theorem dX4_type_61 : decode cX4_type 61 = .ok (.aload_n 0, 1) := by decide +kernel
theorem dX4_type_62 : decode cX4_type 62 = .ok (.getfield 89, 3) := by decide +kernel
theorem dX4_type_65 : decode cX4_type 65 = .ok (.ireturn, 1) := by decide +kernel
theorem dX4_erase_0 : decode cX4_erase 0 = .ok (.aload_n 0, 1) := by decide +kernel
theorem dX4_erase_1 : decode cX4_erase 1 = .ok (.iconst 0, 1) := by decide +kernel
theorem dX4_erase_2 : decode cX4_erase 2 = .ok (.putfield 72, 3) := by decide +kernel
theorem dX4_erase_5 : decode cX4_erase 5 = .ok (.aload_n 0, 1) := by decide +kernel
theorem dX4_erase_6 : decode cX4_erase 6 = .ok (.getfield 89, 3) := by decide +kernel
theorem dX4_erase_9 : decode cX4_erase 9 = .ok (.istore_n 1, 1) := by decide +kernel
theorem dX4_erase_10 : decode cX4_erase 10 = .ok (.aload_n 0, 1) := by decide +kernel
theorem dX4_erase_11 : decode cX4_erase 11 = .ok (.iconst 0, 1) := by decide +kernel
theorem dX4_erase_12 : decode cX4_erase 12 = .ok (.putfield 89, 3) := by decide +kernel
theorem dX4_erase_15 : decode cX4_erase 15 = .ok (.iload_n 1, 1) := by decide +kernel
theorem dX4_erase_16 : decode cX4_erase 16 = .ok (.ireturn, 1) := by decide +kernel
theorem dX4_add_0 : decode cX4_add 0 = .ok (.aload_n 0, 1) := by decide +kernel
theorem dX4_add_1 : decode cX4_add 1 = .ok (.iload_n 1, 1) := by decide +kernel
theorem dX4_add_2 : decode cX4_add 2 = .ok (.iconst 0, 1) := by decide +kernel
theorem dX4_add_3 : decode cX4_add 3 = .ok (.bipush 100, 2) := by decide +kernel
theorem dX4_add_5 : decode cX4_add 5 = .ok (.invokestatic 79, 3) := by decide +kernel
theorem dX4_add_8 : decode cX4_add 8 = .ok (.ifCond .ne 7, 3) := by decide +kernel
theorem dX4_add_11 : decode cX4_add 11 = .ok (.iconst 1, 1) := by decide +kernel
theorem dX4_add_12 : decode cX4_add 12 = .ok (.goto 28, 3) := by decide +kernel
theorem dX4_add_15 : decode cX4_add 15 = .ok (.aload_n 0, 1) := by decide +kernel
theorem dX4_add_16 : decode cX4_add 16 = .ok (.getfield 89, 3) := by decide +kernel
theorem dX4_add_19 : decode cX4_add 19 = .ok (.ifCond .ne 7, 3) := by decide +kernel
theorem dX4_add_22 : decode cX4_add 22 = .ok (.iconst 2, 1) := by decide +kernel
theorem dX4_add_23 : decode cX4_add 23 = .ok (.goto 17, 3) := by decide +kernel
theorem dX4_add_26 : decode cX4_add 26 = .ok (.aload_n 0, 1) := by decide +kernel
theorem dX4_add_27 : decode cX4_add 27 = .ok (.getfield 76, 3) := by decide +kernel
theorem dX4_add_30 : decode cX4_add 30 = .ok (.bipush 40, 2) := by decide +kernel
theorem dX4_add_32 : decode cX4_add 32 = .ok (.if_icmp .ne 7, 3) := by decide +kernel
theorem dX4_add_35 : decode cX4_add 35 = .ok (.iconst 3, 1) := by decide +kernel
theorem dX4_add_36 : decode cX4_add 36 = .ok (.goto 4, 3) := by decide +kernel
theorem dX4_add_39 : decode cX4_add 39 = .ok (.iconst 0, 1) := by decide +kernel
theorem dX4_add_40 : decode cX4_add 40 = .ok (.putfield 72, 3) := by decide +kernel
theorem dX4_add_43 : decode cX4_add 43 = .ok (.aload_n 0, 1) := by decide +kernel
theorem dX4_add_44 : decode cX4_add 44 = .ok (.getfield 72, 3) := by decide +kernel
theorem dX4_add_47 : decode cX4_add 47 = .ok (.ifCond .le 5, 3) := by decide +kernel
theorem dX4_add_50 : decode cX4_add 50 = .ok (.iconst 0, 1) := by decide +kernel
theorem dX4_add_51 : decode cX4_add 51 = .ok (.ireturn, 1) := by decide +kernel
theorem dX4_add_52 : decode cX4_add 52 = .ok (.iconst 0, 1) := by decide +kernel
theorem dX4_add_53 : decode cX4_add 53 = .ok (.istore_n 2, 1) := by decide +kernel
theorem dX4_add_54 : decode cX4_add 54 = .ok (.iload_n 2, 1) := by decide +kernel
theorem dX4_add_55 : decode cX4_add 55 = .ok (.aload_n 0, 1) := by decide +kernel
theorem dX4_add_56 : decode cX4_add 56 = .ok (.getfield 89, 3) := by decide +kernel
theorem dX4_add_59 : decode cX4_add 59 = .ok (.if_icmp .ge 29, 3) := by decide +kernel
theorem dX4_add_62 : decode cX4_add 62 = .ok (.aload_n 0, 1) := by decide +kernel
theorem dX4_add_63 : decode cX4_add 63 = .ok (.getfield 13, 3) := by decide +kernel
theorem dX4_add_66 : decode cX4_add 66 = .ok (.bipush 6, 2) := by decide +kernel
theorem dX4_add_68 : decode cX4_add 68 = .ok (.aload_n 0, 1) := by decide +kernel
theorem dX4_add_69 : decode cX4_add 69 = .ok (.getfield 76, 3) := by decide +kernel
theorem dX4_add_72 : decode cX4_add 72 = .ok (.imul, 1) := by decide +kernel
theorem dX4_add_73 : decode cX4_add 73 = .ok (.iload_n 2, 1) := by decide +kernel
theorem dX4_add_74 : decode cX4_add 74 = .ok (.iadd, 1) := by decide +kernel
theorem dX4_add_75 : decode cX4_add 75 = .ok (.aload_n 0, 1) := by decide +kernel
theorem dX4_add_76 : decode cX4_add 76 = .ok (.getfield 7, 3) := by decide +kernel
theorem dX4_add_79 : decode cX4_add 79 = .ok (.iload_n 2, 1) := by decide +kernel
theorem dX4_add_80 : decode cX4_add 80 = .ok (.iaload, 1) := by decide +kernel
theorem dX4_add_81 : decode cX4_add 81 = .ok (.iastore, 1) := by decide +kernel
theorem dX4_add_82 : decode cX4_add 82 = .ok (.iinc 2 1, 3) := by decide +kernel
theorem dX4_add_85 : decode cX4_add 85 = .ok (.goto (-31), 3) := by decide +kernel
theorem dX4_add_88 : decode cX4_add 88 = .ok (.aload_n 0, 1) := by decide +kernel
theorem dX4_add_89 : decode cX4_add 89 = .ok (.getfield 16, 3) := by decide +kernel
theorem dX4_add_92 : decode cX4_add 92 = .ok (.aload_n 0, 1) := by decide +kernel
theorem dX4_add_93 : decode cX4_add 93 = .ok (.getfield 76, 3) := by decide +kernel
theorem dX4_add_96 : decode cX4_add 96 = .ok (.aload_n 0, 1) := by decide +kernel
theorem dX4_add_97 : decode cX4_add 97 = .ok (.getfield 89, 3) := by decide +kernel
theorem dX4_add_100 : decode cX4_add 100 = .ok (.iastore, 1) := by decide +kernel
theorem dX4_add_101 : decode cX4_add 101 = .ok (.aload_n 0, 1) := by decide +kernel
theorem dX4_add_102 : decode cX4_add 102 = .ok (.getfield 19, 3) := by decide +kernel
theorem dX4_add_105 : decode cX4_add 105 = .ok (.aload_n 0, 1) := by decide +kernel
theorem dX4_add_106 : decode cX4_add 106 = .ok (.getfield 76, 3) := by decide +kernel
theorem dX4_add_109 : decode cX4_add 109 = .ok (.iload_n 1, 1) := by decide +kernel
theorem dX4_add_110 : decode cX4_add 110 = .ok (.iastore, 1) := by decide +kernel
theorem dX4_add_111 : decode cX4_add 111 = .ok (.aload_n 0, 1) := by decide +kernel
theorem dX4_add_112 : decode cX4_add 112 = .ok (.getfield 22, 3) := by decide +kernel
theorem dX4_add_115 : decode cX4_add 115 = .ok (.aload_n 0, 1) := by decide +kernel
theorem dX4_add_116 : decode cX4_add 116 = .ok (.getfield 76, 3) := by decide +kernel
theorem dX4_add_119 : decode cX4_add 119 = .ok (.aload_n 0, 1) := by decide +kernel
theorem dX4_add_120 : decode cX4_add 120 = .ok (.getfield 76, 3) := by decide +kernel
theorem dX4_add_123 : decode cX4_add 123 = .ok (.iastore, 1) := by decide +kernel
theorem dX4_add_124 : decode cX4_add 124 = .ok (.aload_n 0, 1) := by decide +kernel
theorem dX4_add_125 : decode cX4_add 125 = .ok (.getfield 25, 3) := by decide +kernel
theorem dX4_add_128 : decode cX4_add 128 = .ok (.aload_n 0, 1) := by decide +kernel
theorem dX4_add_129 : decode cX4_add 129 = .ok (.getfield 76, 3) := by decide +kernel
theorem dX4_add_132 : decode cX4_add 132 = .ok (.bipush (-100), 2) := by decide +kernel
theorem dX4_add_134 : decode cX4_add 134 = .ok (.iastore, 1) := by decide +kernel
theorem dX4_add_135 : decode cX4_add 135 = .ok (.aload_n 0, 1) := by decide +kernel
theorem dX4_add_136 : decode cX4_add 136 = .ok (.iconst 0, 1) := by decide +kernel
theorem dX4_add_137 : decode cX4_add 137 = .ok (.putfield 89, 3) := by decide +kernel
theorem dX4_add_140 : decode cX4_add 140 = .ok (.aload_n 0, 1) := by decide +kernel
theorem dX4_add_141 : decode cX4_add 141 = .ok (.dup, 1) := by decide +kernel
theorem dX4_add_142 : decode cX4_add 142 = .ok (.getfield 76, 3) := by decide +kernel
theorem dX4_add_145 : decode cX4_add 145 = .ok (.iconst 1, 1) := by decide +kernel
theorem dX4_add_146 : decode cX4_add 146 = .ok (.iadd, 1) := by decide +kernel
theorem dX4_add_147 : decode cX4_add 147 = .ok (.putfield 76, 3) := by decide +kernel
theorem dX4_add_150 : decode cX4_add 150 = .ok (.aload_n 0, 1) := by decide +kernel
theorem dX4_add_151 : decode cX4_add 151 = .ok (.invokevirtual 92, 3) := by decide +kernel
theorem dX4_add_154 : decode cX4_add 154 = .ok (.aload_n 0, 1) := by decide +kernel
theorem dX4_add_155 : decode cX4_add 155 = .ok (.getfield 76, 3) := by decide +kernel
theorem dX4_add_158 : decode cX4_add 158 = .ok (.iconst 1, 1) := by decide +kernel
theorem dX4_add_159 : decode cX4_add 159 = .ok (.isub, 1) := by decide +kernel
theorem dX4_add_160 : decode cX4_add 160 = .ok (.ireturn, 1) := by decide +kernel
theorem dX4_twin_0 : decode cX4_twin 0 = .ok (.aload_n 0, 1) := by decide +kernel
theorem dX4_twin_1 : decode cX4_twin 1 = .ok (.aload_n 0, 1) := by decide +kernel
theorem dX4_twin_2 : decode cX4_twin 2 = .ok (.iload_n 1, 1) := by decide +kernel
theorem dX4_twin_3 : decode cX4_twin 3 = .ok (.invokevirtual 95, 3) := by decide +kernel
theorem dX4_twin_6 : decode cX4_twin 6 = .ok (.ifCond .eq 11, 3) := by decide +kernel
theorem dX4_twin_9 : decode cX4_twin 9 = .ok (.aload_n 0, 1) := by decide +kernel
theorem dX4_twin_10 : decode cX4_twin 10 = .ok (.iload_n 2, 1) := by decide +kernel
theorem dX4_twin_11 : decode cX4_twin 11 = .ok (.invokevirtual 95, 3) := by decide +kernel
theorem dX4_twin_14 : decode cX4_twin 14 = .ok (.ifCond .ne 7, 3) := by decide +kernel
theorem dX4_twin_17 : decode cX4_twin 17 = .ok (.iconst 1, 1) := by decide +kernel
theorem dX4_twin_18 : decode cX4_twin 18 = .ok (.goto 13, 3) := by decide +kernel
theorem dX4_twin_21 : decode cX4_twin 21 = .ok (.iload_n 1, 1) := by decide +kernel
theorem dX4_twin_22 : decode cX4_twin 22 = .ok (.iload_n 2, 1) := by decide +kernel
theorem dX4_twin_23 : decode cX4_twin 23 = .ok (.if_icmp .ne 7, 3) := by decide +kernel
theorem dX4_twin_26 : decode cX4_twin 26 = .ok (.iconst 2, 1) := by decide +kernel
theorem dX4_twin_27 : decode cX4_twin 27 = .ok (.goto 4, 3) := by decide +kernel
theorem dX4_twin_30 : decode cX4_twin 30 = .ok (.iconst 0, 1) := by decide +kernel
theorem dX4_twin_31 : decode cX4_twin 31 = .ok (.putfield 72, 3) := by decide +kernel
theorem dX4_twin_34 : decode cX4_twin 34 = .ok (.aload_n 0, 1) := by decide +kernel
theorem dX4_twin_35 : decode cX4_twin 35 = .ok (.getfield 72, 3) := by decide +kernel
theorem dX4_twin_38 : decode cX4_twin 38 = .ok (.ifCond .le 5, 3) := by decide +kernel
theorem dX4_twin_41 : decode cX4_twin 41 = .ok (.iconst 0, 1) := by decide +kernel
theorem dX4_twin_42 : decode cX4_twin 42 = .ok (.ireturn, 1) := by decide +kernel
theorem dX4_twin_43 : decode cX4_twin 43 = .ok (.aload_n 0, 1) := by decide +kernel
theorem dX4_twin_44 : decode cX4_twin 44 = .ok (.getfield 22, 3) := by decide +kernel
theorem dX4_twin_47 : decode cX4_twin 47 = .ok (.iload_n 2, 1) := by decide +kernel
theorem dX4_twin_48 : decode cX4_twin 48 = .ok (.iaload, 1) := by decide +kernel
theorem dX4_twin_49 : decode cX4_twin 49 = .ok (.istore_n 3, 1) := by decide +kernel
theorem dX4_twin_50 : decode cX4_twin 50 = .ok (.iconst 0, 1) := by decide +kernel
theorem dX4_twin_51 : decode cX4_twin 51 = .ok (.istore 4, 2) := by decide +kernel
theorem dX4_twin_53 : decode cX4_twin 53 = .ok (.iload 4, 2) := by decide +kernel
theorem dX4_twin_55 : decode cX4_twin 55 = .ok (.aload_n 0, 1) := by decide +kernel
theorem dX4_twin_56 : decode cX4_twin 56 = .ok (.getfield 76, 3) := by decide +kernel
theorem dX4_twin_59 : decode cX4_twin 59 = .ok (.if_icmp .ge 33, 3) := by decide +kernel
theorem dX4_twin_62 : decode cX4_twin 62 = .ok (.aload_n 0, 1) := by decide +kernel
theorem dX4_twin_63 : decode cX4_twin 63 = .ok (.getfield 22, 3) := by decide +kernel
theorem dX4_twin_66 : decode cX4_twin 66 = .ok (.iload 4, 2) := by decide +kernel
theorem dX4_twin_68 : decode cX4_twin 68 = .ok (.iaload, 1) := by decide +kernel
theorem dX4_twin_69 : decode cX4_twin 69 = .ok (.iload_n 3, 1) := by decide +kernel
theorem dX4_twin_70 : decode cX4_twin 70 = .ok (.if_icmp .ne 16, 3) := by decide +kernel
theorem dX4_twin_73 : decode cX4_twin 73 = .ok (.aload_n 0, 1) := by decide +kernel
theorem dX4_twin_74 : decode cX4_twin 74 = .ok (.getfield 22, 3) := by decide +kernel
theorem dX4_twin_77 : decode cX4_twin 77 = .ok (.iload 4, 2) := by decide +kernel
theorem dX4_twin_79 : decode cX4_twin 79 = .ok (.aload_n 0, 1) := by decide +kernel
theorem dX4_twin_80 : decode cX4_twin 80 = .ok (.getfield 22, 3) := by decide +kernel
theorem dX4_twin_83 : decode cX4_twin 83 = .ok (.iload_n 1, 1) := by decide +kernel
theorem dX4_twin_84 : decode cX4_twin 84 = .ok (.iaload, 1) := by decide +kernel
theorem dX4_twin_85 : decode cX4_twin 85 = .ok (.iastore, 1) := by decide +kernel
theorem dX4_twin_86 : decode cX4_twin 86 = .ok (.iinc 4 1, 3) := by decide +kernel
theorem dX4_twin_89 : decode cX4_twin 89 = .ok (.goto (-36), 3) := by decide +kernel
theorem dX4_twin_92 : decode cX4_twin 92 = .ok (.iconst 0, 1) := by decide +kernel
theorem dX4_twin_93 : decode cX4_twin 93 = .ok (.istore 4, 2) := by decide +kernel
theorem dX4_twin_95 : decode cX4_twin 95 = .ok (.iconst 0, 1) := by decide +kernel
theorem dX4_twin_96 : decode cX4_twin 96 = .ok (.istore 5, 2) := by decide +kernel
theorem dX4_twin_98 : decode cX4_twin 98 = .ok (.iload 5, 2) := by decide +kernel
theorem dX4_twin_100 : decode cX4_twin 100 = .ok (.aload_n 0, 1) := by decide +kernel
theorem dX4_twin_101 : decode cX4_twin 101 = .ok (.getfield 76, 3) := by decide +kernel
theorem dX4_twin_104 : decode cX4_twin 104 = .ok (.if_icmp .ge 41, 3) := by decide +kernel
theorem dX4_twin_107 : decode cX4_twin 107 = .ok (.iload 4, 2) := by decide +kernel
theorem dX4_twin_109 : decode cX4_twin 109 = .ok (.iload 5, 2) := by decide +kernel
theorem dX4_twin_111 : decode cX4_twin 111 = .ok (.iload_n 1, 1) := by decide +kernel
theorem dX4_twin_112 : decode cX4_twin 112 = .ok (.if_icmp .eq 23, 3) := by decide +kernel
theorem dX4_twin_115 : decode cX4_twin 115 = .ok (.aload_n 0, 1) := by decide +kernel
theorem dX4_twin_116 : decode cX4_twin 116 = .ok (.getfield 22, 3) := by decide +kernel
theorem dX4_twin_119 : decode cX4_twin 119 = .ok (.iload 5, 2) := by decide +kernel
theorem dX4_twin_121 : decode cX4_twin 121 = .ok (.iaload, 1) := by decide +kernel
theorem dX4_twin_122 : decode cX4_twin 122 = .ok (.aload_n 0, 1) := by decide +kernel
theorem dX4_twin_123 : decode cX4_twin 123 = .ok (.getfield 22, 3) := by decide +kernel
theorem dX4_twin_126 : decode cX4_twin 126 = .ok (.iload_n 1, 1) := by decide +kernel
theorem dX4_twin_127 : decode cX4_twin 127 = .ok (.iaload, 1) := by decide +kernel
theorem dX4_twin_128 : decode cX4_twin 128 = .ok (.if_icmp .ne 7, 3) := by decide +kernel
theorem dX4_twin_131 : decode cX4_twin 131 = .ok (.iconst 1, 1) := by decide +kernel
theorem dX4_twin_132 : decode cX4_twin 132 = .ok (.goto 4, 3) := by decide +kernel
theorem dX4_twin_135 : decode cX4_twin 135 = .ok (.iconst 0, 1) := by decide +kernel
theorem dX4_twin_136 : decode cX4_twin 136 = .ok (.iadd, 1) := by decide +kernel
theorem dX4_twin_137 : decode cX4_twin 137 = .ok (.istore 4, 2) := by decide +kernel
theorem dX4_twin_139 : decode cX4_twin 139 = .ok (.iinc 5 1, 3) := by decide +kernel
theorem dX4_twin_142 : decode cX4_twin 142 = .ok (.goto (-44), 3) := by decide +kernel
theorem dX4_twin_145 : decode cX4_twin 145 = .ok (.aload_n 0, 1) := by decide +kernel
theorem dX4_twin_146 : decode cX4_twin 146 = .ok (.invokevirtual 92, 3) := by decide +kernel
theorem dX4_twin_149 : decode cX4_twin 149 = .ok (.iload 4, 2) := by decide +kernel
theorem dX4_twin_151 : decode cX4_twin 151 = .ok (.ireturn, 1) := by decide +kernel
theorem dX4_areTwin_0 : decode cX4_areTwin 0 = .ok (.iload_n 1, 1) := by decide +kernel
theorem dX4_areTwin_1 : decode cX4_areTwin 1 = .ok (.iload_n 2, 1) := by decide +kernel
theorem dX4_areTwin_2 : decode cX4_areTwin 2 = .ok (.if_icmp .eq 22, 3) := by decide +kernel
theorem dX4_areTwin_5 : decode cX4_areTwin 5 = .ok (.aload_n 0, 1) := by decide +kernel
theorem dX4_areTwin_6 : decode cX4_areTwin 6 = .ok (.getfield 22, 3) := by decide +kernel
theorem dX4_areTwin_9 : decode cX4_areTwin 9 = .ok (.iload_n 1, 1) := by decide +kernel
theorem dX4_areTwin_10 : decode cX4_areTwin 10 = .ok (.iaload, 1) := by decide +kernel
theorem dX4_areTwin_11 : decode cX4_areTwin 11 = .ok (.aload_n 0, 1) := by decide +kernel
theorem dX4_areTwin_12 : decode cX4_areTwin 12 = .ok (.getfield 22, 3) := by decide +kernel
theorem dX4_areTwin_15 : decode cX4_areTwin 15 = .ok (.iload_n 2, 1) := by decide +kernel
theorem dX4_areTwin_16 : decode cX4_areTwin 16 = .ok (.iaload, 1) := by decide +kernel
theorem dX4_areTwin_17 : decode cX4_areTwin 17 = .ok (.if_icmp .ne 7, 3) := by decide +kernel
theorem dX4_areTwin_20 : decode cX4_areTwin 20 = .ok (.iconst 1, 1) := by decide +kernel
theorem dX4_areTwin_21 : decode cX4_areTwin 21 = .ok (.goto 4, 3) := by decide +kernel
theorem dX4_areTwin_24 : decode cX4_areTwin 24 = .ok (.iconst 0, 1) := by decide +kernel
theorem dX4_areTwin_25 : decode cX4_areTwin 25 = .ok (.ireturn, 1) := by decide +kernel
theorem dX4_areTwins_0 : decode cX4_areTwins 0 = .ok (.aload_n 0, 1) := by decide +kernel
theorem dX4_areTwins_1 : decode cX4_areTwins 1 = .ok (.aload_n 0, 1) := by decide +kernel
theorem dX4_areTwins_2 : decode cX4_areTwins 2 = .ok (.iload_n 1, 1) := by decide +kernel
theorem dX4_areTwins_3 : decode cX4_areTwins 3 = .ok (.invokevirtual 95, 3) := by decide +kernel
theorem dX4_areTwins_6 : decode cX4_areTwins 6 = .ok (.ifCond .eq 15, 3) := by decide +kernel
theorem dX4_areTwins_9 : decode cX4_areTwins 9 = .ok (.aload_n 0, 1) := by decide +kernel
theorem dX4_areTwins_10 : decode cX4_areTwins 10 = .ok (.iload_n 2, 1) := by decide +kernel
theorem dX4_areTwins_11 : decode cX4_areTwins 11 = .ok (.invokevirtual 95, 3) := by decide +kernel
theorem dX4_areTwins_14 : decode cX4_areTwins 14 = .ok (.ifCond .eq 7, 3) := by decide +kernel
theorem dX4_areTwins_17 : decode cX4_areTwins 17 = .ok (.iconst 0, 1) := by decide +kernel
theorem dX4_areTwins_18 : decode cX4_areTwins 18 = .ok (.goto 4, 3) := by decide +kernel
theorem dX4_areTwins_21 : decode cX4_areTwins 21 = .ok (.iconst 1, 1) := by decide +kernel
theorem dX4_areTwins_22 : decode cX4_areTwins 22 = .ok (.putfield 72, 3) := by decide +kernel
theorem dX4_areTwins_25 : decode cX4_areTwins 25 = .ok (.aload_n 0, 1) := by decide +kernel
theorem dX4_areTwins_26 : decode cX4_areTwins 26 = .ok (.getfield 72, 3) := by decide +kernel
theorem dX4_areTwins_29 : decode cX4_areTwins 29 = .ok (.ifCond .ne 16, 3) := by decide +kernel
theorem dX4_areTwins_32 : decode cX4_areTwins 32 = .ok (.aload_n 0, 1) := by decide +kernel
theorem dX4_areTwins_33 : decode cX4_areTwins 33 = .ok (.iload_n 1, 1) := by decide +kernel
theorem dX4_areTwins_34 : decode cX4_areTwins 34 = .ok (.iload_n 2, 1) := by decide +kernel
theorem dX4_areTwins_35 : decode cX4_areTwins 35 = .ok (.invokevirtual 99, 3) := by decide +kernel
theorem dX4_areTwins_38 : decode cX4_areTwins 38 = .ok (.ifCond .eq 7, 3) := by decide +kernel
theorem dX4_areTwins_41 : decode cX4_areTwins 41 = .ok (.iconst 1, 1) := by decide +kernel
theorem dX4_areTwins_42 : decode cX4_areTwins 42 = .ok (.goto 4, 3) := by decide +kernel
theorem dX4_areTwins_45 : decode cX4_areTwins 45 = .ok (.iconst 0, 1) := by decide +kernel
theorem dX4_areTwins_46 : decode cX4_areTwins 46 = .ok (.ireturn, 1) := by decide +kernel
theorem dX4_wrongQuestion_0 : decode cX4_wrongQuestion 0 = .ok (.aload_n 0, 1) := by decide +kernel
theorem dX4_wrongQuestion_1 : decode cX4_wrongQuestion 1 = .ok (.aload_n 0, 1) := by decide +kernel
theorem dX4_wrongQuestion_2 : decode cX4_wrongQuestion 2 = .ok (.iload_n 1, 1) := by decide +kernel
theorem dX4_wrongQuestion_3 : decode cX4_wrongQuestion 3 = .ok (.invokevirtual 95, 3) := by decide +kernel
theorem dX4_wrongQuestion_6 : decode cX4_wrongQuestion 6 = .ok (.ifCond .eq 7, 3) := by decide +kernel
theorem dX4_wrongQuestion_9 : decode cX4_wrongQuestion 9 = .ok (.iconst 0, 1) := by decide +kernel
theorem dX4_wrongQuestion_10 : decode cX4_wrongQuestion 10 = .ok (.goto 4, 3) := by decide +kernel
theorem dX4_wrongQuestion_13 : decode cX4_wrongQuestion 13 = .ok (.iconst 1, 1) := by decide +kernel
theorem dX4_wrongQuestion_14 : decode cX4_wrongQuestion 14 = .ok (.putfield 72, 3) := by decide +kernel
theorem dX4_wrongQuestion_17 : decode cX4_wrongQuestion 17 = .ok (.aload_n 0, 1) := by decide +kernel
theorem dX4_wrongQuestion_18 : decode cX4_wrongQuestion 18 = .ok (.getfield 72, 3) := by decide +kernel
theorem dX4_wrongQuestion_21 : decode cX4_wrongQuestion 21 = .ok (.ireturn, 1) := by decide +kernel
theorem dX4_wordAt_0 : decode cX4_wordAt 0 = .ok (.aload_n 0, 1) := by decide +kernel
theorem dX4_wordAt_1 : decode cX4_wordAt 1 = .ok (.iload_n 1, 1) := by decide +kernel
theorem dX4_wordAt_2 : decode cX4_wordAt 2 = .ok (.invokevirtual 103, 3) := by decide +kernel
theorem dX4_wordAt_5 : decode cX4_wordAt 5 = .ok (.ifCond .ne 24, 3) := by decide +kernel
theorem dX4_wordAt_8 : decode cX4_wordAt 8 = .ok (.iload_n 2, 1) := by decide +kernel
theorem dX4_wordAt_9 : decode cX4_wordAt 9 = .ok (.iconst 0, 1) := by decide +kernel
theorem dX4_wordAt_10 : decode cX4_wordAt 10 = .ok (.aload_n 0, 1) := by decide +kernel
theorem dX4_wordAt_11 : decode cX4_wordAt 11 = .ok (.getfield 16, 3) := by decide +kernel
theorem dX4_wordAt_14 : decode cX4_wordAt 14 = .ok (.iload_n 1, 1) := by decide +kernel
theorem dX4_wordAt_15 : decode cX4_wordAt 15 = .ok (.iaload, 1) := by decide +kernel
theorem dX4_wordAt_16 : decode cX4_wordAt 16 = .ok (.iconst 1, 1) := by decide +kernel
theorem dX4_wordAt_17 : decode cX4_wordAt 17 = .ok (.isub, 1) := by decide +kernel
theorem dX4_wordAt_18 : decode cX4_wordAt 18 = .ok (.invokestatic 79, 3) := by decide +kernel
theorem dX4_wordAt_21 : decode cX4_wordAt 21 = .ok (.ifCond .ne 8, 3) := by decide +kernel
theorem dX4_wordAt_24 : decode cX4_wordAt 24 = .ok (.aload_n 0, 1) := by decide +kernel
theorem dX4_wordAt_25 : decode cX4_wordAt 25 = .ok (.iconst 2, 1) := by decide +kernel
theorem dX4_wordAt_26 : decode cX4_wordAt 26 = .ok (.putfield 72, 3) := by decide +kernel
theorem dX4_wordAt_29 : decode cX4_wordAt 29 = .ok (.aload_n 0, 1) := by decide +kernel
theorem dX4_wordAt_30 : decode cX4_wordAt 30 = .ok (.getfield 72, 3) := by decide +kernel
theorem dX4_wordAt_33 : decode cX4_wordAt 33 = .ok (.ifCond .le 7, 3) := by decide +kernel
theorem dX4_wordAt_36 : decode cX4_wordAt 36 = .ok (.iconst 0, 1) := by decide +kernel
theorem dX4_wordAt_37 : decode cX4_wordAt 37 = .ok (.goto 14, 3) := by decide +kernel
theorem dX4_wordAt_40 : decode cX4_wordAt 40 = .ok (.aload_n 0, 1) := by decide +kernel
theorem dX4_wordAt_41 : decode cX4_wordAt 41 = .ok (.getfield 13, 3) := by decide +kernel
theorem dX4_wordAt_44 : decode cX4_wordAt 44 = .ok (.bipush 6, 2) := by decide +kernel
theorem dX4_wordAt_46 : decode cX4_wordAt 46 = .ok (.iload_n 1, 1) := by decide +kernel
theorem dX4_wordAt_47 : decode cX4_wordAt 47 = .ok (.imul, 1) := by decide +kernel
theorem dX4_wordAt_48 : decode cX4_wordAt 48 = .ok (.iload_n 2, 1) := by decide +kernel
theorem dX4_wordAt_49 : decode cX4_wordAt 49 = .ok (.iadd, 1) := by decide +kernel
theorem dX4_wordAt_50 : decode cX4_wordAt 50 = .ok (.iaload, 1) := by decide +kernel
theorem dX4_wordAt_51 : decode cX4_wordAt 51 = .ok (.ireturn, 1) := by decide +kernel
theorem dX4_level_0 : decode cX4_level 0 = .ok (.aload_n 0, 1) := by decide +kernel
theorem dX4_level_1 : decode cX4_level 1 = .ok (.iload_n 1, 1) := by decide +kernel
theorem dX4_level_2 : decode cX4_level 2 = .ok (.invokevirtual 103, 3) := by decide +kernel
theorem dX4_level_5 : decode cX4_level 5 = .ok (.ifCond .le 7, 3) := by decide +kernel
theorem dX4_level_8 : decode cX4_level 8 = .ok (.iconst 0, 1) := by decide +kernel
theorem dX4_level_9 : decode cX4_level 9 = .ok (.goto 9, 3) := by decide +kernel
theorem dX4_level_12 : decode cX4_level 12 = .ok (.aload_n 0, 1) := by decide +kernel
theorem dX4_level_13 : decode cX4_level 13 = .ok (.getfield 19, 3) := by decide +kernel
theorem dX4_level_16 : decode cX4_level 16 = .ok (.iload_n 1, 1) := by decide +kernel
theorem dX4_level_17 : decode cX4_level 17 = .ok (.iaload, 1) := by decide +kernel
theorem dX4_level_18 : decode cX4_level 18 = .ok (.ireturn, 1) := by decide +kernel
theorem dX4_levelAnew_0 : decode cX4_levelAnew 0 = .ok (.aload_n 0, 1) := by decide +kernel
theorem dX4_levelAnew_1 : decode cX4_levelAnew 1 = .ok (.iload_n 1, 1) := by decide +kernel
theorem dX4_levelAnew_2 : decode cX4_levelAnew 2 = .ok (.invokevirtual 103, 3) := by decide +kernel
theorem dX4_levelAnew_5 : decode cX4_levelAnew 5 = .ok (.ifCond .le 7, 3) := by decide +kernel
theorem dX4_levelAnew_8 : decode cX4_levelAnew 8 = .ok (.iconst 0, 1) := by decide +kernel
theorem dX4_levelAnew_9 : decode cX4_levelAnew 9 = .ok (.goto 9, 3) := by decide +kernel
theorem dX4_levelAnew_12 : decode cX4_levelAnew 12 = .ok (.aload_n 0, 1) := by decide +kernel
theorem dX4_levelAnew_13 : decode cX4_levelAnew 13 = .ok (.getfield 19, 3) := by decide +kernel
theorem dX4_levelAnew_16 : decode cX4_levelAnew 16 = .ok (.iload_n 1, 1) := by decide +kernel
theorem dX4_levelAnew_17 : decode cX4_levelAnew 17 = .ok (.iaload, 1) := by decide +kernel
theorem dX4_levelAnew_18 : decode cX4_levelAnew 18 = .ok (.ireturn, 1) := by decide +kernel
theorem dX4_kindOf_0 : decode cX4_kindOf 0 = .ok (.aload_n 0, 1) := by decide +kernel
theorem dX4_kindOf_1 : decode cX4_kindOf 1 = .ok (.getfield 19, 3) := by decide +kernel
theorem dX4_kindOf_4 : decode cX4_kindOf 4 = .ok (.iload_n 1, 1) := by decide +kernel
theorem dX4_kindOf_5 : decode cX4_kindOf 5 = .ok (.iaload, 1) := by decide +kernel
theorem dX4_kindOf_6 : decode cX4_kindOf 6 = .ok (.bipush 34, 2) := by decide +kernel
theorem dX4_kindOf_8 : decode cX4_kindOf 8 = .ok (.if_icmp .ge 8, 3) := by decide +kernel
theorem dX4_kindOf_11 : decode cX4_kindOf 11 = .ok (.bipush 101, 2) := by decide +kernel
theorem dX4_kindOf_13 : decode cX4_kindOf 13 = .ok (.goto 21, 3) := by decide +kernel
theorem dX4_kindOf_16 : decode cX4_kindOf 16 = .ok (.aload_n 0, 1) := by decide +kernel
theorem dX4_kindOf_17 : decode cX4_kindOf 17 = .ok (.getfield 19, 3) := by decide +kernel
theorem dX4_kindOf_20 : decode cX4_kindOf 20 = .ok (.iload_n 1, 1) := by decide +kernel
theorem dX4_kindOf_21 : decode cX4_kindOf 21 = .ok (.iaload, 1) := by decide +kernel
theorem dX4_kindOf_22 : decode cX4_kindOf 22 = .ok (.bipush 67, 2) := by decide +kernel
theorem dX4_kindOf_24 : decode cX4_kindOf 24 = .ok (.if_icmp .ge 8, 3) := by decide +kernel
theorem dX4_kindOf_27 : decode cX4_kindOf 27 = .ok (.bipush 109, 2) := by decide +kernel
theorem dX4_kindOf_29 : decode cX4_kindOf 29 = .ok (.goto 5, 3) := by decide +kernel
theorem dX4_kindOf_32 : decode cX4_kindOf 32 = .ok (.bipush 104, 2) := by decide +kernel
theorem dX4_kindOf_34 : decode cX4_kindOf 34 = .ok (.ireturn, 1) := by decide +kernel
theorem dX4_kind_0 : decode cX4_kind 0 = .ok (.aload_n 0, 1) := by decide +kernel
theorem dX4_kind_1 : decode cX4_kind 1 = .ok (.iload_n 1, 1) := by decide +kernel
theorem dX4_kind_2 : decode cX4_kind 2 = .ok (.invokevirtual 103, 3) := by decide +kernel
theorem dX4_kind_5 : decode cX4_kind 5 = .ok (.ifCond .le 8, 3) := by decide +kernel
theorem dX4_kind_8 : decode cX4_kind 8 = .ok (.bipush 32, 2) := by decide +kernel
theorem dX4_kind_10 : decode cX4_kind 10 = .ok (.goto 8, 3) := by decide +kernel
theorem dX4_kind_13 : decode cX4_kind 13 = .ok (.aload_n 0, 1) := by decide +kernel
theorem dX4_kind_14 : decode cX4_kind 14 = .ok (.iload_n 1, 1) := by decide +kernel
theorem dX4_kind_15 : decode cX4_kind 15 = .ok (.invokevirtual 107, 3) := by decide +kernel
theorem dX4_kind_18 : decode cX4_kind 18 = .ok (.ireturn, 1) := by decide +kernel
theorem dX4_isTyped_0 : decode cX4_isTyped 0 = .ok (.iconst 0, 1) := by decide +kernel
theorem dX4_isTyped_1 : decode cX4_isTyped 1 = .ok (.istore_n 2, 1) := by decide +kernel
theorem dX4_isTyped_2 : decode cX4_isTyped 2 = .ok (.iload_n 2, 1) := by decide +kernel
theorem dX4_isTyped_3 : decode cX4_isTyped 3 = .ok (.aload_n 0, 1) := by decide +kernel
theorem dX4_isTyped_4 : decode cX4_isTyped 4 = .ok (.getfield 89, 3) := by decide +kernel
theorem dX4_isTyped_7 : decode cX4_isTyped 7 = .ok (.if_icmp .ge 21, 3) := by decide +kernel
theorem dX4_isTyped_10 : decode cX4_isTyped 10 = .ok (.aload_n 0, 1) := by decide +kernel
theorem dX4_isTyped_11 : decode cX4_isTyped 11 = .ok (.getfield 7, 3) := by decide +kernel
theorem dX4_isTyped_14 : decode cX4_isTyped 14 = .ok (.iload_n 2, 1) := by decide +kernel
theorem dX4_isTyped_15 : decode cX4_isTyped 15 = .ok (.iaload, 1) := by decide +kernel
theorem dX4_isTyped_16 : decode cX4_isTyped 16 = .ok (.iload_n 1, 1) := by decide +kernel
theorem dX4_isTyped_17 : decode cX4_isTyped 17 = .ok (.if_icmp .ne 5, 3) := by decide +kernel
theorem dX4_isTyped_20 : decode cX4_isTyped 20 = .ok (.iconst 1, 1) := by decide +kernel
theorem dX4_isTyped_21 : decode cX4_isTyped 21 = .ok (.ireturn, 1) := by decide +kernel
theorem dX4_isTyped_22 : decode cX4_isTyped 22 = .ok (.iinc 2 1, 3) := by decide +kernel
theorem dX4_isTyped_25 : decode cX4_isTyped 25 = .ok (.goto (-23), 3) := by decide +kernel
theorem dX4_isTyped_28 : decode cX4_isTyped 28 = .ok (.iconst 0, 1) := by decide +kernel
theorem dX4_isTyped_29 : decode cX4_isTyped 29 = .ok (.ireturn, 1) := by decide +kernel
theorem dX4_hasAhead_0 : decode cX4_hasAhead 0 = .ok (.iconst 0, 1) := by decide +kernel
theorem dX4_hasAhead_1 : decode cX4_hasAhead 1 = .ok (.istore_n 3, 1) := by decide +kernel
theorem dX4_hasAhead_2 : decode cX4_hasAhead 2 = .ok (.iload_n 3, 1) := by decide +kernel
theorem dX4_hasAhead_3 : decode cX4_hasAhead 3 = .ok (.iload_n 2, 1) := by decide +kernel
theorem dX4_hasAhead_4 : decode cX4_hasAhead 4 = .ok (.if_icmp .ge 36, 3) := by decide +kernel
theorem dX4_hasAhead_7 : decode cX4_hasAhead 7 = .ok (.aload_n 0, 1) := by decide +kernel
theorem dX4_hasAhead_8 : decode cX4_hasAhead 8 = .ok (.getfield 13, 3) := by decide +kernel
theorem dX4_hasAhead_11 : decode cX4_hasAhead 11 = .ok (.bipush 6, 2) := by decide +kernel
theorem dX4_hasAhead_13 : decode cX4_hasAhead 13 = .ok (.iload_n 1, 1) := by decide +kernel
theorem dX4_hasAhead_14 : decode cX4_hasAhead 14 = .ok (.imul, 1) := by decide +kernel
theorem dX4_hasAhead_15 : decode cX4_hasAhead 15 = .ok (.iload_n 3, 1) := by decide +kernel
theorem dX4_hasAhead_16 : decode cX4_hasAhead 16 = .ok (.iadd, 1) := by decide +kernel
theorem dX4_hasAhead_17 : decode cX4_hasAhead 17 = .ok (.iaload, 1) := by decide +kernel
theorem dX4_hasAhead_18 : decode cX4_hasAhead 18 = .ok (.aload_n 0, 1) := by decide +kernel
theorem dX4_hasAhead_19 : decode cX4_hasAhead 19 = .ok (.getfield 13, 3) := by decide +kernel
theorem dX4_hasAhead_22 : decode cX4_hasAhead 22 = .ok (.bipush 6, 2) := by decide +kernel
theorem dX4_hasAhead_24 : decode cX4_hasAhead 24 = .ok (.iload_n 1, 1) := by decide +kernel
theorem dX4_hasAhead_25 : decode cX4_hasAhead 25 = .ok (.imul, 1) := by decide +kernel
theorem dX4_hasAhead_26 : decode cX4_hasAhead 26 = .ok (.iload_n 2, 1) := by decide +kernel
theorem dX4_hasAhead_27 : decode cX4_hasAhead 27 = .ok (.iadd, 1) := by decide +kernel
theorem dX4_hasAhead_28 : decode cX4_hasAhead 28 = .ok (.iaload, 1) := by decide +kernel
theorem dX4_hasAhead_29 : decode cX4_hasAhead 29 = .ok (.if_icmp .ne 5, 3) := by decide +kernel
theorem dX4_hasAhead_32 : decode cX4_hasAhead 32 = .ok (.iconst 1, 1) := by decide +kernel
theorem dX4_hasAhead_33 : decode cX4_hasAhead 33 = .ok (.ireturn, 1) := by decide +kernel
theorem dX4_hasAhead_34 : decode cX4_hasAhead 34 = .ok (.iinc 3 1, 3) := by decide +kernel
theorem dX4_hasAhead_37 : decode cX4_hasAhead 37 = .ok (.goto (-35), 3) := by decide +kernel
theorem dX4_hasAhead_40 : decode cX4_hasAhead 40 = .ok (.iconst 0, 1) := by decide +kernel
theorem dX4_hasAhead_41 : decode cX4_hasAhead 41 = .ok (.ireturn, 1) := by decide +kernel
theorem dX4_rankOf_0 : decode cX4_rankOf 0 = .ok (.iconst 0, 1) := by decide +kernel
theorem dX4_rankOf_1 : decode cX4_rankOf 1 = .ok (.istore_n 2, 1) := by decide +kernel
theorem dX4_rankOf_2 : decode cX4_rankOf 2 = .ok (.iconst 0, 1) := by decide +kernel
theorem dX4_rankOf_3 : decode cX4_rankOf 3 = .ok (.istore_n 3, 1) := by decide +kernel
theorem dX4_rankOf_4 : decode cX4_rankOf 4 = .ok (.iload_n 3, 1) := by decide +kernel
theorem dX4_rankOf_5 : decode cX4_rankOf 5 = .ok (.aload_n 0, 1) := by decide +kernel
theorem dX4_rankOf_6 : decode cX4_rankOf 6 = .ok (.getfield 16, 3) := by decide +kernel
theorem dX4_rankOf_9 : decode cX4_rankOf 9 = .ok (.iload_n 1, 1) := by decide +kernel
theorem dX4_rankOf_10 : decode cX4_rankOf 10 = .ok (.iaload, 1) := by decide +kernel
theorem dX4_rankOf_11 : decode cX4_rankOf 11 = .ok (.if_icmp .ge 48, 3) := by decide +kernel
theorem dX4_rankOf_14 : decode cX4_rankOf 14 = .ok (.aload_n 0, 1) := by decide +kernel
theorem dX4_rankOf_15 : decode cX4_rankOf 15 = .ok (.aload_n 0, 1) := by decide +kernel
theorem dX4_rankOf_16 : decode cX4_rankOf 16 = .ok (.getfield 13, 3) := by decide +kernel
theorem dX4_rankOf_19 : decode cX4_rankOf 19 = .ok (.bipush 6, 2) := by decide +kernel
theorem dX4_rankOf_21 : decode cX4_rankOf 21 = .ok (.iload_n 1, 1) := by decide +kernel
theorem dX4_rankOf_22 : decode cX4_rankOf 22 = .ok (.imul, 1) := by decide +kernel
theorem dX4_rankOf_23 : decode cX4_rankOf 23 = .ok (.iload_n 3, 1) := by decide +kernel
theorem dX4_rankOf_24 : decode cX4_rankOf 24 = .ok (.iadd, 1) := by decide +kernel
theorem dX4_rankOf_25 : decode cX4_rankOf 25 = .ok (.iaload, 1) := by decide +kernel
theorem dX4_rankOf_26 : decode cX4_rankOf 26 = .ok (.invokevirtual 111, 3) := by decide +kernel
theorem dX4_rankOf_29 : decode cX4_rankOf 29 = .ok (.ifCond .ne 6, 3) := by decide +kernel
theorem dX4_rankOf_32 : decode cX4_rankOf 32 = .ok (.goto 21, 3) := by decide +kernel
theorem dX4_rankOf_35 : decode cX4_rankOf 35 = .ok (.iload_n 2, 1) := by decide +kernel
theorem dX4_rankOf_36 : decode cX4_rankOf 36 = .ok (.aload_n 0, 1) := by decide +kernel
theorem dX4_rankOf_37 : decode cX4_rankOf 37 = .ok (.iload_n 1, 1) := by decide +kernel
theorem dX4_rankOf_38 : decode cX4_rankOf 38 = .ok (.iload_n 3, 1) := by decide +kernel
theorem dX4_rankOf_39 : decode cX4_rankOf 39 = .ok (.invokevirtual 114, 3) := by decide +kernel
theorem dX4_rankOf_42 : decode cX4_rankOf 42 = .ok (.ifCond .eq 7, 3) := by decide +kernel
theorem dX4_rankOf_45 : decode cX4_rankOf 45 = .ok (.iconst 1, 1) := by decide +kernel
theorem dX4_rankOf_46 : decode cX4_rankOf 46 = .ok (.goto 5, 3) := by decide +kernel
theorem dX4_rankOf_49 : decode cX4_rankOf 49 = .ok (.bipush 11, 2) := by decide +kernel
theorem dX4_rankOf_51 : decode cX4_rankOf 51 = .ok (.iadd, 1) := by decide +kernel
theorem dX4_rankOf_52 : decode cX4_rankOf 52 = .ok (.istore_n 2, 1) := by decide +kernel
theorem dX4_rankOf_53 : decode cX4_rankOf 53 = .ok (.iinc 3 1, 3) := by decide +kernel
theorem dX4_rankOf_56 : decode cX4_rankOf 56 = .ok (.goto (-52), 3) := by decide +kernel
theorem dX4_rankOf_59 : decode cX4_rankOf 59 = .ok (.iload_n 2, 1) := by decide +kernel
theorem dX4_rankOf_60 : decode cX4_rankOf 60 = .ok (.ireturn, 1) := by decide +kernel
theorem dX4_search_0 : decode cX4_search 0 = .ok (.aload_n 0, 1) := by decide +kernel
theorem dX4_search_1 : decode cX4_search 1 = .ok (.aload_n 0, 1) := by decide +kernel
theorem dX4_search_2 : decode cX4_search 2 = .ok (.getfield 89, 3) := by decide +kernel
theorem dX4_search_5 : decode cX4_search 5 = .ok (.ifCond .ne 7, 3) := by decide +kernel
theorem dX4_search_8 : decode cX4_search 8 = .ok (.iconst 1, 1) := by decide +kernel
theorem dX4_search_9 : decode cX4_search 9 = .ok (.goto 4, 3) := by decide +kernel
theorem dX4_search_12 : decode cX4_search 12 = .ok (.iconst 0, 1) := by decide +kernel
theorem dX4_search_13 : decode cX4_search 13 = .ok (.putfield 72, 3) := by decide +kernel
theorem dX4_search_16 : decode cX4_search 16 = .ok (.aload_n 0, 1) := by decide +kernel
theorem dX4_search_17 : decode cX4_search 17 = .ok (.getfield 72, 3) := by decide +kernel
theorem dX4_search_20 : decode cX4_search 20 = .ok (.ifCond .le 5, 3) := by decide +kernel
theorem dX4_search_23 : decode cX4_search 23 = .ok (.iconst 0, 1) := by decide +kernel
theorem dX4_search_24 : decode cX4_search 24 = .ok (.ireturn, 1) := by decide +kernel
theorem dX4_search_25 : decode cX4_search 25 = .ok (.aload_n 0, 1) := by decide +kernel
theorem dX4_search_26 : decode cX4_search 26 = .ok (.iconst 0, 1) := by decide +kernel
theorem dX4_search_27 : decode cX4_search 27 = .ok (.putfield 117, 3) := by decide +kernel
theorem dX4_search_30 : decode cX4_search 30 = .ok (.iconst 0, 1) := by decide +kernel
theorem dX4_search_31 : decode cX4_search 31 = .ok (.istore_n 1, 1) := by decide +kernel
theorem dX4_search_32 : decode cX4_search 32 = .ok (.iload_n 1, 1) := by decide +kernel
theorem dX4_search_33 : decode cX4_search 33 = .ok (.aload_n 0, 1) := by decide +kernel
theorem dX4_search_34 : decode cX4_search 34 = .ok (.getfield 76, 3) := by decide +kernel
theorem dX4_search_37 : decode cX4_search 37 = .ok (.if_icmp .ge 101, 3) := by decide +kernel
theorem dX4_search_40 : decode cX4_search 40 = .ok (.aload_n 0, 1) := by decide +kernel
theorem dX4_search_41 : decode cX4_search 41 = .ok (.iload_n 1, 1) := by decide +kernel
theorem dX4_search_42 : decode cX4_search 42 = .ok (.invokevirtual 120, 3) := by decide +kernel
theorem dX4_search_45 : decode cX4_search 45 = .ok (.istore_n 2, 1) := by decide +kernel
theorem dX4_search_46 : decode cX4_search 46 = .ok (.iload_n 2, 1) := by decide +kernel
theorem dX4_search_47 : decode cX4_search 47 = .ok (.ifCond .ne 6, 3) := by decide +kernel
theorem dX4_search_50 : decode cX4_search 50 = .ok (.goto 82, 3) := by decide +kernel
theorem dX4_search_53 : decode cX4_search 53 = .ok (.aload_n 0, 1) := by decide +kernel
theorem dX4_search_54 : decode cX4_search 54 = .ok (.getfield 117, 3) := by decide +kernel
theorem dX4_search_57 : decode cX4_search 57 = .ok (.istore_n 3, 1) := by decide +kernel
theorem dX4_search_58 : decode cX4_search 58 = .ok (.iload_n 3, 1) := by decide +kernel
theorem dX4_search_59 : decode cX4_search 59 = .ok (.ifCond .le 49, 3) := by decide +kernel
theorem dX4_search_62 : decode cX4_search 62 = .ok (.aload_n 0, 1) := by decide +kernel
theorem dX4_search_63 : decode cX4_search 63 = .ok (.getfield 31, 3) := by decide +kernel
theorem dX4_search_66 : decode cX4_search 66 = .ok (.iload_n 3, 1) := by decide +kernel
theorem dX4_search_67 : decode cX4_search 67 = .ok (.iconst 1, 1) := by decide +kernel
theorem dX4_search_68 : decode cX4_search 68 = .ok (.isub, 1) := by decide +kernel
theorem dX4_search_69 : decode cX4_search 69 = .ok (.iaload, 1) := by decide +kernel
theorem dX4_search_70 : decode cX4_search 70 = .ok (.iload_n 2, 1) := by decide +kernel
theorem dX4_search_71 : decode cX4_search 71 = .ok (.if_icmp .ge 37, 3) := by decide +kernel
theorem dX4_search_74 : decode cX4_search 74 = .ok (.aload_n 0, 1) := by decide +kernel
theorem dX4_search_75 : decode cX4_search 75 = .ok (.getfield 31, 3) := by decide +kernel
theorem dX4_search_78 : decode cX4_search 78 = .ok (.iload_n 3, 1) := by decide +kernel
theorem dX4_search_79 : decode cX4_search 79 = .ok (.aload_n 0, 1) := by decide +kernel
theorem dX4_search_80 : decode cX4_search 80 = .ok (.getfield 31, 3) := by decide +kernel
theorem dX4_search_83 : decode cX4_search 83 = .ok (.iload_n 3, 1) := by decide +kernel
theorem dX4_search_84 : decode cX4_search 84 = .ok (.iconst 1, 1) := by decide +kernel
theorem dX4_search_85 : decode cX4_search 85 = .ok (.isub, 1) := by decide +kernel
theorem dX4_search_86 : decode cX4_search 86 = .ok (.iaload, 1) := by decide +kernel
theorem dX4_search_87 : decode cX4_search 87 = .ok (.iastore, 1) := by decide +kernel
theorem dX4_search_88 : decode cX4_search 88 = .ok (.aload_n 0, 1) := by decide +kernel
theorem dX4_search_89 : decode cX4_search 89 = .ok (.getfield 28, 3) := by decide +kernel
theorem dX4_search_92 : decode cX4_search 92 = .ok (.iload_n 3, 1) := by decide +kernel
theorem dX4_search_93 : decode cX4_search 93 = .ok (.aload_n 0, 1) := by decide +kernel
theorem dX4_search_94 : decode cX4_search 94 = .ok (.getfield 28, 3) := by decide +kernel
theorem dX4_search_97 : decode cX4_search 97 = .ok (.iload_n 3, 1) := by decide +kernel
theorem dX4_search_98 : decode cX4_search 98 = .ok (.iconst 1, 1) := by decide +kernel
theorem dX4_search_99 : decode cX4_search 99 = .ok (.isub, 1) := by decide +kernel
theorem dX4_search_100 : decode cX4_search 100 = .ok (.iaload, 1) := by decide +kernel
theorem dX4_search_101 : decode cX4_search 101 = .ok (.iastore, 1) := by decide +kernel
theorem dX4_search_102 : decode cX4_search 102 = .ok (.iinc 3 (-1), 3) := by decide +kernel
theorem dX4_search_105 : decode cX4_search 105 = .ok (.goto (-47), 3) := by decide +kernel
theorem dX4_search_108 : decode cX4_search 108 = .ok (.aload_n 0, 1) := by decide +kernel
theorem dX4_search_109 : decode cX4_search 109 = .ok (.getfield 31, 3) := by decide +kernel
theorem dX4_search_112 : decode cX4_search 112 = .ok (.iload_n 3, 1) := by decide +kernel
theorem dX4_search_113 : decode cX4_search 113 = .ok (.iload_n 2, 1) := by decide +kernel
theorem dX4_search_114 : decode cX4_search 114 = .ok (.iastore, 1) := by decide +kernel
theorem dX4_search_115 : decode cX4_search 115 = .ok (.aload_n 0, 1) := by decide +kernel
theorem dX4_search_116 : decode cX4_search 116 = .ok (.getfield 28, 3) := by decide +kernel
theorem dX4_search_119 : decode cX4_search 119 = .ok (.iload_n 3, 1) := by decide +kernel
theorem dX4_search_120 : decode cX4_search 120 = .ok (.iload_n 1, 1) := by decide +kernel
theorem dX4_search_121 : decode cX4_search 121 = .ok (.iastore, 1) := by decide +kernel
theorem dX4_search_122 : decode cX4_search 122 = .ok (.aload_n 0, 1) := by decide +kernel
theorem dX4_search_123 : decode cX4_search 123 = .ok (.dup, 1) := by decide +kernel
theorem dX4_search_124 : decode cX4_search 124 = .ok (.getfield 117, 3) := by decide +kernel
theorem dX4_search_127 : decode cX4_search 127 = .ok (.iconst 1, 1) := by decide +kernel
theorem dX4_search_128 : decode cX4_search 128 = .ok (.iadd, 1) := by decide +kernel
theorem dX4_search_129 : decode cX4_search 129 = .ok (.putfield 117, 3) := by decide +kernel
theorem dX4_search_132 : decode cX4_search 132 = .ok (.iinc 1 1, 3) := by decide +kernel
theorem dX4_search_135 : decode cX4_search 135 = .ok (.goto (-103), 3) := by decide +kernel
theorem dX4_search_138 : decode cX4_search 138 = .ok (.aload_n 0, 1) := by decide +kernel
theorem dX4_search_139 : decode cX4_search 139 = .ok (.getfield 117, 3) := by decide +kernel
theorem dX4_search_142 : decode cX4_search 142 = .ok (.ireturn, 1) := by decide +kernel
theorem dX4_hitAt_0 : decode cX4_hitAt 0 = .ok (.aload_n 0, 1) := by decide +kernel
theorem dX4_hitAt_1 : decode cX4_hitAt 1 = .ok (.iload_n 1, 1) := by decide +kernel
theorem dX4_hitAt_2 : decode cX4_hitAt 2 = .ok (.iconst 0, 1) := by decide +kernel
theorem dX4_hitAt_3 : decode cX4_hitAt 3 = .ok (.aload_n 0, 1) := by decide +kernel
theorem dX4_hitAt_4 : decode cX4_hitAt 4 = .ok (.getfield 117, 3) := by decide +kernel
theorem dX4_hitAt_7 : decode cX4_hitAt 7 = .ok (.iconst 1, 1) := by decide +kernel
theorem dX4_hitAt_8 : decode cX4_hitAt 8 = .ok (.isub, 1) := by decide +kernel
theorem dX4_hitAt_9 : decode cX4_hitAt 9 = .ok (.invokestatic 79, 3) := by decide +kernel
theorem dX4_hitAt_12 : decode cX4_hitAt 12 = .ok (.ifCond .eq 7, 3) := by decide +kernel
theorem dX4_hitAt_15 : decode cX4_hitAt 15 = .ok (.iconst 0, 1) := by decide +kernel
theorem dX4_hitAt_16 : decode cX4_hitAt 16 = .ok (.goto 4, 3) := by decide +kernel
theorem dX4_hitAt_19 : decode cX4_hitAt 19 = .ok (.iconst 1, 1) := by decide +kernel
theorem dX4_hitAt_20 : decode cX4_hitAt 20 = .ok (.putfield 72, 3) := by decide +kernel
theorem dX4_hitAt_23 : decode cX4_hitAt 23 = .ok (.aload_n 0, 1) := by decide +kernel
theorem dX4_hitAt_24 : decode cX4_hitAt 24 = .ok (.getfield 72, 3) := by decide +kernel
theorem dX4_hitAt_27 : decode cX4_hitAt 27 = .ok (.ifCond .le 7, 3) := by decide +kernel
theorem dX4_hitAt_30 : decode cX4_hitAt 30 = .ok (.iconst 0, 1) := by decide +kernel
theorem dX4_hitAt_31 : decode cX4_hitAt 31 = .ok (.goto 9, 3) := by decide +kernel
theorem dX4_hitAt_34 : decode cX4_hitAt 34 = .ok (.aload_n 0, 1) := by decide +kernel
theorem dX4_hitAt_35 : decode cX4_hitAt 35 = .ok (.getfield 28, 3) := by decide +kernel
theorem dX4_hitAt_38 : decode cX4_hitAt 38 = .ok (.iload_n 1, 1) := by decide +kernel
theorem dX4_hitAt_39 : decode cX4_hitAt 39 = .ok (.iaload, 1) := by decide +kernel
theorem dX4_hitAt_40 : decode cX4_hitAt 40 = .ok (.ireturn, 1) := by decide +kernel
theorem dX4_rankAt_0 : decode cX4_rankAt 0 = .ok (.aload_n 0, 1) := by decide +kernel
theorem dX4_rankAt_1 : decode cX4_rankAt 1 = .ok (.iload_n 1, 1) := by decide +kernel
theorem dX4_rankAt_2 : decode cX4_rankAt 2 = .ok (.iconst 0, 1) := by decide +kernel
theorem dX4_rankAt_3 : decode cX4_rankAt 3 = .ok (.aload_n 0, 1) := by decide +kernel
theorem dX4_rankAt_4 : decode cX4_rankAt 4 = .ok (.getfield 117, 3) := by decide +kernel
theorem dX4_rankAt_7 : decode cX4_rankAt 7 = .ok (.iconst 1, 1) := by decide +kernel
theorem dX4_rankAt_8 : decode cX4_rankAt 8 = .ok (.isub, 1) := by decide +kernel
theorem dX4_rankAt_9 : decode cX4_rankAt 9 = .ok (.invokestatic 79, 3) := by decide +kernel
theorem dX4_rankAt_12 : decode cX4_rankAt 12 = .ok (.ifCond .eq 7, 3) := by decide +kernel
theorem dX4_rankAt_15 : decode cX4_rankAt 15 = .ok (.iconst 0, 1) := by decide +kernel
theorem dX4_rankAt_16 : decode cX4_rankAt 16 = .ok (.goto 4, 3) := by decide +kernel
theorem dX4_rankAt_19 : decode cX4_rankAt 19 = .ok (.iconst 1, 1) := by decide +kernel
theorem dX4_rankAt_20 : decode cX4_rankAt 20 = .ok (.putfield 72, 3) := by decide +kernel
theorem dX4_rankAt_23 : decode cX4_rankAt 23 = .ok (.aload_n 0, 1) := by decide +kernel
theorem dX4_rankAt_24 : decode cX4_rankAt 24 = .ok (.getfield 72, 3) := by decide +kernel
theorem dX4_rankAt_27 : decode cX4_rankAt 27 = .ok (.ifCond .le 7, 3) := by decide +kernel
theorem dX4_rankAt_30 : decode cX4_rankAt 30 = .ok (.iconst 0, 1) := by decide +kernel
theorem dX4_rankAt_31 : decode cX4_rankAt 31 = .ok (.goto 9, 3) := by decide +kernel
theorem dX4_rankAt_34 : decode cX4_rankAt 34 = .ok (.aload_n 0, 1) := by decide +kernel
theorem dX4_rankAt_35 : decode cX4_rankAt 35 = .ok (.getfield 31, 3) := by decide +kernel
theorem dX4_rankAt_38 : decode cX4_rankAt 38 = .ok (.iload_n 1, 1) := by decide +kernel
theorem dX4_rankAt_39 : decode cX4_rankAt 39 = .ok (.iaload, 1) := by decide +kernel
theorem dX4_rankAt_40 : decode cX4_rankAt 40 = .ok (.ireturn, 1) := by decide +kernel
theorem dX4_week_0 : decode cX4_week 0 = .ok (.aload_n 0, 1) := by decide +kernel
theorem dX4_week_1 : decode cX4_week 1 = .ok (.aload_n 0, 1) := by decide +kernel
theorem dX4_week_2 : decode cX4_week 2 = .ok (.getfield 123, 3) := by decide +kernel
theorem dX4_week_5 : decode cX4_week 5 = .ok (.invokevirtual 126, 3) := by decide +kernel
theorem dX4_week_8 : decode cX4_week 8 = .ok (.ireturn, 1) := by decide +kernel
theorem dX4_nextWeek_0 : decode cX4_nextWeek 0 = .ok (.aload_n 0, 1) := by decide +kernel
theorem dX4_nextWeek_1 : decode cX4_nextWeek 1 = .ok (.aload_n 0, 1) := by decide +kernel
theorem dX4_nextWeek_2 : decode cX4_nextWeek 2 = .ok (.getfield 123, 3) := by decide +kernel
theorem dX4_nextWeek_5 : decode cX4_nextWeek 5 = .ok (.sipush 999, 3) := by decide +kernel
theorem dX4_nextWeek_8 : decode cX4_nextWeek 8 = .ok (.if_icmp .ne 7, 3) := by decide +kernel
theorem dX4_nextWeek_11 : decode cX4_nextWeek 11 = .ok (.iconst 1, 1) := by decide +kernel
theorem dX4_nextWeek_12 : decode cX4_nextWeek 12 = .ok (.goto 4, 3) := by decide +kernel
theorem dX4_nextWeek_15 : decode cX4_nextWeek 15 = .ok (.iconst 0, 1) := by decide +kernel
theorem dX4_nextWeek_16 : decode cX4_nextWeek 16 = .ok (.putfield 72, 3) := by decide +kernel
theorem dX4_nextWeek_19 : decode cX4_nextWeek 19 = .ok (.aload_n 0, 1) := by decide +kernel
theorem dX4_nextWeek_20 : decode cX4_nextWeek 20 = .ok (.getfield 72, 3) := by decide +kernel
theorem dX4_nextWeek_23 : decode cX4_nextWeek 23 = .ok (.ifCond .le 5, 3) := by decide +kernel
theorem dX4_nextWeek_26 : decode cX4_nextWeek 26 = .ok (.iconst 0, 1) := by decide +kernel
theorem dX4_nextWeek_27 : decode cX4_nextWeek 27 = .ok (.ireturn, 1) := by decide +kernel
theorem dX4_nextWeek_28 : decode cX4_nextWeek 28 = .ok (.aload_n 0, 1) := by decide +kernel
theorem dX4_nextWeek_29 : decode cX4_nextWeek 29 = .ok (.dup, 1) := by decide +kernel
theorem dX4_nextWeek_30 : decode cX4_nextWeek 30 = .ok (.getfield 123, 3) := by decide +kernel
theorem dX4_nextWeek_33 : decode cX4_nextWeek 33 = .ok (.iconst 1, 1) := by decide +kernel
theorem dX4_nextWeek_34 : decode cX4_nextWeek 34 = .ok (.iadd, 1) := by decide +kernel
theorem dX4_nextWeek_35 : decode cX4_nextWeek 35 = .ok (.putfield 123, 3) := by decide +kernel
theorem dX4_nextWeek_38 : decode cX4_nextWeek 38 = .ok (.aload_n 0, 1) := by decide +kernel
theorem dX4_nextWeek_39 : decode cX4_nextWeek 39 = .ok (.invokevirtual 92, 3) := by decide +kernel
theorem dX4_nextWeek_42 : decode cX4_nextWeek 42 = .ok (.aload_n 0, 1) := by decide +kernel
theorem dX4_nextWeek_43 : decode cX4_nextWeek 43 = .ok (.getfield 123, 3) := by decide +kernel
theorem dX4_nextWeek_46 : decode cX4_nextWeek 46 = .ok (.ireturn, 1) := by decide +kernel
theorem dX4_isKind_0 : decode cX4_isKind 0 = .ok (.iload_n 0, 1) := by decide +kernel
theorem dX4_isKind_1 : decode cX4_isKind 1 = .ok (.bipush 101, 2) := by decide +kernel
theorem dX4_isKind_3 : decode cX4_isKind 3 = .ok (.if_icmp .eq 15, 3) := by decide +kernel
theorem dX4_isKind_6 : decode cX4_isKind 6 = .ok (.iload_n 0, 1) := by decide +kernel
theorem dX4_isKind_7 : decode cX4_isKind 7 = .ok (.bipush 109, 2) := by decide +kernel
theorem dX4_isKind_9 : decode cX4_isKind 9 = .ok (.if_icmp .eq 9, 3) := by decide +kernel
theorem dX4_isKind_12 : decode cX4_isKind 12 = .ok (.iload_n 0, 1) := by decide +kernel
theorem dX4_isKind_13 : decode cX4_isKind 13 = .ok (.bipush 104, 2) := by decide +kernel
theorem dX4_isKind_15 : decode cX4_isKind 15 = .ok (.if_icmp .ne 7, 3) := by decide +kernel
theorem dX4_isKind_18 : decode cX4_isKind 18 = .ok (.iconst 1, 1) := by decide +kernel
theorem dX4_isKind_19 : decode cX4_isKind 19 = .ok (.goto 4, 3) := by decide +kernel
theorem dX4_isKind_22 : decode cX4_isKind 22 = .ok (.iconst 0, 1) := by decide +kernel
theorem dX4_isKind_23 : decode cX4_isKind 23 = .ok (.ireturn, 1) := by decide +kernel
theorem dX4_plan_0 : decode cX4_plan 0 = .ok (.aload_n 0, 1) := by decide +kernel
theorem dX4_plan_1 : decode cX4_plan 1 = .ok (.iload_n 1, 1) := by decide +kernel
theorem dX4_plan_2 : decode cX4_plan 2 = .ok (.aload_n 0, 1) := by decide +kernel
theorem dX4_plan_3 : decode cX4_plan 3 = .ok (.getfield 123, 3) := by decide +kernel
theorem dX4_plan_6 : decode cX4_plan 6 = .ok (.sipush 999, 3) := by decide +kernel
theorem dX4_plan_9 : decode cX4_plan 9 = .ok (.invokestatic 79, 3) := by decide +kernel
theorem dX4_plan_12 : decode cX4_plan 12 = .ok (.ifCond .eq 20, 3) := by decide +kernel
theorem dX4_plan_15 : decode cX4_plan 15 = .ok (.iload_n 2, 1) := by decide +kernel
theorem dX4_plan_16 : decode cX4_plan 16 = .ok (.invokestatic 129, 3) := by decide +kernel
theorem dX4_plan_19 : decode cX4_plan 19 = .ok (.ifCond .eq 13, 3) := by decide +kernel
theorem dX4_plan_22 : decode cX4_plan 22 = .ok (.iload_n 3, 1) := by decide +kernel
theorem dX4_plan_23 : decode cX4_plan 23 = .ok (.iconst 1, 1) := by decide +kernel
theorem dX4_plan_24 : decode cX4_plan 24 = .ok (.bipush 9, 2) := by decide +kernel
theorem dX4_plan_26 : decode cX4_plan 26 = .ok (.invokestatic 79, 3) := by decide +kernel
theorem dX4_plan_29 : decode cX4_plan 29 = .ok (.ifCond .ne 7, 3) := by decide +kernel
theorem dX4_plan_32 : decode cX4_plan 32 = .ok (.iconst 1, 1) := by decide +kernel
theorem dX4_plan_33 : decode cX4_plan 33 = .ok (.goto 17, 3) := by decide +kernel
theorem dX4_plan_36 : decode cX4_plan 36 = .ok (.aload_n 0, 1) := by decide +kernel
theorem dX4_plan_37 : decode cX4_plan 37 = .ok (.getfield 83, 3) := by decide +kernel
theorem dX4_plan_40 : decode cX4_plan 40 = .ok (.bipush 12, 2) := by decide +kernel
theorem dX4_plan_42 : decode cX4_plan 42 = .ok (.if_icmp .ne 7, 3) := by decide +kernel
theorem dX4_plan_45 : decode cX4_plan 45 = .ok (.iconst 2, 1) := by decide +kernel
theorem dX4_plan_46 : decode cX4_plan 46 = .ok (.goto 4, 3) := by decide +kernel
theorem dX4_plan_49 : decode cX4_plan 49 = .ok (.iconst 0, 1) := by decide +kernel
theorem dX4_plan_50 : decode cX4_plan 50 = .ok (.putfield 72, 3) := by decide +kernel
theorem dX4_plan_53 : decode cX4_plan 53 = .ok (.aload_n 0, 1) := by decide +kernel
theorem dX4_plan_54 : decode cX4_plan 54 = .ok (.getfield 72, 3) := by decide +kernel
theorem dX4_plan_57 : decode cX4_plan 57 = .ok (.ifCond .le 5, 3) := by decide +kernel
theorem dX4_plan_60 : decode cX4_plan 60 = .ok (.iconst 0, 1) := by decide +kernel
theorem dX4_plan_61 : decode cX4_plan 61 = .ok (.ireturn, 1) := by decide +kernel
theorem dX4_plan_62 : decode cX4_plan 62 = .ok (.aload_n 0, 1) := by decide +kernel
theorem dX4_plan_63 : decode cX4_plan 63 = .ok (.getfield 34, 3) := by decide +kernel
theorem dX4_plan_66 : decode cX4_plan 66 = .ok (.aload_n 0, 1) := by decide +kernel
theorem dX4_plan_67 : decode cX4_plan 67 = .ok (.getfield 83, 3) := by decide +kernel
theorem dX4_plan_70 : decode cX4_plan 70 = .ok (.iload_n 1, 1) := by decide +kernel
theorem dX4_plan_71 : decode cX4_plan 71 = .ok (.iastore, 1) := by decide +kernel
theorem dX4_plan_72 : decode cX4_plan 72 = .ok (.aload_n 0, 1) := by decide +kernel
theorem dX4_plan_73 : decode cX4_plan 73 = .ok (.getfield 46, 3) := by decide +kernel
theorem dX4_plan_76 : decode cX4_plan 76 = .ok (.aload_n 0, 1) := by decide +kernel
theorem dX4_plan_77 : decode cX4_plan 77 = .ok (.getfield 83, 3) := by decide +kernel
theorem dX4_plan_80 : decode cX4_plan 80 = .ok (.iload_n 2, 1) := by decide +kernel
theorem dX4_plan_81 : decode cX4_plan 81 = .ok (.castore, 1) := by decide +kernel
theorem dX4_plan_82 : decode cX4_plan 82 = .ok (.aload_n 0, 1) := by decide +kernel
theorem dX4_plan_83 : decode cX4_plan 83 = .ok (.getfield 37, 3) := by decide +kernel
theorem dX4_plan_86 : decode cX4_plan 86 = .ok (.aload_n 0, 1) := by decide +kernel
theorem dX4_plan_87 : decode cX4_plan 87 = .ok (.getfield 83, 3) := by decide +kernel
theorem dX4_plan_90 : decode cX4_plan 90 = .ok (.iload_n 3, 1) := by decide +kernel
theorem dX4_plan_91 : decode cX4_plan 91 = .ok (.iastore, 1) := by decide +kernel
theorem dX4_plan_92 : decode cX4_plan 92 = .ok (.aload_n 0, 1) := by decide +kernel
theorem dX4_plan_93 : decode cX4_plan 93 = .ok (.dup, 1) := by decide +kernel
theorem dX4_plan_94 : decode cX4_plan 94 = .ok (.getfield 83, 3) := by decide +kernel
theorem dX4_plan_97 : decode cX4_plan 97 = .ok (.iconst 1, 1) := by decide +kernel
theorem dX4_plan_98 : decode cX4_plan 98 = .ok (.iadd, 1) := by decide +kernel
theorem dX4_plan_99 : decode cX4_plan 99 = .ok (.putfield 83, 3) := by decide +kernel
theorem dX4_plan_102 : decode cX4_plan 102 = .ok (.aload_n 0, 1) := by decide +kernel
theorem dX4_plan_103 : decode cX4_plan 103 = .ok (.invokevirtual 92, 3) := by decide +kernel
theorem dX4_plan_106 : decode cX4_plan 106 = .ok (.aload_n 0, 1) := by decide +kernel
theorem dX4_plan_107 : decode cX4_plan 107 = .ok (.getfield 83, 3) := by decide +kernel
theorem dX4_plan_110 : decode cX4_plan 110 = .ok (.iconst 1, 1) := by decide +kernel
theorem dX4_plan_111 : decode cX4_plan 111 = .ok (.isub, 1) := by decide +kernel
theorem dX4_plan_112 : decode cX4_plan 112 = .ok (.ireturn, 1) := by decide +kernel
theorem dX4_isInForce_0 : decode cX4_isInForce 0 = .ok (.aload_n 0, 1) := by decide +kernel
theorem dX4_isInForce_1 : decode cX4_isInForce 1 = .ok (.getfield 53, 3) := by decide +kernel
theorem dX4_isInForce_4 : decode cX4_isInForce 4 = .ok (.iload_n 1, 1) := by decide +kernel
theorem dX4_isInForce_5 : decode cX4_isInForce 5 = .ok (.baload, 1) := by decide +kernel
theorem dX4_isInForce_6 : decode cX4_isInForce 6 = .ok (.ifCond .ne 20, 3) := by decide +kernel
theorem dX4_isInForce_9 : decode cX4_isInForce 9 = .ok (.aload_n 0, 1) := by decide +kernel
theorem dX4_isInForce_10 : decode cX4_isInForce 10 = .ok (.getfield 34, 3) := by decide +kernel
theorem dX4_isInForce_13 : decode cX4_isInForce 13 = .ok (.iload_n 1, 1) := by decide +kernel
theorem dX4_isInForce_14 : decode cX4_isInForce 14 = .ok (.iaload, 1) := by decide +kernel
theorem dX4_isInForce_15 : decode cX4_isInForce 15 = .ok (.aload_n 0, 1) := by decide +kernel
theorem dX4_isInForce_16 : decode cX4_isInForce 16 = .ok (.getfield 123, 3) := by decide +kernel
theorem dX4_isInForce_19 : decode cX4_isInForce 19 = .ok (.if_icmp .lt 7, 3) := by decide +kernel
theorem dX4_isInForce_22 : decode cX4_isInForce 22 = .ok (.iconst 1, 1) := by decide +kernel
theorem dX4_isInForce_23 : decode cX4_isInForce 23 = .ok (.goto 4, 3) := by decide +kernel
theorem dX4_isInForce_26 : decode cX4_isInForce 26 = .ok (.iconst 0, 1) := by decide +kernel
theorem dX4_isInForce_27 : decode cX4_isInForce 27 = .ok (.ireturn, 1) := by decide +kernel
theorem dX4_heldBy_0 : decode cX4_heldBy 0 = .ok (.aload_n 0, 1) := by decide +kernel
theorem dX4_heldBy_1 : decode cX4_heldBy 1 = .ok (.iload_n 1, 1) := by decide +kernel
theorem dX4_heldBy_2 : decode cX4_heldBy 2 = .ok (.invokevirtual 133, 3) := by decide +kernel
theorem dX4_heldBy_5 : decode cX4_heldBy 5 = .ok (.ifCond .eq 12, 3) := by decide +kernel
theorem dX4_heldBy_8 : decode cX4_heldBy 8 = .ok (.aload_n 0, 1) := by decide +kernel
theorem dX4_heldBy_9 : decode cX4_heldBy 9 = .ok (.getfield 43, 3) := by decide +kernel
theorem dX4_heldBy_12 : decode cX4_heldBy 12 = .ok (.iload_n 1, 1) := by decide +kernel
theorem dX4_heldBy_13 : decode cX4_heldBy 13 = .ok (.iaload, 1) := by decide +kernel
theorem dX4_heldBy_14 : decode cX4_heldBy 14 = .ok (.goto 4, 3) := by decide +kernel
theorem dX4_heldBy_17 : decode cX4_heldBy 17 = .ok (.iconst 0, 1) := by decide +kernel
theorem dX4_heldBy_18 : decode cX4_heldBy 18 = .ok (.ireturn, 1) := by decide +kernel
theorem dX4_drop_0 : decode cX4_drop 0 = .ok (.aload_n 0, 1) := by decide +kernel
theorem dX4_drop_1 : decode cX4_drop 1 = .ok (.aload_n 0, 1) := by decide +kernel
theorem dX4_drop_2 : decode cX4_drop 2 = .ok (.iload_n 1, 1) := by decide +kernel
theorem dX4_drop_3 : decode cX4_drop 3 = .ok (.invokevirtual 136, 3) := by decide +kernel
theorem dX4_drop_6 : decode cX4_drop 6 = .ok (.ifCond .ne 7, 3) := by decide +kernel
theorem dX4_drop_9 : decode cX4_drop 9 = .ok (.iconst 1, 1) := by decide +kernel
theorem dX4_drop_10 : decode cX4_drop 10 = .ok (.goto 17, 3) := by decide +kernel
theorem dX4_drop_13 : decode cX4_drop 13 = .ok (.aload_n 0, 1) := by decide +kernel
theorem dX4_drop_14 : decode cX4_drop 14 = .ok (.getfield 53, 3) := by decide +kernel
theorem dX4_drop_17 : decode cX4_drop 17 = .ok (.iload_n 1, 1) := by decide +kernel
theorem dX4_drop_18 : decode cX4_drop 18 = .ok (.baload, 1) := by decide +kernel
theorem dX4_drop_19 : decode cX4_drop 19 = .ok (.ifCond .eq 7, 3) := by decide +kernel
theorem dX4_drop_22 : decode cX4_drop 22 = .ok (.iconst 2, 1) := by decide +kernel
theorem dX4_drop_23 : decode cX4_drop 23 = .ok (.goto 4, 3) := by decide +kernel
theorem dX4_drop_26 : decode cX4_drop 26 = .ok (.iconst 0, 1) := by decide +kernel
theorem dX4_drop_27 : decode cX4_drop 27 = .ok (.putfield 72, 3) := by decide +kernel
theorem dX4_drop_30 : decode cX4_drop 30 = .ok (.aload_n 0, 1) := by decide +kernel
theorem dX4_drop_31 : decode cX4_drop 31 = .ok (.getfield 72, 3) := by decide +kernel
theorem dX4_drop_34 : decode cX4_drop 34 = .ok (.ifCond .le 5, 3) := by decide +kernel
theorem dX4_drop_37 : decode cX4_drop 37 = .ok (.iconst 0, 1) := by decide +kernel
theorem dX4_drop_38 : decode cX4_drop 38 = .ok (.ireturn, 1) := by decide +kernel
theorem dX4_drop_39 : decode cX4_drop 39 = .ok (.aload_n 0, 1) := by decide +kernel
theorem dX4_drop_40 : decode cX4_drop 40 = .ok (.iload_n 1, 1) := by decide +kernel
theorem dX4_drop_41 : decode cX4_drop 41 = .ok (.invokevirtual 139, 3) := by decide +kernel
theorem dX4_drop_44 : decode cX4_drop 44 = .ok (.istore_n 2, 1) := by decide +kernel
theorem dX4_drop_45 : decode cX4_drop 45 = .ok (.aload_n 0, 1) := by decide +kernel
theorem dX4_drop_46 : decode cX4_drop 46 = .ok (.getfield 53, 3) := by decide +kernel
theorem dX4_drop_49 : decode cX4_drop 49 = .ok (.iload_n 1, 1) := by decide +kernel
theorem dX4_drop_50 : decode cX4_drop 50 = .ok (.iconst 1, 1) := by decide +kernel
theorem dX4_drop_51 : decode cX4_drop 51 = .ok (.bastore, 1) := by decide +kernel
theorem dX4_drop_52 : decode cX4_drop 52 = .ok (.aload_n 0, 1) := by decide +kernel
theorem dX4_drop_53 : decode cX4_drop 53 = .ok (.invokevirtual 92, 3) := by decide +kernel
theorem dX4_drop_56 : decode cX4_drop 56 = .ok (.iload_n 2, 1) := by decide +kernel
theorem dX4_drop_57 : decode cX4_drop 57 = .ok (.ireturn, 1) := by decide +kernel
theorem dX4_wrongPlan_0 : decode cX4_wrongPlan 0 = .ok (.aload_n 0, 1) := by decide +kernel
theorem dX4_wrongPlan_1 : decode cX4_wrongPlan 1 = .ok (.aload_n 0, 1) := by decide +kernel
theorem dX4_wrongPlan_2 : decode cX4_wrongPlan 2 = .ok (.iload_n 1, 1) := by decide +kernel
theorem dX4_wrongPlan_3 : decode cX4_wrongPlan 3 = .ok (.invokevirtual 136, 3) := by decide +kernel
theorem dX4_wrongPlan_6 : decode cX4_wrongPlan 6 = .ok (.ifCond .eq 7, 3) := by decide +kernel
theorem dX4_wrongPlan_9 : decode cX4_wrongPlan 9 = .ok (.iconst 0, 1) := by decide +kernel
theorem dX4_wrongPlan_10 : decode cX4_wrongPlan 10 = .ok (.goto 4, 3) := by decide +kernel
theorem dX4_wrongPlan_13 : decode cX4_wrongPlan 13 = .ok (.iconst 1, 1) := by decide +kernel
theorem dX4_wrongPlan_14 : decode cX4_wrongPlan 14 = .ok (.putfield 72, 3) := by decide +kernel
theorem dX4_wrongPlan_17 : decode cX4_wrongPlan 17 = .ok (.aload_n 0, 1) := by decide +kernel
theorem dX4_wrongPlan_18 : decode cX4_wrongPlan 18 = .ok (.getfield 72, 3) := by decide +kernel
theorem dX4_wrongPlan_21 : decode cX4_wrongPlan 21 = .ok (.ireturn, 1) := by decide +kernel
theorem dX4_held_0 : decode cX4_held 0 = .ok (.aload_n 0, 1) := by decide +kernel
theorem dX4_held_1 : decode cX4_held 1 = .ok (.iload_n 1, 1) := by decide +kernel
theorem dX4_held_2 : decode cX4_held 2 = .ok (.invokevirtual 142, 3) := by decide +kernel
theorem dX4_held_5 : decode cX4_held 5 = .ok (.ifCond .le 7, 3) := by decide +kernel
theorem dX4_held_8 : decode cX4_held 8 = .ok (.iconst 0, 1) := by decide +kernel
theorem dX4_held_9 : decode cX4_held 9 = .ok (.goto 8, 3) := by decide +kernel
theorem dX4_held_12 : decode cX4_held 12 = .ok (.aload_n 0, 1) := by decide +kernel
theorem dX4_held_13 : decode cX4_held 13 = .ok (.iload_n 1, 1) := by decide +kernel
theorem dX4_held_14 : decode cX4_held 14 = .ok (.invokevirtual 139, 3) := by decide +kernel
theorem dX4_held_17 : decode cX4_held 17 = .ok (.ireturn, 1) := by decide +kernel
theorem dX4_heldAt_0 : decode cX4_heldAt 0 = .ok (.aload_n 0, 1) := by decide +kernel
theorem dX4_heldAt_1 : decode cX4_heldAt 1 = .ok (.iload_n 1, 1) := by decide +kernel
theorem dX4_heldAt_2 : decode cX4_heldAt 2 = .ok (.invokevirtual 142, 3) := by decide +kernel
theorem dX4_heldAt_5 : decode cX4_heldAt 5 = .ok (.ifCond .ne 23, 3) := by decide +kernel
theorem dX4_heldAt_8 : decode cX4_heldAt 8 = .ok (.iload_n 2, 1) := by decide +kernel
theorem dX4_heldAt_9 : decode cX4_heldAt 9 = .ok (.iconst 0, 1) := by decide +kernel
theorem dX4_heldAt_10 : decode cX4_heldAt 10 = .ok (.aload_n 0, 1) := by decide +kernel
theorem dX4_heldAt_11 : decode cX4_heldAt 11 = .ok (.iload_n 1, 1) := by decide +kernel
theorem dX4_heldAt_12 : decode cX4_heldAt 12 = .ok (.invokevirtual 139, 3) := by decide +kernel
theorem dX4_heldAt_15 : decode cX4_heldAt 15 = .ok (.iconst 1, 1) := by decide +kernel
theorem dX4_heldAt_16 : decode cX4_heldAt 16 = .ok (.isub, 1) := by decide +kernel
theorem dX4_heldAt_17 : decode cX4_heldAt 17 = .ok (.invokestatic 79, 3) := by decide +kernel
theorem dX4_heldAt_20 : decode cX4_heldAt 20 = .ok (.ifCond .ne 8, 3) := by decide +kernel
theorem dX4_heldAt_23 : decode cX4_heldAt 23 = .ok (.aload_n 0, 1) := by decide +kernel
theorem dX4_heldAt_24 : decode cX4_heldAt 24 = .ok (.iconst 2, 1) := by decide +kernel
theorem dX4_heldAt_25 : decode cX4_heldAt 25 = .ok (.putfield 72, 3) := by decide +kernel
theorem dX4_heldAt_28 : decode cX4_heldAt 28 = .ok (.aload_n 0, 1) := by decide +kernel
theorem dX4_heldAt_29 : decode cX4_heldAt 29 = .ok (.getfield 72, 3) := by decide +kernel
theorem dX4_heldAt_32 : decode cX4_heldAt 32 = .ok (.ifCond .le 7, 3) := by decide +kernel
theorem dX4_heldAt_35 : decode cX4_heldAt 35 = .ok (.iconst 0, 1) := by decide +kernel
theorem dX4_heldAt_36 : decode cX4_heldAt 36 = .ok (.goto 14, 3) := by decide +kernel
theorem dX4_heldAt_39 : decode cX4_heldAt 39 = .ok (.aload_n 0, 1) := by decide +kernel
theorem dX4_heldAt_40 : decode cX4_heldAt 40 = .ok (.getfield 40, 3) := by decide +kernel
theorem dX4_heldAt_43 : decode cX4_heldAt 43 = .ok (.bipush 9, 2) := by decide +kernel
theorem dX4_heldAt_45 : decode cX4_heldAt 45 = .ok (.iload_n 1, 1) := by decide +kernel
theorem dX4_heldAt_46 : decode cX4_heldAt 46 = .ok (.imul, 1) := by decide +kernel
theorem dX4_heldAt_47 : decode cX4_heldAt 47 = .ok (.iload_n 2, 1) := by decide +kernel
theorem dX4_heldAt_48 : decode cX4_heldAt 48 = .ok (.iadd, 1) := by decide +kernel
theorem dX4_heldAt_49 : decode cX4_heldAt 49 = .ok (.iaload, 1) := by decide +kernel
theorem dX4_heldAt_50 : decode cX4_heldAt 50 = .ok (.ireturn, 1) := by decide +kernel
theorem dX4_lacks_0 : decode cX4_lacks 0 = .ok (.aload_n 0, 1) := by decide +kernel
theorem dX4_lacks_1 : decode cX4_lacks 1 = .ok (.iload_n 1, 1) := by decide +kernel
theorem dX4_lacks_2 : decode cX4_lacks 2 = .ok (.invokevirtual 142, 3) := by decide +kernel
theorem dX4_lacks_5 : decode cX4_lacks 5 = .ok (.ifCond .gt 11, 3) := by decide +kernel
theorem dX4_lacks_8 : decode cX4_lacks 8 = .ok (.aload_n 0, 1) := by decide +kernel
theorem dX4_lacks_9 : decode cX4_lacks 9 = .ok (.iload_n 1, 1) := by decide +kernel
theorem dX4_lacks_10 : decode cX4_lacks 10 = .ok (.invokevirtual 133, 3) := by decide +kernel
theorem dX4_lacks_13 : decode cX4_lacks 13 = .ok (.ifCond .ne 7, 3) := by decide +kernel
theorem dX4_lacks_16 : decode cX4_lacks 16 = .ok (.iconst 0, 1) := by decide +kernel
theorem dX4_lacks_17 : decode cX4_lacks 17 = .ok (.goto 16, 3) := by decide +kernel
theorem dX4_lacks_20 : decode cX4_lacks 20 = .ok (.aload_n 0, 1) := by decide +kernel
theorem dX4_lacks_21 : decode cX4_lacks 21 = .ok (.getfield 37, 3) := by decide +kernel
theorem dX4_lacks_24 : decode cX4_lacks 24 = .ok (.iload_n 1, 1) := by decide +kernel
theorem dX4_lacks_25 : decode cX4_lacks 25 = .ok (.iaload, 1) := by decide +kernel
theorem dX4_lacks_26 : decode cX4_lacks 26 = .ok (.aload_n 0, 1) := by decide +kernel
theorem dX4_lacks_27 : decode cX4_lacks 27 = .ok (.getfield 43, 3) := by decide +kernel
theorem dX4_lacks_30 : decode cX4_lacks 30 = .ok (.iload_n 1, 1) := by decide +kernel
theorem dX4_lacks_31 : decode cX4_lacks 31 = .ok (.iaload, 1) := by decide +kernel
theorem dX4_lacks_32 : decode cX4_lacks 32 = .ok (.isub, 1) := by decide +kernel
theorem dX4_lacks_33 : decode cX4_lacks 33 = .ok (.ireturn, 1) := by decide +kernel
theorem dX4_isHeld_0 : decode cX4_isHeld 0 = .ok (.iconst 0, 1) := by decide +kernel
theorem dX4_isHeld_1 : decode cX4_isHeld 1 = .ok (.istore_n 2, 1) := by decide +kernel
theorem dX4_isHeld_2 : decode cX4_isHeld 2 = .ok (.iload_n 2, 1) := by decide +kernel
theorem dX4_isHeld_3 : decode cX4_isHeld 3 = .ok (.aload_n 0, 1) := by decide +kernel
theorem dX4_isHeld_4 : decode cX4_isHeld 4 = .ok (.getfield 83, 3) := by decide +kernel
theorem dX4_isHeld_7 : decode cX4_isHeld 7 = .ok (.if_icmp .ge 43, 3) := by decide +kernel
theorem dX4_isHeld_10 : decode cX4_isHeld 10 = .ok (.iconst 0, 1) := by decide +kernel
theorem dX4_isHeld_11 : decode cX4_isHeld 11 = .ok (.istore_n 3, 1) := by decide +kernel
theorem dX4_isHeld_12 : decode cX4_isHeld 12 = .ok (.iload_n 3, 1) := by decide +kernel
theorem dX4_isHeld_13 : decode cX4_isHeld 13 = .ok (.aload_n 0, 1) := by decide +kernel
theorem dX4_isHeld_14 : decode cX4_isHeld 14 = .ok (.iload_n 2, 1) := by decide +kernel
theorem dX4_isHeld_15 : decode cX4_isHeld 15 = .ok (.invokevirtual 139, 3) := by decide +kernel
theorem dX4_isHeld_18 : decode cX4_isHeld 18 = .ok (.if_icmp .ge 26, 3) := by decide +kernel
theorem dX4_isHeld_21 : decode cX4_isHeld 21 = .ok (.aload_n 0, 1) := by decide +kernel
theorem dX4_isHeld_22 : decode cX4_isHeld 22 = .ok (.getfield 40, 3) := by decide +kernel
theorem dX4_isHeld_25 : decode cX4_isHeld 25 = .ok (.bipush 9, 2) := by decide +kernel
theorem dX4_isHeld_27 : decode cX4_isHeld 27 = .ok (.iload_n 2, 1) := by decide +kernel
theorem dX4_isHeld_28 : decode cX4_isHeld 28 = .ok (.imul, 1) := by decide +kernel
theorem dX4_isHeld_29 : decode cX4_isHeld 29 = .ok (.iload_n 3, 1) := by decide +kernel
theorem dX4_isHeld_30 : decode cX4_isHeld 30 = .ok (.iadd, 1) := by decide +kernel
theorem dX4_isHeld_31 : decode cX4_isHeld 31 = .ok (.iaload, 1) := by decide +kernel
theorem dX4_isHeld_32 : decode cX4_isHeld 32 = .ok (.iload_n 1, 1) := by decide +kernel
theorem dX4_isHeld_33 : decode cX4_isHeld 33 = .ok (.if_icmp .ne 5, 3) := by decide +kernel
theorem dX4_isHeld_36 : decode cX4_isHeld 36 = .ok (.iconst 1, 1) := by decide +kernel
theorem dX4_isHeld_37 : decode cX4_isHeld 37 = .ok (.ireturn, 1) := by decide +kernel
theorem dX4_isHeld_38 : decode cX4_isHeld 38 = .ok (.iinc 3 1, 3) := by decide +kernel
theorem dX4_isHeld_41 : decode cX4_isHeld 41 = .ok (.goto (-29), 3) := by decide +kernel
theorem dX4_isHeld_44 : decode cX4_isHeld 44 = .ok (.iinc 2 1, 3) := by decide +kernel
theorem dX4_isHeld_47 : decode cX4_isHeld 47 = .ok (.goto (-45), 3) := by decide +kernel
theorem dX4_isHeld_50 : decode cX4_isHeld 50 = .ok (.iconst 0, 1) := by decide +kernel
theorem dX4_isHeld_51 : decode cX4_isHeld 51 = .ok (.istore_n 2, 1) := by decide +kernel
theorem dX4_isHeld_52 : decode cX4_isHeld 52 = .ok (.iload_n 2, 1) := by decide +kernel
theorem dX4_isHeld_53 : decode cX4_isHeld 53 = .ok (.aload_n 0, 1) := by decide +kernel
theorem dX4_isHeld_54 : decode cX4_isHeld 54 = .ok (.getfield 86, 3) := by decide +kernel
theorem dX4_isHeld_57 : decode cX4_isHeld 57 = .ok (.if_icmp .ge 31, 3) := by decide +kernel
theorem dX4_isHeld_60 : decode cX4_isHeld 60 = .ok (.aload_n 0, 1) := by decide +kernel
theorem dX4_isHeld_61 : decode cX4_isHeld 61 = .ok (.getfield 50, 3) := by decide +kernel
theorem dX4_isHeld_64 : decode cX4_isHeld 64 = .ok (.iload_n 2, 1) := by decide +kernel
theorem dX4_isHeld_65 : decode cX4_isHeld 65 = .ok (.caload, 1) := by decide +kernel
theorem dX4_isHeld_66 : decode cX4_isHeld 66 = .ok (.bipush 115, 2) := by decide +kernel
theorem dX4_isHeld_68 : decode cX4_isHeld 68 = .ok (.if_icmp .ne 14, 3) := by decide +kernel
theorem dX4_isHeld_71 : decode cX4_isHeld 71 = .ok (.aload_n 0, 1) := by decide +kernel
theorem dX4_isHeld_72 : decode cX4_isHeld 72 = .ok (.iload_n 2, 1) := by decide +kernel
theorem dX4_isHeld_73 : decode cX4_isHeld 73 = .ok (.iload_n 1, 1) := by decide +kernel
theorem dX4_isHeld_74 : decode cX4_isHeld 74 = .ok (.invokevirtual 145, 3) := by decide +kernel
theorem dX4_isHeld_77 : decode cX4_isHeld 77 = .ok (.ifCond .eq 5, 3) := by decide +kernel
theorem dX4_isHeld_80 : decode cX4_isHeld 80 = .ok (.iconst 1, 1) := by decide +kernel
theorem dX4_isHeld_81 : decode cX4_isHeld 81 = .ok (.ireturn, 1) := by decide +kernel
theorem dX4_isHeld_82 : decode cX4_isHeld 82 = .ok (.iinc 2 1, 3) := by decide +kernel
theorem dX4_isHeld_85 : decode cX4_isHeld 85 = .ok (.goto (-33), 3) := by decide +kernel
theorem dX4_isHeld_88 : decode cX4_isHeld 88 = .ok (.iconst 0, 1) := by decide +kernel
theorem dX4_isHeld_89 : decode cX4_isHeld 89 = .ok (.ireturn, 1) := by decide +kernel
theorem dX4_hasOn_0 : decode cX4_hasOn 0 = .ok (.iconst 0, 1) := by decide +kernel
theorem dX4_hasOn_1 : decode cX4_hasOn 1 = .ok (.istore_n 3, 1) := by decide +kernel
theorem dX4_hasOn_2 : decode cX4_hasOn 2 = .ok (.iload_n 3, 1) := by decide +kernel
theorem dX4_hasOn_3 : decode cX4_hasOn 3 = .ok (.aload_n 0, 1) := by decide +kernel
theorem dX4_hasOn_4 : decode cX4_hasOn 4 = .ok (.getfield 63, 3) := by decide +kernel
theorem dX4_hasOn_7 : decode cX4_hasOn 7 = .ok (.iload_n 1, 1) := by decide +kernel
theorem dX4_hasOn_8 : decode cX4_hasOn 8 = .ok (.iaload, 1) := by decide +kernel
theorem dX4_hasOn_9 : decode cX4_hasOn 9 = .ok (.if_icmp .ge 26, 3) := by decide +kernel
theorem dX4_hasOn_12 : decode cX4_hasOn 12 = .ok (.aload_n 0, 1) := by decide +kernel
theorem dX4_hasOn_13 : decode cX4_hasOn 13 = .ok (.getfield 60, 3) := by decide +kernel
theorem dX4_hasOn_16 : decode cX4_hasOn 16 = .ok (.bipush 27, 2) := by decide +kernel
theorem dX4_hasOn_18 : decode cX4_hasOn 18 = .ok (.iload_n 1, 1) := by decide +kernel
theorem dX4_hasOn_19 : decode cX4_hasOn 19 = .ok (.imul, 1) := by decide +kernel
theorem dX4_hasOn_20 : decode cX4_hasOn 20 = .ok (.iload_n 3, 1) := by decide +kernel
theorem dX4_hasOn_21 : decode cX4_hasOn 21 = .ok (.iadd, 1) := by decide +kernel
theorem dX4_hasOn_22 : decode cX4_hasOn 22 = .ok (.iaload, 1) := by decide +kernel
theorem dX4_hasOn_23 : decode cX4_hasOn 23 = .ok (.iload_n 2, 1) := by decide +kernel
theorem dX4_hasOn_24 : decode cX4_hasOn 24 = .ok (.if_icmp .ne 5, 3) := by decide +kernel
theorem dX4_hasOn_27 : decode cX4_hasOn 27 = .ok (.iconst 1, 1) := by decide +kernel
theorem dX4_hasOn_28 : decode cX4_hasOn 28 = .ok (.ireturn, 1) := by decide +kernel
theorem dX4_hasOn_29 : decode cX4_hasOn 29 = .ok (.iinc 3 1, 3) := by decide +kernel
theorem dX4_hasOn_32 : decode cX4_hasOn 32 = .ok (.goto (-30), 3) := by decide +kernel
theorem dX4_hasOn_35 : decode cX4_hasOn 35 = .ok (.iconst 0, 1) := by decide +kernel
theorem dX4_hasOn_36 : decode cX4_hasOn 36 = .ok (.ireturn, 1) := by decide +kernel
theorem dX4_isFreeNow_0 : decode cX4_isFreeNow 0 = .ok (.aload_n 0, 1) := by decide +kernel
theorem dX4_isFreeNow_1 : decode cX4_isFreeNow 1 = .ok (.iload_n 1, 1) := by decide +kernel
theorem dX4_isFreeNow_2 : decode cX4_isFreeNow 2 = .ok (.invokevirtual 148, 3) := by decide +kernel
theorem dX4_isFreeNow_5 : decode cX4_isFreeNow 5 = .ok (.ifCond .ne 22, 3) := by decide +kernel
theorem dX4_isFreeNow_8 : decode cX4_isFreeNow 8 = .ok (.aload_n 0, 1) := by decide +kernel
theorem dX4_isFreeNow_9 : decode cX4_isFreeNow 9 = .ok (.getfield 25, 3) := by decide +kernel
theorem dX4_isFreeNow_12 : decode cX4_isFreeNow 12 = .ok (.iload_n 1, 1) := by decide +kernel
theorem dX4_isFreeNow_13 : decode cX4_isFreeNow 13 = .ok (.iaload, 1) := by decide +kernel
theorem dX4_isFreeNow_14 : decode cX4_isFreeNow 14 = .ok (.aload_n 0, 1) := by decide +kernel
theorem dX4_isFreeNow_15 : decode cX4_isFreeNow 15 = .ok (.getfield 123, 3) := by decide +kernel
theorem dX4_isFreeNow_18 : decode cX4_isFreeNow 18 = .ok (.iconst 2, 1) := by decide +kernel
theorem dX4_isFreeNow_19 : decode cX4_isFreeNow 19 = .ok (.isub, 1) := by decide +kernel
theorem dX4_isFreeNow_20 : decode cX4_isFreeNow 20 = .ok (.if_icmp .ge 7, 3) := by decide +kernel
theorem dX4_isFreeNow_23 : decode cX4_isFreeNow 23 = .ok (.iconst 1, 1) := by decide +kernel
theorem dX4_isFreeNow_24 : decode cX4_isFreeNow 24 = .ok (.goto 4, 3) := by decide +kernel
theorem dX4_isFreeNow_27 : decode cX4_isFreeNow 27 = .ok (.iconst 0, 1) := by decide +kernel
theorem dX4_isFreeNow_28 : decode cX4_isFreeNow 28 = .ok (.ireturn, 1) := by decide +kernel
theorem dX4_isFree_0 : decode cX4_isFree 0 = .ok (.aload_n 0, 1) := by decide +kernel
theorem dX4_isFree_1 : decode cX4_isFree 1 = .ok (.iload_n 1, 1) := by decide +kernel
theorem dX4_isFree_2 : decode cX4_isFree 2 = .ok (.invokevirtual 103, 3) := by decide +kernel
theorem dX4_isFree_5 : decode cX4_isFree 5 = .ok (.ifCond .ne 15, 3) := by decide +kernel
theorem dX4_isFree_8 : decode cX4_isFree 8 = .ok (.aload_n 0, 1) := by decide +kernel
theorem dX4_isFree_9 : decode cX4_isFree 9 = .ok (.iload_n 1, 1) := by decide +kernel
theorem dX4_isFree_10 : decode cX4_isFree 10 = .ok (.invokevirtual 151, 3) := by decide +kernel
theorem dX4_isFree_13 : decode cX4_isFree 13 = .ok (.ifCond .eq 7, 3) := by decide +kernel
theorem dX4_isFree_16 : decode cX4_isFree 16 = .ok (.iconst 1, 1) := by decide +kernel
theorem dX4_isFree_17 : decode cX4_isFree 17 = .ok (.goto 4, 3) := by decide +kernel
theorem dX4_isFree_20 : decode cX4_isFree 20 = .ok (.iconst 0, 1) := by decide +kernel
theorem dX4_isFree_21 : decode cX4_isFree 21 = .ok (.ireturn, 1) := by decide +kernel
theorem dX4_hasTwinIn_0 : decode cX4_hasTwinIn 0 = .ok (.iconst 0, 1) := by decide +kernel
theorem dX4_hasTwinIn_1 : decode cX4_hasTwinIn 1 = .ok (.istore 4, 2) := by decide +kernel
theorem dX4_hasTwinIn_3 : decode cX4_hasTwinIn 3 = .ok (.iload 4, 2) := by decide +kernel
theorem dX4_hasTwinIn_5 : decode cX4_hasTwinIn 5 = .ok (.iload_n 2, 1) := by decide +kernel
theorem dX4_hasTwinIn_6 : decode cX4_hasTwinIn 6 = .ok (.if_icmp .ge 31, 3) := by decide +kernel
theorem dX4_hasTwinIn_9 : decode cX4_hasTwinIn 9 = .ok (.aload_n 0, 1) := by decide +kernel
theorem dX4_hasTwinIn_10 : decode cX4_hasTwinIn 10 = .ok (.aload_n 0, 1) := by decide +kernel
theorem dX4_hasTwinIn_11 : decode cX4_hasTwinIn 11 = .ok (.getfield 40, 3) := by decide +kernel
theorem dX4_hasTwinIn_14 : decode cX4_hasTwinIn 14 = .ok (.bipush 9, 2) := by decide +kernel
theorem dX4_hasTwinIn_16 : decode cX4_hasTwinIn 16 = .ok (.iload_n 1, 1) := by decide +kernel
theorem dX4_hasTwinIn_17 : decode cX4_hasTwinIn 17 = .ok (.imul, 1) := by decide +kernel
theorem dX4_hasTwinIn_18 : decode cX4_hasTwinIn 18 = .ok (.iload 4, 2) := by decide +kernel
theorem dX4_hasTwinIn_20 : decode cX4_hasTwinIn 20 = .ok (.iadd, 1) := by decide +kernel
theorem dX4_hasTwinIn_21 : decode cX4_hasTwinIn 21 = .ok (.iaload, 1) := by decide +kernel
theorem dX4_hasTwinIn_22 : decode cX4_hasTwinIn 22 = .ok (.iload_n 3, 1) := by decide +kernel
theorem dX4_hasTwinIn_23 : decode cX4_hasTwinIn 23 = .ok (.invokevirtual 99, 3) := by decide +kernel
theorem dX4_hasTwinIn_26 : decode cX4_hasTwinIn 26 = .ok (.ifCond .eq 5, 3) := by decide +kernel
theorem dX4_hasTwinIn_29 : decode cX4_hasTwinIn 29 = .ok (.iconst 1, 1) := by decide +kernel
theorem dX4_hasTwinIn_30 : decode cX4_hasTwinIn 30 = .ok (.ireturn, 1) := by decide +kernel
theorem dX4_hasTwinIn_31 : decode cX4_hasTwinIn 31 = .ok (.iinc 4 1, 3) := by decide +kernel
theorem dX4_hasTwinIn_34 : decode cX4_hasTwinIn 34 = .ok (.goto (-31), 3) := by decide +kernel
theorem dX4_hasTwinIn_37 : decode cX4_hasTwinIn 37 = .ok (.iconst 0, 1) := by decide +kernel
theorem dX4_hasTwinIn_38 : decode cX4_hasTwinIn 38 = .ok (.ireturn, 1) := by decide +kernel
theorem dX4_settle_0 : decode cX4_settle 0 = .ok (.iconst 0, 1) := by decide +kernel
theorem dX4_settle_1 : decode cX4_settle 1 = .ok (.istore_n 1, 1) := by decide +kernel
theorem dX4_settle_2 : decode cX4_settle 2 = .ok (.iload_n 1, 1) := by decide +kernel
theorem dX4_settle_3 : decode cX4_settle 3 = .ok (.aload_n 0, 1) := by decide +kernel
theorem dX4_settle_4 : decode cX4_settle 4 = .ok (.getfield 83, 3) := by decide +kernel
theorem dX4_settle_7 : decode cX4_settle 7 = .ok (.if_icmp .ge 105, 3) := by decide +kernel
theorem dX4_settle_10 : decode cX4_settle 10 = .ok (.aload_n 0, 1) := by decide +kernel
theorem dX4_settle_11 : decode cX4_settle 11 = .ok (.iload_n 1, 1) := by decide +kernel
theorem dX4_settle_12 : decode cX4_settle 12 = .ok (.invokevirtual 133, 3) := by decide +kernel
theorem dX4_settle_15 : decode cX4_settle 15 = .ok (.ifCond .ne 6, 3) := by decide +kernel
theorem dX4_settle_18 : decode cX4_settle 18 = .ok (.goto 88, 3) := by decide +kernel
theorem dX4_settle_21 : decode cX4_settle 21 = .ok (.iconst 0, 1) := by decide +kernel
theorem dX4_settle_22 : decode cX4_settle 22 = .ok (.istore_n 2, 1) := by decide +kernel
theorem dX4_settle_23 : decode cX4_settle 23 = .ok (.iconst 0, 1) := by decide +kernel
theorem dX4_settle_24 : decode cX4_settle 24 = .ok (.istore_n 3, 1) := by decide +kernel
theorem dX4_settle_25 : decode cX4_settle 25 = .ok (.iload_n 3, 1) := by decide +kernel
theorem dX4_settle_26 : decode cX4_settle 26 = .ok (.aload_n 0, 1) := by decide +kernel
theorem dX4_settle_27 : decode cX4_settle 27 = .ok (.getfield 43, 3) := by decide +kernel
theorem dX4_settle_30 : decode cX4_settle 30 = .ok (.iload_n 1, 1) := by decide +kernel
theorem dX4_settle_31 : decode cX4_settle 31 = .ok (.iaload, 1) := by decide +kernel
theorem dX4_settle_32 : decode cX4_settle 32 = .ok (.if_icmp .ge 67, 3) := by decide +kernel
theorem dX4_settle_35 : decode cX4_settle 35 = .ok (.aload_n 0, 1) := by decide +kernel
theorem dX4_settle_36 : decode cX4_settle 36 = .ok (.getfield 40, 3) := by decide +kernel
theorem dX4_settle_39 : decode cX4_settle 39 = .ok (.bipush 9, 2) := by decide +kernel
theorem dX4_settle_41 : decode cX4_settle 41 = .ok (.iload_n 1, 1) := by decide +kernel
theorem dX4_settle_42 : decode cX4_settle 42 = .ok (.imul, 1) := by decide +kernel
theorem dX4_settle_43 : decode cX4_settle 43 = .ok (.iload_n 3, 1) := by decide +kernel
theorem dX4_settle_44 : decode cX4_settle 44 = .ok (.iadd, 1) := by decide +kernel
theorem dX4_settle_45 : decode cX4_settle 45 = .ok (.iaload, 1) := by decide +kernel
theorem dX4_settle_46 : decode cX4_settle 46 = .ok (.istore 4, 2) := by decide +kernel
theorem dX4_settle_48 : decode cX4_settle 48 = .ok (.aload_n 0, 1) := by decide +kernel
theorem dX4_settle_49 : decode cX4_settle 49 = .ok (.iload 4, 2) := by decide +kernel
theorem dX4_settle_51 : decode cX4_settle 51 = .ok (.invokevirtual 107, 3) := by decide +kernel
theorem dX4_settle_54 : decode cX4_settle 54 = .ok (.aload_n 0, 1) := by decide +kernel
theorem dX4_settle_55 : decode cX4_settle 55 = .ok (.getfield 46, 3) := by decide +kernel
theorem dX4_settle_58 : decode cX4_settle 58 = .ok (.iload_n 1, 1) := by decide +kernel
theorem dX4_settle_59 : decode cX4_settle 59 = .ok (.caload, 1) := by decide +kernel
theorem dX4_settle_60 : decode cX4_settle 60 = .ok (.if_icmp .ne 33, 3) := by decide +kernel
theorem dX4_settle_63 : decode cX4_settle 63 = .ok (.aload_n 0, 1) := by decide +kernel
theorem dX4_settle_64 : decode cX4_settle 64 = .ok (.iload_n 1, 1) := by decide +kernel
theorem dX4_settle_65 : decode cX4_settle 65 = .ok (.iload_n 2, 1) := by decide +kernel
theorem dX4_settle_66 : decode cX4_settle 66 = .ok (.iload 4, 2) := by decide +kernel
theorem dX4_settle_68 : decode cX4_settle 68 = .ok (.invokevirtual 154, 3) := by decide +kernel
theorem dX4_settle_71 : decode cX4_settle 71 = .ok (.ifCond .eq 6, 3) := by decide +kernel
theorem dX4_settle_74 : decode cX4_settle 74 = .ok (.goto 19, 3) := by decide +kernel
theorem dX4_settle_77 : decode cX4_settle 77 = .ok (.aload_n 0, 1) := by decide +kernel
theorem dX4_settle_78 : decode cX4_settle 78 = .ok (.getfield 40, 3) := by decide +kernel
theorem dX4_settle_81 : decode cX4_settle 81 = .ok (.bipush 9, 2) := by decide +kernel
theorem dX4_settle_83 : decode cX4_settle 83 = .ok (.iload_n 1, 1) := by decide +kernel
theorem dX4_settle_84 : decode cX4_settle 84 = .ok (.imul, 1) := by decide +kernel
theorem dX4_settle_85 : decode cX4_settle 85 = .ok (.iload_n 2, 1) := by decide +kernel
theorem dX4_settle_86 : decode cX4_settle 86 = .ok (.iadd, 1) := by decide +kernel
theorem dX4_settle_87 : decode cX4_settle 87 = .ok (.iload 4, 2) := by decide +kernel
theorem dX4_settle_89 : decode cX4_settle 89 = .ok (.iastore, 1) := by decide +kernel
theorem dX4_settle_90 : decode cX4_settle 90 = .ok (.iinc 2 1, 3) := by decide +kernel
theorem dX4_settle_93 : decode cX4_settle 93 = .ok (.iinc 3 1, 3) := by decide +kernel
theorem dX4_settle_96 : decode cX4_settle 96 = .ok (.goto (-71), 3) := by decide +kernel
theorem dX4_settle_99 : decode cX4_settle 99 = .ok (.aload_n 0, 1) := by decide +kernel
theorem dX4_settle_100 : decode cX4_settle 100 = .ok (.getfield 43, 3) := by decide +kernel
theorem dX4_settle_103 : decode cX4_settle 103 = .ok (.iload_n 1, 1) := by decide +kernel
theorem dX4_settle_104 : decode cX4_settle 104 = .ok (.iload_n 2, 1) := by decide +kernel
theorem dX4_settle_105 : decode cX4_settle 105 = .ok (.iastore, 1) := by decide +kernel
theorem dX4_settle_106 : decode cX4_settle 106 = .ok (.iinc 1 1, 3) := by decide +kernel
theorem dX4_settle_109 : decode cX4_settle 109 = .ok (.goto (-107), 3) := by decide +kernel
theorem dX4_settle_112 : decode cX4_settle 112 = .ok (.iconst 0, 1) := by decide +kernel
theorem dX4_settle_113 : decode cX4_settle 113 = .ok (.istore_n 1, 1) := by decide +kernel
theorem dX4_settle_114 : decode cX4_settle 114 = .ok (.iload_n 1, 1) := by decide +kernel
theorem dX4_settle_115 : decode cX4_settle 115 = .ok (.aload_n 0, 1) := by decide +kernel
theorem dX4_settle_116 : decode cX4_settle 116 = .ok (.getfield 83, 3) := by decide +kernel
theorem dX4_settle_119 : decode cX4_settle 119 = .ok (.if_icmp .ge 115, 3) := by decide +kernel
theorem dX4_settle_122 : decode cX4_settle 122 = .ok (.iconst 0, 1) := by decide +kernel
theorem dX4_settle_123 : decode cX4_settle 123 = .ok (.istore_n 2, 1) := by decide +kernel
theorem dX4_settle_124 : decode cX4_settle 124 = .ok (.iload_n 2, 1) := by decide +kernel
theorem dX4_settle_125 : decode cX4_settle 125 = .ok (.aload_n 0, 1) := by decide +kernel
theorem dX4_settle_126 : decode cX4_settle 126 = .ok (.getfield 76, 3) := by decide +kernel
theorem dX4_settle_129 : decode cX4_settle 129 = .ok (.if_icmp .ge 99, 3) := by decide +kernel
theorem dX4_settle_132 : decode cX4_settle 132 = .ok (.aload_n 0, 1) := by decide +kernel
theorem dX4_settle_133 : decode cX4_settle 133 = .ok (.iload_n 1, 1) := by decide +kernel
theorem dX4_settle_134 : decode cX4_settle 134 = .ok (.invokevirtual 133, 3) := by decide +kernel
theorem dX4_settle_137 : decode cX4_settle 137 = .ok (.ifCond .eq 91, 3) := by decide +kernel
theorem dX4_settle_140 : decode cX4_settle 140 = .ok (.aload_n 0, 1) := by decide +kernel
theorem dX4_settle_141 : decode cX4_settle 141 = .ok (.getfield 43, 3) := by decide +kernel
theorem dX4_settle_144 : decode cX4_settle 144 = .ok (.iload_n 1, 1) := by decide +kernel
theorem dX4_settle_145 : decode cX4_settle 145 = .ok (.iaload, 1) := by decide +kernel
theorem dX4_settle_146 : decode cX4_settle 146 = .ok (.aload_n 0, 1) := by decide +kernel
theorem dX4_settle_147 : decode cX4_settle 147 = .ok (.getfield 37, 3) := by decide +kernel
theorem dX4_settle_150 : decode cX4_settle 150 = .ok (.iload_n 1, 1) := by decide +kernel
theorem dX4_settle_151 : decode cX4_settle 151 = .ok (.iaload, 1) := by decide +kernel
theorem dX4_settle_152 : decode cX4_settle 152 = .ok (.if_icmp .ge 76, 3) := by decide +kernel
theorem dX4_settle_155 : decode cX4_settle 155 = .ok (.aload_n 0, 1) := by decide +kernel
theorem dX4_settle_156 : decode cX4_settle 156 = .ok (.iload_n 2, 1) := by decide +kernel
theorem dX4_settle_157 : decode cX4_settle 157 = .ok (.invokevirtual 107, 3) := by decide +kernel
theorem dX4_settle_160 : decode cX4_settle 160 = .ok (.aload_n 0, 1) := by decide +kernel
theorem dX4_settle_161 : decode cX4_settle 161 = .ok (.getfield 46, 3) := by decide +kernel
theorem dX4_settle_164 : decode cX4_settle 164 = .ok (.iload_n 1, 1) := by decide +kernel
theorem dX4_settle_165 : decode cX4_settle 165 = .ok (.caload, 1) := by decide +kernel
theorem dX4_settle_166 : decode cX4_settle 166 = .ok (.if_icmp .ne 56, 3) := by decide +kernel
theorem dX4_settle_169 : decode cX4_settle 169 = .ok (.aload_n 0, 1) := by decide +kernel
theorem dX4_settle_170 : decode cX4_settle 170 = .ok (.iload_n 2, 1) := by decide +kernel
theorem dX4_settle_171 : decode cX4_settle 171 = .ok (.invokevirtual 151, 3) := by decide +kernel
theorem dX4_settle_174 : decode cX4_settle 174 = .ok (.ifCond .eq 48, 3) := by decide +kernel
theorem dX4_settle_177 : decode cX4_settle 177 = .ok (.aload_n 0, 1) := by decide +kernel
theorem dX4_settle_178 : decode cX4_settle 178 = .ok (.iload_n 1, 1) := by decide +kernel
theorem dX4_settle_179 : decode cX4_settle 179 = .ok (.aload_n 0, 1) := by decide +kernel
theorem dX4_settle_180 : decode cX4_settle 180 = .ok (.getfield 43, 3) := by decide +kernel
theorem dX4_settle_183 : decode cX4_settle 183 = .ok (.iload_n 1, 1) := by decide +kernel
theorem dX4_settle_184 : decode cX4_settle 184 = .ok (.iaload, 1) := by decide +kernel
theorem dX4_settle_185 : decode cX4_settle 185 = .ok (.iload_n 2, 1) := by decide +kernel
theorem dX4_settle_186 : decode cX4_settle 186 = .ok (.invokevirtual 154, 3) := by decide +kernel
theorem dX4_settle_189 : decode cX4_settle 189 = .ok (.ifCond .eq 6, 3) := by decide +kernel
theorem dX4_settle_192 : decode cX4_settle 192 = .ok (.goto 30, 3) := by decide +kernel
theorem dX4_settle_195 : decode cX4_settle 195 = .ok (.aload_n 0, 1) := by decide +kernel
theorem dX4_settle_196 : decode cX4_settle 196 = .ok (.getfield 40, 3) := by decide +kernel
theorem dX4_settle_199 : decode cX4_settle 199 = .ok (.bipush 9, 2) := by decide +kernel
theorem dX4_settle_201 : decode cX4_settle 201 = .ok (.iload_n 1, 1) := by decide +kernel
theorem dX4_settle_202 : decode cX4_settle 202 = .ok (.imul, 1) := by decide +kernel
theorem dX4_settle_203 : decode cX4_settle 203 = .ok (.aload_n 0, 1) := by decide +kernel
theorem dX4_settle_204 : decode cX4_settle 204 = .ok (.getfield 43, 3) := by decide +kernel
theorem dX4_settle_207 : decode cX4_settle 207 = .ok (.iload_n 1, 1) := by decide +kernel
theorem dX4_settle_208 : decode cX4_settle 208 = .ok (.iaload, 1) := by decide +kernel
theorem dX4_settle_209 : decode cX4_settle 209 = .ok (.iadd, 1) := by decide +kernel
theorem dX4_settle_210 : decode cX4_settle 210 = .ok (.iload_n 2, 1) := by decide +kernel
theorem dX4_settle_211 : decode cX4_settle 211 = .ok (.iastore, 1) := by decide +kernel
theorem dX4_settle_212 : decode cX4_settle 212 = .ok (.aload_n 0, 1) := by decide +kernel
theorem dX4_settle_213 : decode cX4_settle 213 = .ok (.getfield 43, 3) := by decide +kernel
theorem dX4_settle_216 : decode cX4_settle 216 = .ok (.iload_n 1, 1) := by decide +kernel
theorem dX4_settle_217 : decode cX4_settle 217 = .ok (.dup2, 1) := by decide +kernel
theorem dX4_settle_218 : decode cX4_settle 218 = .ok (.iaload, 1) := by decide +kernel
theorem dX4_settle_219 : decode cX4_settle 219 = .ok (.iconst 1, 1) := by decide +kernel
theorem dX4_settle_220 : decode cX4_settle 220 = .ok (.iadd, 1) := by decide +kernel
theorem dX4_settle_221 : decode cX4_settle 221 = .ok (.iastore, 1) := by decide +kernel
theorem dX4_settle_222 : decode cX4_settle 222 = .ok (.iinc 2 1, 3) := by decide +kernel
theorem dX4_settle_225 : decode cX4_settle 225 = .ok (.goto (-101), 3) := by decide +kernel
theorem dX4_settle_228 : decode cX4_settle 228 = .ok (.iinc 1 1, 3) := by decide +kernel
theorem dX4_settle_231 : decode cX4_settle 231 = .ok (.goto (-117), 3) := by decide +kernel
theorem dX4_settle_234 : decode cX4_settle 234 = .ok (.return_, 1) := by decide +kernel
theorem dX4_isCandidate_0 : decode cX4_isCandidate 0 = .ok (.aload_n 0, 1) := by decide +kernel
theorem dX4_isCandidate_1 : decode cX4_isCandidate 1 = .ok (.iload_n 1, 1) := by decide +kernel
theorem dX4_isCandidate_2 : decode cX4_isCandidate 2 = .ok (.invokevirtual 107, 3) := by decide +kernel
theorem dX4_isCandidate_5 : decode cX4_isCandidate 5 = .ok (.iload_n 2, 1) := by decide +kernel
theorem dX4_isCandidate_6 : decode cX4_isCandidate 6 = .ok (.if_icmp .ne 15, 3) := by decide +kernel
theorem dX4_isCandidate_9 : decode cX4_isCandidate 9 = .ok (.aload_n 0, 1) := by decide +kernel
theorem dX4_isCandidate_10 : decode cX4_isCandidate 10 = .ok (.iload_n 1, 1) := by decide +kernel
theorem dX4_isCandidate_11 : decode cX4_isCandidate 11 = .ok (.invokevirtual 151, 3) := by decide +kernel
theorem dX4_isCandidate_14 : decode cX4_isCandidate 14 = .ok (.ifCond .eq 7, 3) := by decide +kernel
theorem dX4_isCandidate_17 : decode cX4_isCandidate 17 = .ok (.iconst 1, 1) := by decide +kernel
theorem dX4_isCandidate_18 : decode cX4_isCandidate 18 = .ok (.goto 4, 3) := by decide +kernel
theorem dX4_isCandidate_21 : decode cX4_isCandidate 21 = .ok (.iconst 0, 1) := by decide +kernel
theorem dX4_isCandidate_22 : decode cX4_isCandidate 22 = .ok (.istore 4, 2) := by decide +kernel
theorem dX4_isCandidate_24 : decode cX4_isCandidate 24 = .ok (.iconst 0, 1) := by decide +kernel
theorem dX4_isCandidate_25 : decode cX4_isCandidate 25 = .ok (.istore 5, 2) := by decide +kernel
theorem dX4_isCandidate_27 : decode cX4_isCandidate 27 = .ok (.iload 5, 2) := by decide +kernel
theorem dX4_isCandidate_29 : decode cX4_isCandidate 29 = .ok (.iload_n 3, 1) := by decide +kernel
theorem dX4_isCandidate_30 : decode cX4_isCandidate 30 = .ok (.if_icmp .ge 54, 3) := by decide +kernel
theorem dX4_isCandidate_33 : decode cX4_isCandidate 33 = .ok (.iload 4, 2) := by decide +kernel
theorem dX4_isCandidate_35 : decode cX4_isCandidate 35 = .ok (.ifCond .eq 49, 3) := by decide +kernel
theorem dX4_isCandidate_38 : decode cX4_isCandidate 38 = .ok (.aload_n 0, 1) := by decide +kernel
theorem dX4_isCandidate_39 : decode cX4_isCandidate 39 = .ok (.getfield 60, 3) := by decide +kernel
theorem dX4_isCandidate_42 : decode cX4_isCandidate 42 = .ok (.bipush 27, 2) := by decide +kernel
theorem dX4_isCandidate_44 : decode cX4_isCandidate 44 = .ok (.aload_n 0, 1) := by decide +kernel
theorem dX4_isCandidate_45 : decode cX4_isCandidate 45 = .ok (.getfield 86, 3) := by decide +kernel
theorem dX4_isCandidate_48 : decode cX4_isCandidate 48 = .ok (.imul, 1) := by decide +kernel
theorem dX4_isCandidate_49 : decode cX4_isCandidate 49 = .ok (.iload 5, 2) := by decide +kernel
theorem dX4_isCandidate_51 : decode cX4_isCandidate 51 = .ok (.iadd, 1) := by decide +kernel
theorem dX4_isCandidate_52 : decode cX4_isCandidate 52 = .ok (.iaload, 1) := by decide +kernel
theorem dX4_isCandidate_53 : decode cX4_isCandidate 53 = .ok (.istore 6, 2) := by decide +kernel
theorem dX4_isCandidate_55 : decode cX4_isCandidate 55 = .ok (.iload 6, 2) := by decide +kernel
theorem dX4_isCandidate_57 : decode cX4_isCandidate 57 = .ok (.iload_n 1, 1) := by decide +kernel
theorem dX4_isCandidate_58 : decode cX4_isCandidate 58 = .ok (.if_icmp .eq 17, 3) := by decide +kernel
theorem dX4_isCandidate_61 : decode cX4_isCandidate 61 = .ok (.aload_n 0, 1) := by decide +kernel
theorem dX4_isCandidate_62 : decode cX4_isCandidate 62 = .ok (.iload 6, 2) := by decide +kernel
theorem dX4_isCandidate_64 : decode cX4_isCandidate 64 = .ok (.iload_n 1, 1) := by decide +kernel
theorem dX4_isCandidate_65 : decode cX4_isCandidate 65 = .ok (.invokevirtual 99, 3) := by decide +kernel
theorem dX4_isCandidate_68 : decode cX4_isCandidate 68 = .ok (.ifCond .ne 7, 3) := by decide +kernel
theorem dX4_isCandidate_71 : decode cX4_isCandidate 71 = .ok (.iconst 1, 1) := by decide +kernel
theorem dX4_isCandidate_72 : decode cX4_isCandidate 72 = .ok (.goto 4, 3) := by decide +kernel
theorem dX4_isCandidate_75 : decode cX4_isCandidate 75 = .ok (.iconst 0, 1) := by decide +kernel
theorem dX4_isCandidate_76 : decode cX4_isCandidate 76 = .ok (.istore 4, 2) := by decide +kernel
theorem dX4_isCandidate_78 : decode cX4_isCandidate 78 = .ok (.iinc 5 1, 3) := by decide +kernel
theorem dX4_isCandidate_81 : decode cX4_isCandidate 81 = .ok (.goto (-54), 3) := by decide +kernel
theorem dX4_isCandidate_84 : decode cX4_isCandidate 84 = .ok (.iload 4, 2) := by decide +kernel
theorem dX4_isCandidate_86 : decode cX4_isCandidate 86 = .ok (.ireturn, 1) := by decide +kernel
theorem dX4_candidate_0 : decode cX4_candidate 0 = .ok (.iconst 0, 1) := by decide +kernel
theorem dX4_candidate_1 : decode cX4_candidate 1 = .ok (.istore 4, 2) := by decide +kernel
theorem dX4_candidate_3 : decode cX4_candidate 3 = .ok (.iconst 0, 1) := by decide +kernel
theorem dX4_candidate_4 : decode cX4_candidate 4 = .ok (.istore 5, 2) := by decide +kernel
theorem dX4_candidate_6 : decode cX4_candidate 6 = .ok (.iload 5, 2) := by decide +kernel
theorem dX4_candidate_8 : decode cX4_candidate 8 = .ok (.aload_n 0, 1) := by decide +kernel
theorem dX4_candidate_9 : decode cX4_candidate 9 = .ok (.getfield 76, 3) := by decide +kernel
theorem dX4_candidate_12 : decode cX4_candidate 12 = .ok (.if_icmp .ge 35, 3) := by decide +kernel
theorem dX4_candidate_15 : decode cX4_candidate 15 = .ok (.aload_n 0, 1) := by decide +kernel
theorem dX4_candidate_16 : decode cX4_candidate 16 = .ok (.iload 5, 2) := by decide +kernel
theorem dX4_candidate_18 : decode cX4_candidate 18 = .ok (.iload_n 2, 1) := by decide +kernel
theorem dX4_candidate_19 : decode cX4_candidate 19 = .ok (.iload_n 3, 1) := by decide +kernel
theorem dX4_candidate_20 : decode cX4_candidate 20 = .ok (.invokevirtual 157, 3) := by decide +kernel
theorem dX4_candidate_23 : decode cX4_candidate 23 = .ok (.ifCond .ne 6, 3) := by decide +kernel
theorem dX4_candidate_26 : decode cX4_candidate 26 = .ok (.goto 15, 3) := by decide +kernel
theorem dX4_candidate_29 : decode cX4_candidate 29 = .ok (.iload 4, 2) := by decide +kernel
theorem dX4_candidate_31 : decode cX4_candidate 31 = .ok (.iload_n 1, 1) := by decide +kernel
theorem dX4_candidate_32 : decode cX4_candidate 32 = .ok (.if_icmp .ne 6, 3) := by decide +kernel
theorem dX4_candidate_35 : decode cX4_candidate 35 = .ok (.iload 5, 2) := by decide +kernel
theorem dX4_candidate_37 : decode cX4_candidate 37 = .ok (.ireturn, 1) := by decide +kernel
theorem dX4_candidate_38 : decode cX4_candidate 38 = .ok (.iinc 4 1, 3) := by decide +kernel
theorem dX4_candidate_41 : decode cX4_candidate 41 = .ok (.iinc 5 1, 3) := by decide +kernel
theorem dX4_candidate_44 : decode cX4_candidate 44 = .ok (.goto (-38), 3) := by decide +kernel
theorem dX4_candidate_47 : decode cX4_candidate 47 = .ok (.iload_n 1, 1) := by decide +kernel
theorem dX4_candidate_48 : decode cX4_candidate 48 = .ok (.ifCond .ge 8, 3) := by decide +kernel
theorem dX4_candidate_51 : decode cX4_candidate 51 = .ok (.iload 4, 2) := by decide +kernel
theorem dX4_candidate_53 : decode cX4_candidate 53 = .ok (.goto 4, 3) := by decide +kernel
theorem dX4_candidate_56 : decode cX4_candidate 56 = .ok (.iconst (-1), 1) := by decide +kernel
theorem dX4_candidate_57 : decode cX4_candidate 57 = .ok (.ireturn, 1) := by decide +kernel
theorem dX4_quiz_0 : decode cX4_quiz 0 = .ok (.iload_n 1, 1) := by decide +kernel
theorem dX4_quiz_1 : decode cX4_quiz 1 = .ok (.iconst 0, 1) := by decide +kernel
theorem dX4_quiz_2 : decode cX4_quiz 2 = .ok (.sipush 1008, 3) := by decide +kernel
theorem dX4_quiz_5 : decode cX4_quiz 5 = .ok (.invokestatic 79, 3) := by decide +kernel
theorem dX4_quiz_8 : decode cX4_quiz 8 = .ok (.ifCond .eq 47, 3) := by decide +kernel
theorem dX4_quiz_11 : decode cX4_quiz 11 = .ok (.iload_n 2, 1) := by decide +kernel
theorem dX4_quiz_12 : decode cX4_quiz 12 = .ok (.iconst 0, 1) := by decide +kernel
theorem dX4_quiz_13 : decode cX4_quiz 13 = .ok (.bipush 9, 2) := by decide +kernel
theorem dX4_quiz_15 : decode cX4_quiz 15 = .ok (.invokestatic 79, 3) := by decide +kernel
theorem dX4_quiz_18 : decode cX4_quiz 18 = .ok (.ifCond .eq 37, 3) := by decide +kernel
theorem dX4_quiz_21 : decode cX4_quiz 21 = .ok (.iload_n 3, 1) := by decide +kernel
theorem dX4_quiz_22 : decode cX4_quiz 22 = .ok (.iconst 0, 1) := by decide +kernel
theorem dX4_quiz_23 : decode cX4_quiz 23 = .ok (.bipush 9, 2) := by decide +kernel
theorem dX4_quiz_25 : decode cX4_quiz 25 = .ok (.invokestatic 79, 3) := by decide +kernel
theorem dX4_quiz_28 : decode cX4_quiz 28 = .ok (.ifCond .eq 27, 3) := by decide +kernel
theorem dX4_quiz_31 : decode cX4_quiz 31 = .ok (.iload 4, 2) := by decide +kernel
theorem dX4_quiz_33 : decode cX4_quiz 33 = .ok (.iconst 0, 1) := by decide +kernel
theorem dX4_quiz_34 : decode cX4_quiz 34 = .ok (.bipush 9, 2) := by decide +kernel
theorem dX4_quiz_36 : decode cX4_quiz 36 = .ok (.invokestatic 79, 3) := by decide +kernel
theorem dX4_quiz_39 : decode cX4_quiz 39 = .ok (.ifCond .eq 16, 3) := by decide +kernel
theorem dX4_quiz_42 : decode cX4_quiz 42 = .ok (.iload_n 2, 1) := by decide +kernel
theorem dX4_quiz_43 : decode cX4_quiz 43 = .ok (.iload_n 3, 1) := by decide +kernel
theorem dX4_quiz_44 : decode cX4_quiz 44 = .ok (.iadd, 1) := by decide +kernel
theorem dX4_quiz_45 : decode cX4_quiz 45 = .ok (.iload 4, 2) := by decide +kernel
theorem dX4_quiz_47 : decode cX4_quiz 47 = .ok (.iadd, 1) := by decide +kernel
theorem dX4_quiz_48 : decode cX4_quiz 48 = .ok (.ifCond .le 7, 3) := by decide +kernel
theorem dX4_quiz_51 : decode cX4_quiz 51 = .ok (.iconst 1, 1) := by decide +kernel
theorem dX4_quiz_52 : decode cX4_quiz 52 = .ok (.goto 4, 3) := by decide +kernel
theorem dX4_quiz_55 : decode cX4_quiz 55 = .ok (.iconst 0, 1) := by decide +kernel
theorem dX4_quiz_56 : decode cX4_quiz 56 = .ok (.istore 5, 2) := by decide +kernel
theorem dX4_quiz_58 : decode cX4_quiz 58 = .ok (.aload_n 0, 1) := by decide +kernel
theorem dX4_quiz_59 : decode cX4_quiz 59 = .ok (.iload 5, 2) := by decide +kernel
theorem dX4_quiz_61 : decode cX4_quiz 61 = .ok (.ifCond .eq 7, 3) := by decide +kernel
theorem dX4_quiz_64 : decode cX4_quiz 64 = .ok (.iconst 0, 1) := by decide +kernel
theorem dX4_quiz_65 : decode cX4_quiz 65 = .ok (.goto 4, 3) := by decide +kernel
theorem dX4_quiz_68 : decode cX4_quiz 68 = .ok (.iconst 1, 1) := by decide +kernel
theorem dX4_quiz_69 : decode cX4_quiz 69 = .ok (.putfield 72, 3) := by decide +kernel
theorem dX4_quiz_72 : decode cX4_quiz 72 = .ok (.aload_n 0, 1) := by decide +kernel
theorem dX4_quiz_73 : decode cX4_quiz 73 = .ok (.getfield 72, 3) := by decide +kernel
theorem dX4_quiz_76 : decode cX4_quiz 76 = .ok (.ifCond .le 5, 3) := by decide +kernel
theorem dX4_quiz_79 : decode cX4_quiz 79 = .ok (.iconst 0, 1) := by decide +kernel
theorem dX4_quiz_80 : decode cX4_quiz 80 = .ok (.ireturn, 1) := by decide +kernel
theorem dX4_quiz_81 : decode cX4_quiz 81 = .ok (.aload_n 0, 1) := by decide +kernel
theorem dX4_quiz_82 : decode cX4_quiz 82 = .ok (.getfield 86, 3) := by decide +kernel
theorem dX4_quiz_85 : decode cX4_quiz 85 = .ok (.bipush 30, 2) := by decide +kernel
theorem dX4_quiz_87 : decode cX4_quiz 87 = .ok (.if_icmp .ne 26, 3) := by decide +kernel
theorem dX4_quiz_90 : decode cX4_quiz 90 = .ok (.aload_n 0, 1) := by decide +kernel
theorem dX4_quiz_91 : decode cX4_quiz 91 = .ok (.aload_n 0, 1) := by decide +kernel
theorem dX4_quiz_92 : decode cX4_quiz 92 = .ok (.iload_n 1, 1) := by decide +kernel
theorem dX4_quiz_93 : decode cX4_quiz 93 = .ok (.iload_n 2, 1) := by decide +kernel
theorem dX4_quiz_94 : decode cX4_quiz 94 = .ok (.iload_n 3, 1) := by decide +kernel
theorem dX4_quiz_95 : decode cX4_quiz 95 = .ok (.iload 4, 2) := by decide +kernel
theorem dX4_quiz_97 : decode cX4_quiz 97 = .ok (.invokevirtual 161, 3) := by decide +kernel
theorem dX4_quiz_100 : decode cX4_quiz 100 = .ok (.ifCond .eq 7, 3) := by decide +kernel
theorem dX4_quiz_103 : decode cX4_quiz 103 = .ok (.iconst 3, 1) := by decide +kernel
theorem dX4_quiz_104 : decode cX4_quiz 104 = .ok (.goto 4, 3) := by decide +kernel
theorem dX4_quiz_107 : decode cX4_quiz 107 = .ok (.iconst 2, 1) := by decide +kernel
theorem dX4_quiz_108 : decode cX4_quiz 108 = .ok (.putfield 72, 3) := by decide +kernel
theorem dX4_quiz_111 : decode cX4_quiz 111 = .ok (.iconst 0, 1) := by decide +kernel
theorem dX4_quiz_112 : decode cX4_quiz 112 = .ok (.ireturn, 1) := by decide +kernel
theorem dX4_quiz_113 : decode cX4_quiz 113 = .ok (.iload_n 1, 1) := by decide +kernel
theorem dX4_quiz_114 : decode cX4_quiz 114 = .ok (.istore 6, 2) := by decide +kernel
theorem dX4_quiz_116 : decode cX4_quiz 116 = .ok (.iconst 0, 1) := by decide +kernel
theorem dX4_quiz_117 : decode cX4_quiz 117 = .ok (.istore 7, 2) := by decide +kernel
theorem dX4_quiz_119 : decode cX4_quiz 119 = .ok (.iconst 0, 1) := by decide +kernel
theorem dX4_quiz_120 : decode cX4_quiz 120 = .ok (.istore 8, 2) := by decide +kernel
theorem dX4_quiz_122 : decode cX4_quiz 122 = .ok (.iload 8, 2) := by decide +kernel
theorem dX4_quiz_124 : decode cX4_quiz 124 = .ok (.iload_n 2, 1) := by decide +kernel
theorem dX4_quiz_125 : decode cX4_quiz 125 = .ok (.iload_n 3, 1) := by decide +kernel
theorem dX4_quiz_126 : decode cX4_quiz 126 = .ok (.iadd, 1) := by decide +kernel
theorem dX4_quiz_127 : decode cX4_quiz 127 = .ok (.iload 4, 2) := by decide +kernel
theorem dX4_quiz_129 : decode cX4_quiz 129 = .ok (.iadd, 1) := by decide +kernel
theorem dX4_quiz_130 : decode cX4_quiz 130 = .ok (.if_icmp .ge 103, 3) := by decide +kernel
theorem dX4_quiz_133 : decode cX4_quiz 133 = .ok (.iload 8, 2) := by decide +kernel
theorem dX4_quiz_135 : decode cX4_quiz 135 = .ok (.iload_n 2, 1) := by decide +kernel
theorem dX4_quiz_136 : decode cX4_quiz 136 = .ok (.if_icmp .ge 8, 3) := by decide +kernel
theorem dX4_quiz_139 : decode cX4_quiz 139 = .ok (.bipush 101, 2) := by decide +kernel
theorem dX4_quiz_141 : decode cX4_quiz 141 = .ok (.goto 18, 3) := by decide +kernel
theorem dX4_quiz_144 : decode cX4_quiz 144 = .ok (.iload 8, 2) := by decide +kernel
theorem dX4_quiz_146 : decode cX4_quiz 146 = .ok (.iload_n 2, 1) := by decide +kernel
theorem dX4_quiz_147 : decode cX4_quiz 147 = .ok (.iload_n 3, 1) := by decide +kernel
theorem dX4_quiz_148 : decode cX4_quiz 148 = .ok (.iadd, 1) := by decide +kernel
theorem dX4_quiz_149 : decode cX4_quiz 149 = .ok (.if_icmp .ge 8, 3) := by decide +kernel
theorem dX4_quiz_152 : decode cX4_quiz 152 = .ok (.bipush 109, 2) := by decide +kernel
theorem dX4_quiz_154 : decode cX4_quiz 154 = .ok (.goto 5, 3) := by decide +kernel
theorem dX4_quiz_157 : decode cX4_quiz 157 = .ok (.bipush 104, 2) := by decide +kernel
theorem dX4_quiz_159 : decode cX4_quiz 159 = .ok (.istore 9, 2) := by decide +kernel
theorem dX4_quiz_161 : decode cX4_quiz 161 = .ok (.aload_n 0, 1) := by decide +kernel
theorem dX4_quiz_162 : decode cX4_quiz 162 = .ok (.iconst (-1), 1) := by decide +kernel
theorem dX4_quiz_163 : decode cX4_quiz 163 = .ok (.iload 9, 2) := by decide +kernel
theorem dX4_quiz_165 : decode cX4_quiz 165 = .ok (.iload 7, 2) := by decide +kernel
theorem dX4_quiz_167 : decode cX4_quiz 167 = .ok (.invokevirtual 165, 3) := by decide +kernel
theorem dX4_quiz_170 : decode cX4_quiz 170 = .ok (.istore 10, 2) := by decide +kernel
theorem dX4_quiz_172 : decode cX4_quiz 172 = .ok (.iload 10, 2) := by decide +kernel
theorem dX4_quiz_174 : decode cX4_quiz 174 = .ok (.ifCond .ne 10, 3) := by decide +kernel
theorem dX4_quiz_177 : decode cX4_quiz 177 = .ok (.aload_n 0, 1) := by decide +kernel
theorem dX4_quiz_178 : decode cX4_quiz 178 = .ok (.iconst 2, 1) := by decide +kernel
theorem dX4_quiz_179 : decode cX4_quiz 179 = .ok (.putfield 72, 3) := by decide +kernel
theorem dX4_quiz_182 : decode cX4_quiz 182 = .ok (.iconst 0, 1) := by decide +kernel
theorem dX4_quiz_183 : decode cX4_quiz 183 = .ok (.ireturn, 1) := by decide +kernel
theorem dX4_quiz_184 : decode cX4_quiz 184 = .ok (.aload_n 0, 1) := by decide +kernel
theorem dX4_quiz_185 : decode cX4_quiz 185 = .ok (.getfield 60, 3) := by decide +kernel
theorem dX4_quiz_188 : decode cX4_quiz 188 = .ok (.bipush 27, 2) := by decide +kernel
theorem dX4_quiz_190 : decode cX4_quiz 190 = .ok (.aload_n 0, 1) := by decide +kernel
theorem dX4_quiz_191 : decode cX4_quiz 191 = .ok (.getfield 86, 3) := by decide +kernel
theorem dX4_quiz_194 : decode cX4_quiz 194 = .ok (.imul, 1) := by decide +kernel
theorem dX4_quiz_195 : decode cX4_quiz 195 = .ok (.iload 7, 2) := by decide +kernel
theorem dX4_quiz_197 : decode cX4_quiz 197 = .ok (.iadd, 1) := by decide +kernel
theorem dX4_quiz_198 : decode cX4_quiz 198 = .ok (.aload_n 0, 1) := by decide +kernel
theorem dX4_quiz_199 : decode cX4_quiz 199 = .ok (.iload 6, 2) := by decide +kernel
theorem dX4_quiz_201 : decode cX4_quiz 201 = .ok (.iload 10, 2) := by decide +kernel
theorem dX4_quiz_203 : decode cX4_quiz 203 = .ok (.irem, 1) := by decide +kernel
theorem dX4_quiz_204 : decode cX4_quiz 204 = .ok (.iload 9, 2) := by decide +kernel
theorem dX4_quiz_206 : decode cX4_quiz 206 = .ok (.iload 7, 2) := by decide +kernel
theorem dX4_quiz_208 : decode cX4_quiz 208 = .ok (.invokevirtual 165, 3) := by decide +kernel
theorem dX4_quiz_211 : decode cX4_quiz 211 = .ok (.iastore, 1) := by decide +kernel
theorem dX4_quiz_212 : decode cX4_quiz 212 = .ok (.iinc 7 1, 3) := by decide +kernel
theorem dX4_quiz_215 : decode cX4_quiz 215 = .ok (.iload 6, 2) := by decide +kernel
theorem dX4_quiz_217 : decode cX4_quiz 217 = .ok (.iconst 5, 1) := by decide +kernel
theorem dX4_quiz_218 : decode cX4_quiz 218 = .ok (.imul, 1) := by decide +kernel
theorem dX4_quiz_219 : decode cX4_quiz 219 = .ok (.iconst 3, 1) := by decide +kernel
theorem dX4_quiz_220 : decode cX4_quiz 220 = .ok (.iadd, 1) := by decide +kernel
theorem dX4_quiz_221 : decode cX4_quiz 221 = .ok (.sipush 1009, 3) := by decide +kernel
theorem dX4_quiz_224 : decode cX4_quiz 224 = .ok (.irem, 1) := by decide +kernel
theorem dX4_quiz_225 : decode cX4_quiz 225 = .ok (.istore 6, 2) := by decide +kernel
theorem dX4_quiz_227 : decode cX4_quiz 227 = .ok (.iinc 8 1, 3) := by decide +kernel
theorem dX4_quiz_230 : decode cX4_quiz 230 = .ok (.goto (-108), 3) := by decide +kernel
theorem dX4_quiz_233 : decode cX4_quiz 233 = .ok (.aload_n 0, 1) := by decide +kernel
theorem dX4_quiz_234 : decode cX4_quiz 234 = .ok (.iload 7, 2) := by decide +kernel
theorem dX4_quiz_236 : decode cX4_quiz 236 = .ok (.invokevirtual 169, 3) := by decide +kernel
theorem dX4_quiz_239 : decode cX4_quiz 239 = .ok (.aload_n 0, 1) := by decide +kernel
theorem dX4_quiz_240 : decode cX4_quiz 240 = .ok (.getfield 86, 3) := by decide +kernel
theorem dX4_quiz_243 : decode cX4_quiz 243 = .ok (.iconst 1, 1) := by decide +kernel
theorem dX4_quiz_244 : decode cX4_quiz 244 = .ok (.isub, 1) := by decide +kernel
theorem dX4_quiz_245 : decode cX4_quiz 245 = .ok (.ireturn, 1) := by decide +kernel
theorem dX4_isTrial_0 : decode cX4_isTrial 0 = .ok (.aload_n 0, 1) := by decide +kernel
theorem dX4_isTrial_1 : decode cX4_isTrial 1 = .ok (.iload_n 1, 1) := by decide +kernel
theorem dX4_isTrial_2 : decode cX4_isTrial 2 = .ok (.invokevirtual 107, 3) := by decide +kernel
theorem dX4_isTrial_5 : decode cX4_isTrial 5 = .ok (.iload_n 2, 1) := by decide +kernel
theorem dX4_isTrial_6 : decode cX4_isTrial 6 = .ok (.if_icmp .ne 15, 3) := by decide +kernel
theorem dX4_isTrial_9 : decode cX4_isTrial 9 = .ok (.aload_n 0, 1) := by decide +kernel
theorem dX4_isTrial_10 : decode cX4_isTrial 10 = .ok (.iload_n 1, 1) := by decide +kernel
theorem dX4_isTrial_11 : decode cX4_isTrial 11 = .ok (.invokevirtual 151, 3) := by decide +kernel
theorem dX4_isTrial_14 : decode cX4_isTrial 14 = .ok (.ifCond .eq 7, 3) := by decide +kernel
theorem dX4_isTrial_17 : decode cX4_isTrial 17 = .ok (.iconst 1, 1) := by decide +kernel
theorem dX4_isTrial_18 : decode cX4_isTrial 18 = .ok (.goto 4, 3) := by decide +kernel
theorem dX4_isTrial_21 : decode cX4_isTrial 21 = .ok (.iconst 0, 1) := by decide +kernel
theorem dX4_isTrial_22 : decode cX4_isTrial 22 = .ok (.istore 4, 2) := by decide +kernel
theorem dX4_isTrial_24 : decode cX4_isTrial 24 = .ok (.iconst 0, 1) := by decide +kernel
theorem dX4_isTrial_25 : decode cX4_isTrial 25 = .ok (.istore 5, 2) := by decide +kernel
theorem dX4_isTrial_27 : decode cX4_isTrial 27 = .ok (.iload 5, 2) := by decide +kernel
theorem dX4_isTrial_29 : decode cX4_isTrial 29 = .ok (.iload_n 3, 1) := by decide +kernel
theorem dX4_isTrial_30 : decode cX4_isTrial 30 = .ok (.if_icmp .ge 47, 3) := by decide +kernel
theorem dX4_isTrial_33 : decode cX4_isTrial 33 = .ok (.iload 4, 2) := by decide +kernel
theorem dX4_isTrial_35 : decode cX4_isTrial 35 = .ok (.ifCond .eq 42, 3) := by decide +kernel
theorem dX4_isTrial_38 : decode cX4_isTrial 38 = .ok (.aload_n 0, 1) := by decide +kernel
theorem dX4_isTrial_39 : decode cX4_isTrial 39 = .ok (.getfield 69, 3) := by decide +kernel
theorem dX4_isTrial_42 : decode cX4_isTrial 42 = .ok (.iload 5, 2) := by decide +kernel
theorem dX4_isTrial_44 : decode cX4_isTrial 44 = .ok (.iaload, 1) := by decide +kernel
theorem dX4_isTrial_45 : decode cX4_isTrial 45 = .ok (.iload_n 1, 1) := by decide +kernel
theorem dX4_isTrial_46 : decode cX4_isTrial 46 = .ok (.if_icmp .eq 22, 3) := by decide +kernel
theorem dX4_isTrial_49 : decode cX4_isTrial 49 = .ok (.aload_n 0, 1) := by decide +kernel
theorem dX4_isTrial_50 : decode cX4_isTrial 50 = .ok (.aload_n 0, 1) := by decide +kernel
theorem dX4_isTrial_51 : decode cX4_isTrial 51 = .ok (.getfield 69, 3) := by decide +kernel
theorem dX4_isTrial_54 : decode cX4_isTrial 54 = .ok (.iload 5, 2) := by decide +kernel
theorem dX4_isTrial_56 : decode cX4_isTrial 56 = .ok (.iaload, 1) := by decide +kernel
theorem dX4_isTrial_57 : decode cX4_isTrial 57 = .ok (.iload_n 1, 1) := by decide +kernel
theorem dX4_isTrial_58 : decode cX4_isTrial 58 = .ok (.invokevirtual 99, 3) := by decide +kernel
theorem dX4_isTrial_61 : decode cX4_isTrial 61 = .ok (.ifCond .ne 7, 3) := by decide +kernel
theorem dX4_isTrial_64 : decode cX4_isTrial 64 = .ok (.iconst 1, 1) := by decide +kernel
theorem dX4_isTrial_65 : decode cX4_isTrial 65 = .ok (.goto 4, 3) := by decide +kernel
theorem dX4_isTrial_68 : decode cX4_isTrial 68 = .ok (.iconst 0, 1) := by decide +kernel
theorem dX4_isTrial_69 : decode cX4_isTrial 69 = .ok (.istore 4, 2) := by decide +kernel
theorem dX4_isTrial_71 : decode cX4_isTrial 71 = .ok (.iinc 5 1, 3) := by decide +kernel
theorem dX4_isTrial_74 : decode cX4_isTrial 74 = .ok (.goto (-47), 3) := by decide +kernel
theorem dX4_isTrial_77 : decode cX4_isTrial 77 = .ok (.iload 4, 2) := by decide +kernel
theorem dX4_isTrial_79 : decode cX4_isTrial 79 = .ok (.ireturn, 1) := by decide +kernel
theorem dX4_canDraw_0 : decode cX4_canDraw 0 = .ok (.iload_n 1, 1) := by decide +kernel
theorem dX4_canDraw_1 : decode cX4_canDraw 1 = .ok (.istore 5, 2) := by decide +kernel
theorem dX4_canDraw_3 : decode cX4_canDraw 3 = .ok (.iconst 0, 1) := by decide +kernel
theorem dX4_canDraw_4 : decode cX4_canDraw 4 = .ok (.istore 6, 2) := by decide +kernel
theorem dX4_canDraw_6 : decode cX4_canDraw 6 = .ok (.iload 6, 2) := by decide +kernel
theorem dX4_canDraw_8 : decode cX4_canDraw 8 = .ok (.iload_n 2, 1) := by decide +kernel
theorem dX4_canDraw_9 : decode cX4_canDraw 9 = .ok (.iload_n 3, 1) := by decide +kernel
theorem dX4_canDraw_10 : decode cX4_canDraw 10 = .ok (.iadd, 1) := by decide +kernel
theorem dX4_canDraw_11 : decode cX4_canDraw 11 = .ok (.iload 4, 2) := by decide +kernel
theorem dX4_canDraw_13 : decode cX4_canDraw 13 = .ok (.iadd, 1) := by decide +kernel
theorem dX4_canDraw_14 : decode cX4_canDraw 14 = .ok (.if_icmp .ge 175, 3) := by decide +kernel
theorem dX4_canDraw_17 : decode cX4_canDraw 17 = .ok (.iload 6, 2) := by decide +kernel
theorem dX4_canDraw_19 : decode cX4_canDraw 19 = .ok (.iload_n 2, 1) := by decide +kernel
theorem dX4_canDraw_20 : decode cX4_canDraw 20 = .ok (.if_icmp .ge 8, 3) := by decide +kernel
theorem dX4_canDraw_23 : decode cX4_canDraw 23 = .ok (.bipush 101, 2) := by decide +kernel
theorem dX4_canDraw_25 : decode cX4_canDraw 25 = .ok (.goto 18, 3) := by decide +kernel
theorem dX4_canDraw_28 : decode cX4_canDraw 28 = .ok (.iload 6, 2) := by decide +kernel
theorem dX4_canDraw_30 : decode cX4_canDraw 30 = .ok (.iload_n 2, 1) := by decide +kernel
theorem dX4_canDraw_31 : decode cX4_canDraw 31 = .ok (.iload_n 3, 1) := by decide +kernel
theorem dX4_canDraw_32 : decode cX4_canDraw 32 = .ok (.iadd, 1) := by decide +kernel
theorem dX4_canDraw_33 : decode cX4_canDraw 33 = .ok (.if_icmp .ge 8, 3) := by decide +kernel
theorem dX4_canDraw_36 : decode cX4_canDraw 36 = .ok (.bipush 109, 2) := by decide +kernel
theorem dX4_canDraw_38 : decode cX4_canDraw 38 = .ok (.goto 5, 3) := by decide +kernel
theorem dX4_canDraw_41 : decode cX4_canDraw 41 = .ok (.bipush 104, 2) := by decide +kernel
theorem dX4_canDraw_43 : decode cX4_canDraw 43 = .ok (.istore 7, 2) := by decide +kernel
theorem dX4_canDraw_45 : decode cX4_canDraw 45 = .ok (.iconst 0, 1) := by decide +kernel
theorem dX4_canDraw_46 : decode cX4_canDraw 46 = .ok (.istore 8, 2) := by decide +kernel
theorem dX4_canDraw_48 : decode cX4_canDraw 48 = .ok (.iconst 0, 1) := by decide +kernel
theorem dX4_canDraw_49 : decode cX4_canDraw 49 = .ok (.istore 9, 2) := by decide +kernel
theorem dX4_canDraw_51 : decode cX4_canDraw 51 = .ok (.iload 9, 2) := by decide +kernel
theorem dX4_canDraw_53 : decode cX4_canDraw 53 = .ok (.aload_n 0, 1) := by decide +kernel
theorem dX4_canDraw_54 : decode cX4_canDraw 54 = .ok (.getfield 76, 3) := by decide +kernel
theorem dX4_canDraw_57 : decode cX4_canDraw 57 = .ok (.if_icmp .ge 32, 3) := by decide +kernel
theorem dX4_canDraw_60 : decode cX4_canDraw 60 = .ok (.iload 8, 2) := by decide +kernel
theorem dX4_canDraw_62 : decode cX4_canDraw 62 = .ok (.aload_n 0, 1) := by decide +kernel
theorem dX4_canDraw_63 : decode cX4_canDraw 63 = .ok (.iload 9, 2) := by decide +kernel
theorem dX4_canDraw_65 : decode cX4_canDraw 65 = .ok (.iload 7, 2) := by decide +kernel
theorem dX4_canDraw_67 : decode cX4_canDraw 67 = .ok (.iload 6, 2) := by decide +kernel
theorem dX4_canDraw_69 : decode cX4_canDraw 69 = .ok (.invokevirtual 173, 3) := by decide +kernel
theorem dX4_canDraw_72 : decode cX4_canDraw 72 = .ok (.ifCond .eq 7, 3) := by decide +kernel
theorem dX4_canDraw_75 : decode cX4_canDraw 75 = .ok (.iconst 1, 1) := by decide +kernel
theorem dX4_canDraw_76 : decode cX4_canDraw 76 = .ok (.goto 4, 3) := by decide +kernel
theorem dX4_canDraw_79 : decode cX4_canDraw 79 = .ok (.iconst 0, 1) := by decide +kernel
theorem dX4_canDraw_80 : decode cX4_canDraw 80 = .ok (.iadd, 1) := by decide +kernel
theorem dX4_canDraw_81 : decode cX4_canDraw 81 = .ok (.istore 8, 2) := by decide +kernel
theorem dX4_canDraw_83 : decode cX4_canDraw 83 = .ok (.iinc 9 1, 3) := by decide +kernel
theorem dX4_canDraw_86 : decode cX4_canDraw 86 = .ok (.goto (-35), 3) := by decide +kernel
theorem dX4_canDraw_89 : decode cX4_canDraw 89 = .ok (.iload 8, 2) := by decide +kernel
theorem dX4_canDraw_91 : decode cX4_canDraw 91 = .ok (.ifCond .ne 5, 3) := by decide +kernel
theorem dX4_canDraw_94 : decode cX4_canDraw 94 = .ok (.iconst 0, 1) := by decide +kernel
theorem dX4_canDraw_95 : decode cX4_canDraw 95 = .ok (.ireturn, 1) := by decide +kernel
theorem dX4_canDraw_96 : decode cX4_canDraw 96 = .ok (.iload 5, 2) := by decide +kernel
theorem dX4_canDraw_98 : decode cX4_canDraw 98 = .ok (.iload 8, 2) := by decide +kernel
theorem dX4_canDraw_100 : decode cX4_canDraw 100 = .ok (.irem, 1) := by decide +kernel
theorem dX4_canDraw_101 : decode cX4_canDraw 101 = .ok (.istore 9, 2) := by decide +kernel
theorem dX4_canDraw_103 : decode cX4_canDraw 103 = .ok (.iconst (-1), 1) := by decide +kernel
theorem dX4_canDraw_104 : decode cX4_canDraw 104 = .ok (.istore 10, 2) := by decide +kernel
theorem dX4_canDraw_106 : decode cX4_canDraw 106 = .ok (.iconst 0, 1) := by decide +kernel
theorem dX4_canDraw_107 : decode cX4_canDraw 107 = .ok (.istore 11, 2) := by decide +kernel
theorem dX4_canDraw_109 : decode cX4_canDraw 109 = .ok (.iload 11, 2) := by decide +kernel
theorem dX4_canDraw_111 : decode cX4_canDraw 111 = .ok (.aload_n 0, 1) := by decide +kernel
theorem dX4_canDraw_112 : decode cX4_canDraw 112 = .ok (.getfield 76, 3) := by decide +kernel
theorem dX4_canDraw_115 : decode cX4_canDraw 115 = .ok (.if_icmp .ge 47, 3) := by decide +kernel
theorem dX4_canDraw_118 : decode cX4_canDraw 118 = .ok (.iload 10, 2) := by decide +kernel
theorem dX4_canDraw_120 : decode cX4_canDraw 120 = .ok (.iconst (-1), 1) := by decide +kernel
theorem dX4_canDraw_121 : decode cX4_canDraw 121 = .ok (.if_icmp .ne 41, 3) := by decide +kernel
theorem dX4_canDraw_124 : decode cX4_canDraw 124 = .ok (.aload_n 0, 1) := by decide +kernel
theorem dX4_canDraw_125 : decode cX4_canDraw 125 = .ok (.iload 11, 2) := by decide +kernel
theorem dX4_canDraw_127 : decode cX4_canDraw 127 = .ok (.iload 7, 2) := by decide +kernel
theorem dX4_canDraw_129 : decode cX4_canDraw 129 = .ok (.iload 6, 2) := by decide +kernel
theorem dX4_canDraw_131 : decode cX4_canDraw 131 = .ok (.invokevirtual 173, 3) := by decide +kernel
theorem dX4_canDraw_134 : decode cX4_canDraw 134 = .ok (.ifCond .ne 6, 3) := by decide +kernel
theorem dX4_canDraw_137 : decode cX4_canDraw 137 = .ok (.goto 19, 3) := by decide +kernel
theorem dX4_canDraw_140 : decode cX4_canDraw 140 = .ok (.iload 9, 2) := by decide +kernel
theorem dX4_canDraw_142 : decode cX4_canDraw 142 = .ok (.ifCond .ne 8, 3) := by decide +kernel
theorem dX4_canDraw_145 : decode cX4_canDraw 145 = .ok (.iload 11, 2) := by decide +kernel
theorem dX4_canDraw_147 : decode cX4_canDraw 147 = .ok (.goto 4, 3) := by decide +kernel
theorem dX4_canDraw_150 : decode cX4_canDraw 150 = .ok (.iconst (-1), 1) := by decide +kernel
theorem dX4_canDraw_151 : decode cX4_canDraw 151 = .ok (.istore 10, 2) := by decide +kernel
theorem dX4_canDraw_153 : decode cX4_canDraw 153 = .ok (.iinc 9 (-1), 3) := by decide +kernel
theorem dX4_canDraw_156 : decode cX4_canDraw 156 = .ok (.iinc 11 1, 3) := by decide +kernel
theorem dX4_canDraw_159 : decode cX4_canDraw 159 = .ok (.goto (-50), 3) := by decide +kernel
theorem dX4_canDraw_162 : decode cX4_canDraw 162 = .ok (.aload_n 0, 1) := by decide +kernel
theorem dX4_canDraw_163 : decode cX4_canDraw 163 = .ok (.getfield 69, 3) := by decide +kernel
theorem dX4_canDraw_166 : decode cX4_canDraw 166 = .ok (.iload 6, 2) := by decide +kernel
theorem dX4_canDraw_168 : decode cX4_canDraw 168 = .ok (.iload 10, 2) := by decide +kernel
theorem dX4_canDraw_170 : decode cX4_canDraw 170 = .ok (.iastore, 1) := by decide +kernel
theorem dX4_canDraw_171 : decode cX4_canDraw 171 = .ok (.iload 5, 2) := by decide +kernel
theorem dX4_canDraw_173 : decode cX4_canDraw 173 = .ok (.iconst 5, 1) := by decide +kernel
theorem dX4_canDraw_174 : decode cX4_canDraw 174 = .ok (.imul, 1) := by decide +kernel
theorem dX4_canDraw_175 : decode cX4_canDraw 175 = .ok (.iconst 3, 1) := by decide +kernel
theorem dX4_canDraw_176 : decode cX4_canDraw 176 = .ok (.iadd, 1) := by decide +kernel
theorem dX4_canDraw_177 : decode cX4_canDraw 177 = .ok (.sipush 1009, 3) := by decide +kernel
theorem dX4_canDraw_180 : decode cX4_canDraw 180 = .ok (.irem, 1) := by decide +kernel
theorem dX4_canDraw_181 : decode cX4_canDraw 181 = .ok (.istore 5, 2) := by decide +kernel
theorem dX4_canDraw_183 : decode cX4_canDraw 183 = .ok (.iinc 6 1, 3) := by decide +kernel
theorem dX4_canDraw_186 : decode cX4_canDraw 186 = .ok (.goto (-180), 3) := by decide +kernel
theorem dX4_canDraw_189 : decode cX4_canDraw 189 = .ok (.iconst 1, 1) := by decide +kernel
theorem dX4_canDraw_190 : decode cX4_canDraw 190 = .ok (.ireturn, 1) := by decide +kernel
theorem dX4_made_0 : decode cX4_made 0 = .ok (.aload_n 0, 1) := by decide +kernel
theorem dX4_made_1 : decode cX4_made 1 = .ok (.getfield 63, 3) := by decide +kernel
theorem dX4_made_4 : decode cX4_made 4 = .ok (.aload_n 0, 1) := by decide +kernel
theorem dX4_made_5 : decode cX4_made 5 = .ok (.getfield 86, 3) := by decide +kernel
theorem dX4_made_8 : decode cX4_made 8 = .ok (.iload_n 1, 1) := by decide +kernel
theorem dX4_made_9 : decode cX4_made 9 = .ok (.iastore, 1) := by decide +kernel
theorem dX4_made_10 : decode cX4_made 10 = .ok (.aload_n 0, 1) := by decide +kernel
theorem dX4_made_11 : decode cX4_made 11 = .ok (.getfield 50, 3) := by decide +kernel
theorem dX4_made_14 : decode cX4_made 14 = .ok (.aload_n 0, 1) := by decide +kernel
theorem dX4_made_15 : decode cX4_made 15 = .ok (.getfield 86, 3) := by decide +kernel
theorem dX4_made_18 : decode cX4_made 18 = .ok (.bipush 115, 2) := by decide +kernel
theorem dX4_made_20 : decode cX4_made 20 = .ok (.castore, 1) := by decide +kernel
theorem dX4_made_21 : decode cX4_made 21 = .ok (.aload_n 0, 1) := by decide +kernel
theorem dX4_made_22 : decode cX4_made 22 = .ok (.dup, 1) := by decide +kernel
theorem dX4_made_23 : decode cX4_made 23 = .ok (.getfield 86, 3) := by decide +kernel
theorem dX4_made_26 : decode cX4_made 26 = .ok (.iconst 1, 1) := by decide +kernel
theorem dX4_made_27 : decode cX4_made 27 = .ok (.iadd, 1) := by decide +kernel
theorem dX4_made_28 : decode cX4_made 28 = .ok (.putfield 86, 3) := by decide +kernel
theorem dX4_made_31 : decode cX4_made 31 = .ok (.aload_n 0, 1) := by decide +kernel
theorem dX4_made_32 : decode cX4_made 32 = .ok (.invokevirtual 92, 3) := by decide +kernel
theorem dX4_made_35 : decode cX4_made 35 = .ok (.return_, 1) := by decide +kernel
theorem dX4_quizOf_0 : decode cX4_quizOf 0 = .ok (.aload_n 0, 1) := by decide +kernel
theorem dX4_quizOf_1 : decode cX4_quizOf 1 = .ok (.aload_n 0, 1) := by decide +kernel
theorem dX4_quizOf_2 : decode cX4_quizOf 2 = .ok (.iload_n 1, 1) := by decide +kernel
theorem dX4_quizOf_3 : decode cX4_quizOf 3 = .ok (.invokevirtual 136, 3) := by decide +kernel
theorem dX4_quizOf_6 : decode cX4_quizOf 6 = .ok (.ifCond .ne 7, 3) := by decide +kernel
theorem dX4_quizOf_9 : decode cX4_quizOf 9 = .ok (.iconst 1, 1) := by decide +kernel
theorem dX4_quizOf_10 : decode cX4_quizOf 10 = .ok (.goto 52, 3) := by decide +kernel
theorem dX4_quizOf_13 : decode cX4_quizOf 13 = .ok (.aload_n 0, 1) := by decide +kernel
theorem dX4_quizOf_14 : decode cX4_quizOf 14 = .ok (.getfield 53, 3) := by decide +kernel
theorem dX4_quizOf_17 : decode cX4_quizOf 17 = .ok (.iload_n 1, 1) := by decide +kernel
theorem dX4_quizOf_18 : decode cX4_quizOf 18 = .ok (.baload, 1) := by decide +kernel
theorem dX4_quizOf_19 : decode cX4_quizOf 19 = .ok (.ifCond .ne 25, 3) := by decide +kernel
theorem dX4_quizOf_22 : decode cX4_quizOf 22 = .ok (.aload_n 0, 1) := by decide +kernel
theorem dX4_quizOf_23 : decode cX4_quizOf 23 = .ok (.getfield 34, 3) := by decide +kernel
theorem dX4_quizOf_26 : decode cX4_quizOf 26 = .ok (.iload_n 1, 1) := by decide +kernel
theorem dX4_quizOf_27 : decode cX4_quizOf 27 = .ok (.iaload, 1) := by decide +kernel
theorem dX4_quizOf_28 : decode cX4_quizOf 28 = .ok (.aload_n 0, 1) := by decide +kernel
theorem dX4_quizOf_29 : decode cX4_quizOf 29 = .ok (.getfield 123, 3) := by decide +kernel
theorem dX4_quizOf_32 : decode cX4_quizOf 32 = .ok (.if_icmp .ne 12, 3) := by decide +kernel
theorem dX4_quizOf_35 : decode cX4_quizOf 35 = .ok (.aload_n 0, 1) := by decide +kernel
theorem dX4_quizOf_36 : decode cX4_quizOf 36 = .ok (.getfield 43, 3) := by decide +kernel
theorem dX4_quizOf_39 : decode cX4_quizOf 39 = .ok (.iload_n 1, 1) := by decide +kernel
theorem dX4_quizOf_40 : decode cX4_quizOf 40 = .ok (.iaload, 1) := by decide +kernel
theorem dX4_quizOf_41 : decode cX4_quizOf 41 = .ok (.ifCond .ne 7, 3) := by decide +kernel
theorem dX4_quizOf_44 : decode cX4_quizOf 44 = .ok (.iconst 2, 1) := by decide +kernel
theorem dX4_quizOf_45 : decode cX4_quizOf 45 = .ok (.goto 17, 3) := by decide +kernel
theorem dX4_quizOf_48 : decode cX4_quizOf 48 = .ok (.aload_n 0, 1) := by decide +kernel
theorem dX4_quizOf_49 : decode cX4_quizOf 49 = .ok (.getfield 86, 3) := by decide +kernel
theorem dX4_quizOf_52 : decode cX4_quizOf 52 = .ok (.bipush 30, 2) := by decide +kernel
theorem dX4_quizOf_54 : decode cX4_quizOf 54 = .ok (.if_icmp .ne 7, 3) := by decide +kernel
theorem dX4_quizOf_57 : decode cX4_quizOf 57 = .ok (.iconst 3, 1) := by decide +kernel
theorem dX4_quizOf_58 : decode cX4_quizOf 58 = .ok (.goto 4, 3) := by decide +kernel
theorem dX4_quizOf_61 : decode cX4_quizOf 61 = .ok (.iconst 0, 1) := by decide +kernel
theorem dX4_quizOf_62 : decode cX4_quizOf 62 = .ok (.putfield 72, 3) := by decide +kernel
theorem dX4_quizOf_65 : decode cX4_quizOf 65 = .ok (.aload_n 0, 1) := by decide +kernel
theorem dX4_quizOf_66 : decode cX4_quizOf 66 = .ok (.getfield 72, 3) := by decide +kernel
theorem dX4_quizOf_69 : decode cX4_quizOf 69 = .ok (.ifCond .le 5, 3) := by decide +kernel
theorem dX4_quizOf_72 : decode cX4_quizOf 72 = .ok (.iconst 0, 1) := by decide +kernel
theorem dX4_quizOf_73 : decode cX4_quizOf 73 = .ok (.ireturn, 1) := by decide +kernel
theorem dX4_quizOf_74 : decode cX4_quizOf 74 = .ok (.aload_n 0, 1) := by decide +kernel
theorem dX4_quizOf_75 : decode cX4_quizOf 75 = .ok (.getfield 43, 3) := by decide +kernel
theorem dX4_quizOf_78 : decode cX4_quizOf 78 = .ok (.iload_n 1, 1) := by decide +kernel
theorem dX4_quizOf_79 : decode cX4_quizOf 79 = .ok (.iaload, 1) := by decide +kernel
theorem dX4_quizOf_80 : decode cX4_quizOf 80 = .ok (.istore_n 2, 1) := by decide +kernel
theorem dX4_quizOf_81 : decode cX4_quizOf 81 = .ok (.iconst 0, 1) := by decide +kernel
theorem dX4_quizOf_82 : decode cX4_quizOf 82 = .ok (.istore_n 3, 1) := by decide +kernel
theorem dX4_quizOf_83 : decode cX4_quizOf 83 = .ok (.iload_n 3, 1) := by decide +kernel
theorem dX4_quizOf_84 : decode cX4_quizOf 84 = .ok (.iload_n 2, 1) := by decide +kernel
theorem dX4_quizOf_85 : decode cX4_quizOf 85 = .ok (.if_icmp .ge 34, 3) := by decide +kernel
theorem dX4_quizOf_88 : decode cX4_quizOf 88 = .ok (.aload_n 0, 1) := by decide +kernel
theorem dX4_quizOf_89 : decode cX4_quizOf 89 = .ok (.getfield 60, 3) := by decide +kernel
theorem dX4_quizOf_92 : decode cX4_quizOf 92 = .ok (.bipush 27, 2) := by decide +kernel
theorem dX4_quizOf_94 : decode cX4_quizOf 94 = .ok (.aload_n 0, 1) := by decide +kernel
theorem dX4_quizOf_95 : decode cX4_quizOf 95 = .ok (.getfield 86, 3) := by decide +kernel
theorem dX4_quizOf_98 : decode cX4_quizOf 98 = .ok (.imul, 1) := by decide +kernel
theorem dX4_quizOf_99 : decode cX4_quizOf 99 = .ok (.iload_n 3, 1) := by decide +kernel
theorem dX4_quizOf_100 : decode cX4_quizOf 100 = .ok (.iadd, 1) := by decide +kernel
theorem dX4_quizOf_101 : decode cX4_quizOf 101 = .ok (.aload_n 0, 1) := by decide +kernel
theorem dX4_quizOf_102 : decode cX4_quizOf 102 = .ok (.getfield 40, 3) := by decide +kernel
theorem dX4_quizOf_105 : decode cX4_quizOf 105 = .ok (.bipush 9, 2) := by decide +kernel
theorem dX4_quizOf_107 : decode cX4_quizOf 107 = .ok (.iload_n 1, 1) := by decide +kernel
theorem dX4_quizOf_108 : decode cX4_quizOf 108 = .ok (.imul, 1) := by decide +kernel
theorem dX4_quizOf_109 : decode cX4_quizOf 109 = .ok (.iload_n 3, 1) := by decide +kernel
theorem dX4_quizOf_110 : decode cX4_quizOf 110 = .ok (.iadd, 1) := by decide +kernel
theorem dX4_quizOf_111 : decode cX4_quizOf 111 = .ok (.iaload, 1) := by decide +kernel
theorem dX4_quizOf_112 : decode cX4_quizOf 112 = .ok (.iastore, 1) := by decide +kernel
theorem dX4_quizOf_113 : decode cX4_quizOf 113 = .ok (.iinc 3 1, 3) := by decide +kernel
theorem dX4_quizOf_116 : decode cX4_quizOf 116 = .ok (.goto (-33), 3) := by decide +kernel
theorem dX4_quizOf_119 : decode cX4_quizOf 119 = .ok (.aload_n 0, 1) := by decide +kernel
theorem dX4_quizOf_120 : decode cX4_quizOf 120 = .ok (.getfield 53, 3) := by decide +kernel
theorem dX4_quizOf_123 : decode cX4_quizOf 123 = .ok (.iload_n 1, 1) := by decide +kernel
theorem dX4_quizOf_124 : decode cX4_quizOf 124 = .ok (.iconst 1, 1) := by decide +kernel
theorem dX4_quizOf_125 : decode cX4_quizOf 125 = .ok (.bastore, 1) := by decide +kernel
theorem dX4_quizOf_126 : decode cX4_quizOf 126 = .ok (.aload_n 0, 1) := by decide +kernel
theorem dX4_quizOf_127 : decode cX4_quizOf 127 = .ok (.iload_n 2, 1) := by decide +kernel
theorem dX4_quizOf_128 : decode cX4_quizOf 128 = .ok (.invokevirtual 169, 3) := by decide +kernel
theorem dX4_quizOf_131 : decode cX4_quizOf 131 = .ok (.aload_n 0, 1) := by decide +kernel
theorem dX4_quizOf_132 : decode cX4_quizOf 132 = .ok (.getfield 86, 3) := by decide +kernel
theorem dX4_quizOf_135 : decode cX4_quizOf 135 = .ok (.iconst 1, 1) := by decide +kernel
theorem dX4_quizOf_136 : decode cX4_quizOf 136 = .ok (.isub, 1) := by decide +kernel
theorem dX4_quizOf_137 : decode cX4_quizOf 137 = .ok (.ireturn, 1) := by decide +kernel
theorem dX4_wrongSheet_0 : decode cX4_wrongSheet 0 = .ok (.aload_n 0, 1) := by decide +kernel
theorem dX4_wrongSheet_1 : decode cX4_wrongSheet 1 = .ok (.aload_n 0, 1) := by decide +kernel
theorem dX4_wrongSheet_2 : decode cX4_wrongSheet 2 = .ok (.iload_n 1, 1) := by decide +kernel
theorem dX4_wrongSheet_3 : decode cX4_wrongSheet 3 = .ok (.invokevirtual 176, 3) := by decide +kernel
theorem dX4_wrongSheet_6 : decode cX4_wrongSheet 6 = .ok (.ifCond .eq 7, 3) := by decide +kernel
theorem dX4_wrongSheet_9 : decode cX4_wrongSheet 9 = .ok (.iconst 0, 1) := by decide +kernel
theorem dX4_wrongSheet_10 : decode cX4_wrongSheet 10 = .ok (.goto 4, 3) := by decide +kernel
theorem dX4_wrongSheet_13 : decode cX4_wrongSheet 13 = .ok (.iconst 1, 1) := by decide +kernel
theorem dX4_wrongSheet_14 : decode cX4_wrongSheet 14 = .ok (.putfield 72, 3) := by decide +kernel
theorem dX4_wrongSheet_17 : decode cX4_wrongSheet 17 = .ok (.aload_n 0, 1) := by decide +kernel
theorem dX4_wrongSheet_18 : decode cX4_wrongSheet 18 = .ok (.getfield 72, 3) := by decide +kernel
theorem dX4_wrongSheet_21 : decode cX4_wrongSheet 21 = .ok (.ireturn, 1) := by decide +kernel
theorem dX4_size_0 : decode cX4_size 0 = .ok (.aload_n 0, 1) := by decide +kernel
theorem dX4_size_1 : decode cX4_size 1 = .ok (.iload_n 1, 1) := by decide +kernel
theorem dX4_size_2 : decode cX4_size 2 = .ok (.invokevirtual 179, 3) := by decide +kernel
theorem dX4_size_5 : decode cX4_size 5 = .ok (.ifCond .le 7, 3) := by decide +kernel
theorem dX4_size_8 : decode cX4_size 8 = .ok (.iconst 0, 1) := by decide +kernel
theorem dX4_size_9 : decode cX4_size 9 = .ok (.goto 9, 3) := by decide +kernel
theorem dX4_size_12 : decode cX4_size 12 = .ok (.aload_n 0, 1) := by decide +kernel
theorem dX4_size_13 : decode cX4_size 13 = .ok (.getfield 63, 3) := by decide +kernel
theorem dX4_size_16 : decode cX4_size 16 = .ok (.iload_n 1, 1) := by decide +kernel
theorem dX4_size_17 : decode cX4_size 17 = .ok (.iaload, 1) := by decide +kernel
theorem dX4_size_18 : decode cX4_size 18 = .ok (.ireturn, 1) := by decide +kernel
theorem dX4_questionAt_0 : decode cX4_questionAt 0 = .ok (.aload_n 0, 1) := by decide +kernel
theorem dX4_questionAt_1 : decode cX4_questionAt 1 = .ok (.iload_n 1, 1) := by decide +kernel
theorem dX4_questionAt_2 : decode cX4_questionAt 2 = .ok (.invokevirtual 179, 3) := by decide +kernel
theorem dX4_questionAt_5 : decode cX4_questionAt 5 = .ok (.ifCond .ne 24, 3) := by decide +kernel
theorem dX4_questionAt_8 : decode cX4_questionAt 8 = .ok (.iload_n 2, 1) := by decide +kernel
theorem dX4_questionAt_9 : decode cX4_questionAt 9 = .ok (.iconst 0, 1) := by decide +kernel
theorem dX4_questionAt_10 : decode cX4_questionAt 10 = .ok (.aload_n 0, 1) := by decide +kernel
theorem dX4_questionAt_11 : decode cX4_questionAt 11 = .ok (.getfield 63, 3) := by decide +kernel
theorem dX4_questionAt_14 : decode cX4_questionAt 14 = .ok (.iload_n 1, 1) := by decide +kernel
theorem dX4_questionAt_15 : decode cX4_questionAt 15 = .ok (.iaload, 1) := by decide +kernel
theorem dX4_questionAt_16 : decode cX4_questionAt 16 = .ok (.iconst 1, 1) := by decide +kernel
theorem dX4_questionAt_17 : decode cX4_questionAt 17 = .ok (.isub, 1) := by decide +kernel
theorem dX4_questionAt_18 : decode cX4_questionAt 18 = .ok (.invokestatic 79, 3) := by decide +kernel
theorem dX4_questionAt_21 : decode cX4_questionAt 21 = .ok (.ifCond .ne 8, 3) := by decide +kernel
theorem dX4_questionAt_24 : decode cX4_questionAt 24 = .ok (.aload_n 0, 1) := by decide +kernel
theorem dX4_questionAt_25 : decode cX4_questionAt 25 = .ok (.iconst 2, 1) := by decide +kernel
theorem dX4_questionAt_26 : decode cX4_questionAt 26 = .ok (.putfield 72, 3) := by decide +kernel
theorem dX4_questionAt_29 : decode cX4_questionAt 29 = .ok (.aload_n 0, 1) := by decide +kernel
theorem dX4_questionAt_30 : decode cX4_questionAt 30 = .ok (.getfield 72, 3) := by decide +kernel
theorem dX4_questionAt_33 : decode cX4_questionAt 33 = .ok (.ifCond .le 7, 3) := by decide +kernel
theorem dX4_questionAt_36 : decode cX4_questionAt 36 = .ok (.iconst 0, 1) := by decide +kernel
theorem dX4_questionAt_37 : decode cX4_questionAt 37 = .ok (.goto 14, 3) := by decide +kernel
theorem dX4_questionAt_40 : decode cX4_questionAt 40 = .ok (.aload_n 0, 1) := by decide +kernel
theorem dX4_questionAt_41 : decode cX4_questionAt 41 = .ok (.getfield 60, 3) := by decide +kernel
theorem dX4_questionAt_44 : decode cX4_questionAt 44 = .ok (.bipush 27, 2) := by decide +kernel
theorem dX4_questionAt_46 : decode cX4_questionAt 46 = .ok (.iload_n 1, 1) := by decide +kernel
theorem dX4_questionAt_47 : decode cX4_questionAt 47 = .ok (.imul, 1) := by decide +kernel
theorem dX4_questionAt_48 : decode cX4_questionAt 48 = .ok (.iload_n 2, 1) := by decide +kernel
theorem dX4_questionAt_49 : decode cX4_questionAt 49 = .ok (.iadd, 1) := by decide +kernel
theorem dX4_questionAt_50 : decode cX4_questionAt 50 = .ok (.iaload, 1) := by decide +kernel
theorem dX4_questionAt_51 : decode cX4_questionAt 51 = .ok (.ireturn, 1) := by decide +kernel
theorem dX4_stateOf_0 : decode cX4_stateOf 0 = .ok (.aload_n 0, 1) := by decide +kernel
theorem dX4_stateOf_1 : decode cX4_stateOf 1 = .ok (.iload_n 1, 1) := by decide +kernel
theorem dX4_stateOf_2 : decode cX4_stateOf 2 = .ok (.invokevirtual 179, 3) := by decide +kernel
theorem dX4_stateOf_5 : decode cX4_stateOf 5 = .ok (.ifCond .le 8, 3) := by decide +kernel
theorem dX4_stateOf_8 : decode cX4_stateOf 8 = .ok (.bipush 32, 2) := by decide +kernel
theorem dX4_stateOf_10 : decode cX4_stateOf 10 = .ok (.goto 9, 3) := by decide +kernel
theorem dX4_stateOf_13 : decode cX4_stateOf 13 = .ok (.aload_n 0, 1) := by decide +kernel
theorem dX4_stateOf_14 : decode cX4_stateOf 14 = .ok (.getfield 50, 3) := by decide +kernel
theorem dX4_stateOf_17 : decode cX4_stateOf 17 = .ok (.iload_n 1, 1) := by decide +kernel
theorem dX4_stateOf_18 : decode cX4_stateOf 18 = .ok (.caload, 1) := by decide +kernel
theorem dX4_stateOf_19 : decode cX4_stateOf 19 = .ok (.ireturn, 1) := by decide +kernel
theorem dX4_waiting_0 : decode cX4_waiting 0 = .ok (.aload_n 0, 1) := by decide +kernel
theorem dX4_waiting_1 : decode cX4_waiting 1 = .ok (.iconst 0, 1) := by decide +kernel
theorem dX4_waiting_2 : decode cX4_waiting 2 = .ok (.putfield 72, 3) := by decide +kernel
theorem dX4_waiting_5 : decode cX4_waiting 5 = .ok (.iconst 0, 1) := by decide +kernel
theorem dX4_waiting_6 : decode cX4_waiting 6 = .ok (.istore_n 1, 1) := by decide +kernel
theorem dX4_waiting_7 : decode cX4_waiting 7 = .ok (.iconst 0, 1) := by decide +kernel
theorem dX4_waiting_8 : decode cX4_waiting 8 = .ok (.istore_n 2, 1) := by decide +kernel
theorem dX4_waiting_9 : decode cX4_waiting 9 = .ok (.iload_n 2, 1) := by decide +kernel
theorem dX4_waiting_10 : decode cX4_waiting 10 = .ok (.aload_n 0, 1) := by decide +kernel
theorem dX4_waiting_11 : decode cX4_waiting 11 = .ok (.getfield 86, 3) := by decide +kernel
theorem dX4_waiting_14 : decode cX4_waiting 14 = .ok (.if_icmp .ge 28, 3) := by decide +kernel
theorem dX4_waiting_17 : decode cX4_waiting 17 = .ok (.iload_n 1, 1) := by decide +kernel
theorem dX4_waiting_18 : decode cX4_waiting 18 = .ok (.aload_n 0, 1) := by decide +kernel
theorem dX4_waiting_19 : decode cX4_waiting 19 = .ok (.getfield 50, 3) := by decide +kernel
theorem dX4_waiting_22 : decode cX4_waiting 22 = .ok (.iload_n 2, 1) := by decide +kernel
theorem dX4_waiting_23 : decode cX4_waiting 23 = .ok (.caload, 1) := by decide +kernel
theorem dX4_waiting_24 : decode cX4_waiting 24 = .ok (.bipush 115, 2) := by decide +kernel
theorem dX4_waiting_26 : decode cX4_waiting 26 = .ok (.if_icmp .ne 7, 3) := by decide +kernel
theorem dX4_waiting_29 : decode cX4_waiting 29 = .ok (.iconst 1, 1) := by decide +kernel
theorem dX4_waiting_30 : decode cX4_waiting 30 = .ok (.goto 4, 3) := by decide +kernel
theorem dX4_waiting_33 : decode cX4_waiting 33 = .ok (.iconst 0, 1) := by decide +kernel
theorem dX4_waiting_34 : decode cX4_waiting 34 = .ok (.iadd, 1) := by decide +kernel
theorem dX4_waiting_35 : decode cX4_waiting 35 = .ok (.istore_n 1, 1) := by decide +kernel
theorem dX4_waiting_36 : decode cX4_waiting 36 = .ok (.iinc 2 1, 3) := by decide +kernel
theorem dX4_waiting_39 : decode cX4_waiting 39 = .ok (.goto (-30), 3) := by decide +kernel
theorem dX4_waiting_42 : decode cX4_waiting 42 = .ok (.iload_n 1, 1) := by decide +kernel
theorem dX4_waiting_43 : decode cX4_waiting 43 = .ok (.ireturn, 1) := by decide +kernel
theorem dX4_setJam_0 : decode cX4_setJam 0 = .ok (.aload_n 0, 1) := by decide +kernel
theorem dX4_setJam_1 : decode cX4_setJam 1 = .ok (.iconst 0, 1) := by decide +kernel
theorem dX4_setJam_2 : decode cX4_setJam 2 = .ok (.putfield 72, 3) := by decide +kernel
theorem dX4_setJam_5 : decode cX4_setJam 5 = .ok (.aload_n 0, 1) := by decide +kernel
theorem dX4_setJam_6 : decode cX4_setJam 6 = .ok (.getfield 182, 3) := by decide +kernel
theorem dX4_setJam_9 : decode cX4_setJam 9 = .ok (.istore_n 2, 1) := by decide +kernel
theorem dX4_setJam_10 : decode cX4_setJam 10 = .ok (.aload_n 0, 1) := by decide +kernel
theorem dX4_setJam_11 : decode cX4_setJam 11 = .ok (.iload_n 1, 1) := by decide +kernel
theorem dX4_setJam_12 : decode cX4_setJam 12 = .ok (.putfield 182, 3) := by decide +kernel
theorem dX4_setJam_15 : decode cX4_setJam 15 = .ok (.iload_n 2, 1) := by decide +kernel
theorem dX4_setJam_16 : decode cX4_setJam 16 = .ok (.ireturn, 1) := by decide +kernel
theorem dX4_print_0 : decode cX4_print 0 = .ok (.iconst 0, 1) := by decide +kernel
theorem dX4_print_1 : decode cX4_print 1 = .ok (.istore_n 1, 1) := by decide +kernel
theorem dX4_print_2 : decode cX4_print 2 = .ok (.iload_n 1, 1) := by decide +kernel
theorem dX4_print_3 : decode cX4_print 3 = .ok (.aload_n 0, 1) := by decide +kernel
theorem dX4_print_4 : decode cX4_print 4 = .ok (.getfield 86, 3) := by decide +kernel
theorem dX4_print_7 : decode cX4_print 7 = .ok (.if_icmp .ge 20, 3) := by decide +kernel
theorem dX4_print_10 : decode cX4_print 10 = .ok (.aload_n 0, 1) := by decide +kernel
theorem dX4_print_11 : decode cX4_print 11 = .ok (.getfield 50, 3) := by decide +kernel
theorem dX4_print_14 : decode cX4_print 14 = .ok (.iload_n 1, 1) := by decide +kernel
theorem dX4_print_15 : decode cX4_print 15 = .ok (.caload, 1) := by decide +kernel
theorem dX4_print_16 : decode cX4_print 16 = .ok (.bipush 115, 2) := by decide +kernel
theorem dX4_print_18 : decode cX4_print 18 = .ok (.if_icmp .eq 9, 3) := by decide +kernel
theorem dX4_print_21 : decode cX4_print 21 = .ok (.iinc 1 1, 3) := by decide +kernel
theorem dX4_print_24 : decode cX4_print 24 = .ok (.goto (-22), 3) := by decide +kernel
theorem dX4_print_27 : decode cX4_print 27 = .ok (.aload_n 0, 1) := by decide +kernel
theorem dX4_print_28 : decode cX4_print 28 = .ok (.aload_n 0, 1) := by decide +kernel
theorem dX4_print_29 : decode cX4_print 29 = .ok (.getfield 182, 3) := by decide +kernel
theorem dX4_print_32 : decode cX4_print 32 = .ok (.ifCond .eq 7, 3) := by decide +kernel
theorem dX4_print_35 : decode cX4_print 35 = .ok (.iconst 1, 1) := by decide +kernel
theorem dX4_print_36 : decode cX4_print 36 = .ok (.goto 16, 3) := by decide +kernel
theorem dX4_print_39 : decode cX4_print 39 = .ok (.iload_n 1, 1) := by decide +kernel
theorem dX4_print_40 : decode cX4_print 40 = .ok (.aload_n 0, 1) := by decide +kernel
theorem dX4_print_41 : decode cX4_print 41 = .ok (.getfield 86, 3) := by decide +kernel
theorem dX4_print_44 : decode cX4_print 44 = .ok (.if_icmp .ne 7, 3) := by decide +kernel
theorem dX4_print_47 : decode cX4_print 47 = .ok (.iconst 2, 1) := by decide +kernel
theorem dX4_print_48 : decode cX4_print 48 = .ok (.goto 4, 3) := by decide +kernel
theorem dX4_print_51 : decode cX4_print 51 = .ok (.iconst 0, 1) := by decide +kernel
theorem dX4_print_52 : decode cX4_print 52 = .ok (.putfield 72, 3) := by decide +kernel
theorem dX4_print_55 : decode cX4_print 55 = .ok (.aload_n 0, 1) := by decide +kernel
theorem dX4_print_56 : decode cX4_print 56 = .ok (.getfield 72, 3) := by decide +kernel
theorem dX4_print_59 : decode cX4_print 59 = .ok (.ifCond .le 5, 3) := by decide +kernel
theorem dX4_print_62 : decode cX4_print 62 = .ok (.iconst 0, 1) := by decide +kernel
theorem dX4_print_63 : decode cX4_print 63 = .ok (.ireturn, 1) := by decide +kernel
theorem dX4_print_64 : decode cX4_print 64 = .ok (.aload_n 0, 1) := by decide +kernel
theorem dX4_print_65 : decode cX4_print 65 = .ok (.getfield 50, 3) := by decide +kernel
theorem dX4_print_68 : decode cX4_print 68 = .ok (.iload_n 1, 1) := by decide +kernel
theorem dX4_print_69 : decode cX4_print 69 = .ok (.bipush 112, 2) := by decide +kernel
theorem dX4_print_71 : decode cX4_print 71 = .ok (.castore, 1) := by decide +kernel
theorem dX4_print_72 : decode cX4_print 72 = .ok (.iconst 0, 1) := by decide +kernel
theorem dX4_print_73 : decode cX4_print 73 = .ok (.istore_n 2, 1) := by decide +kernel
theorem dX4_print_74 : decode cX4_print 74 = .ok (.iload_n 2, 1) := by decide +kernel
theorem dX4_print_75 : decode cX4_print 75 = .ok (.aload_n 0, 1) := by decide +kernel
theorem dX4_print_76 : decode cX4_print 76 = .ok (.getfield 63, 3) := by decide +kernel
theorem dX4_print_79 : decode cX4_print 79 = .ok (.iload_n 1, 1) := by decide +kernel
theorem dX4_print_80 : decode cX4_print 80 = .ok (.iaload, 1) := by decide +kernel
theorem dX4_print_81 : decode cX4_print 81 = .ok (.if_icmp .ge 29, 3) := by decide +kernel
theorem dX4_print_84 : decode cX4_print 84 = .ok (.aload_n 0, 1) := by decide +kernel
theorem dX4_print_85 : decode cX4_print 85 = .ok (.getfield 25, 3) := by decide +kernel
theorem dX4_print_88 : decode cX4_print 88 = .ok (.aload_n 0, 1) := by decide +kernel
theorem dX4_print_89 : decode cX4_print 89 = .ok (.getfield 60, 3) := by decide +kernel
theorem dX4_print_92 : decode cX4_print 92 = .ok (.bipush 27, 2) := by decide +kernel
theorem dX4_print_94 : decode cX4_print 94 = .ok (.iload_n 1, 1) := by decide +kernel
theorem dX4_print_95 : decode cX4_print 95 = .ok (.imul, 1) := by decide +kernel
theorem dX4_print_96 : decode cX4_print 96 = .ok (.iload_n 2, 1) := by decide +kernel
theorem dX4_print_97 : decode cX4_print 97 = .ok (.iadd, 1) := by decide +kernel
theorem dX4_print_98 : decode cX4_print 98 = .ok (.iaload, 1) := by decide +kernel
theorem dX4_print_99 : decode cX4_print 99 = .ok (.aload_n 0, 1) := by decide +kernel
theorem dX4_print_100 : decode cX4_print 100 = .ok (.getfield 123, 3) := by decide +kernel
theorem dX4_print_103 : decode cX4_print 103 = .ok (.iastore, 1) := by decide +kernel
theorem dX4_print_104 : decode cX4_print 104 = .ok (.iinc 2 1, 3) := by decide +kernel
theorem dX4_print_107 : decode cX4_print 107 = .ok (.goto (-33), 3) := by decide +kernel
theorem dX4_print_110 : decode cX4_print 110 = .ok (.aload_n 0, 1) := by decide +kernel
theorem dX4_print_111 : decode cX4_print 111 = .ok (.invokevirtual 92, 3) := by decide +kernel
theorem dX4_print_114 : decode cX4_print 114 = .ok (.iload_n 1, 1) := by decide +kernel
theorem dX4_print_115 : decode cX4_print 115 = .ok (.ireturn, 1) := by decide +kernel
theorem dX4_cancel_0 : decode cX4_cancel 0 = .ok (.aload_n 0, 1) := by decide +kernel
theorem dX4_cancel_1 : decode cX4_cancel 1 = .ok (.iload_n 1, 1) := by decide +kernel
theorem dX4_cancel_2 : decode cX4_cancel 2 = .ok (.invokevirtual 179, 3) := by decide +kernel
theorem dX4_cancel_5 : decode cX4_cancel 5 = .ok (.ifCond .ne 19, 3) := by decide +kernel
theorem dX4_cancel_8 : decode cX4_cancel 8 = .ok (.aload_n 0, 1) := by decide +kernel
theorem dX4_cancel_9 : decode cX4_cancel 9 = .ok (.getfield 50, 3) := by decide +kernel
theorem dX4_cancel_12 : decode cX4_cancel 12 = .ok (.iload_n 1, 1) := by decide +kernel
theorem dX4_cancel_13 : decode cX4_cancel 13 = .ok (.caload, 1) := by decide +kernel
theorem dX4_cancel_14 : decode cX4_cancel 14 = .ok (.bipush 115, 2) := by decide +kernel
theorem dX4_cancel_16 : decode cX4_cancel 16 = .ok (.if_icmp .eq 8, 3) := by decide +kernel
theorem dX4_cancel_19 : decode cX4_cancel 19 = .ok (.aload_n 0, 1) := by decide +kernel
theorem dX4_cancel_20 : decode cX4_cancel 20 = .ok (.iconst 2, 1) := by decide +kernel
theorem dX4_cancel_21 : decode cX4_cancel 21 = .ok (.putfield 72, 3) := by decide +kernel
theorem dX4_cancel_24 : decode cX4_cancel 24 = .ok (.aload_n 0, 1) := by decide +kernel
theorem dX4_cancel_25 : decode cX4_cancel 25 = .ok (.getfield 72, 3) := by decide +kernel
theorem dX4_cancel_28 : decode cX4_cancel 28 = .ok (.ifCond .le 5, 3) := by decide +kernel
theorem dX4_cancel_31 : decode cX4_cancel 31 = .ok (.iconst 0, 1) := by decide +kernel
theorem dX4_cancel_32 : decode cX4_cancel 32 = .ok (.ireturn, 1) := by decide +kernel
theorem dX4_cancel_33 : decode cX4_cancel 33 = .ok (.aload_n 0, 1) := by decide +kernel
theorem dX4_cancel_34 : decode cX4_cancel 34 = .ok (.getfield 50, 3) := by decide +kernel
theorem dX4_cancel_37 : decode cX4_cancel 37 = .ok (.iload_n 1, 1) := by decide +kernel
theorem dX4_cancel_38 : decode cX4_cancel 38 = .ok (.bipush 99, 2) := by decide +kernel
theorem dX4_cancel_40 : decode cX4_cancel 40 = .ok (.castore, 1) := by decide +kernel
theorem dX4_cancel_41 : decode cX4_cancel 41 = .ok (.aload_n 0, 1) := by decide +kernel
theorem dX4_cancel_42 : decode cX4_cancel 42 = .ok (.invokevirtual 92, 3) := by decide +kernel
theorem dX4_cancel_45 : decode cX4_cancel 45 = .ok (.aload_n 0, 1) := by decide +kernel
theorem dX4_cancel_46 : decode cX4_cancel 46 = .ok (.getfield 63, 3) := by decide +kernel
theorem dX4_cancel_49 : decode cX4_cancel 49 = .ok (.iload_n 1, 1) := by decide +kernel
theorem dX4_cancel_50 : decode cX4_cancel 50 = .ok (.iaload, 1) := by decide +kernel
theorem dX4_cancel_51 : decode cX4_cancel 51 = .ok (.ireturn, 1) := by decide +kernel
theorem dX4_answer_0 : decode cX4_answer 0 = .ok (.aload_n 0, 1) := by decide +kernel
theorem dX4_answer_1 : decode cX4_answer 1 = .ok (.iload_n 1, 1) := by decide +kernel
theorem dX4_answer_2 : decode cX4_answer 2 = .ok (.invokevirtual 179, 3) := by decide +kernel
theorem dX4_answer_5 : decode cX4_answer 5 = .ok (.ifCond .ne 57, 3) := by decide +kernel
theorem dX4_answer_8 : decode cX4_answer 8 = .ok (.aload_n 0, 1) := by decide +kernel
theorem dX4_answer_9 : decode cX4_answer 9 = .ok (.aload_n 0, 1) := by decide +kernel
theorem dX4_answer_10 : decode cX4_answer 10 = .ok (.getfield 50, 3) := by decide +kernel
theorem dX4_answer_13 : decode cX4_answer 13 = .ok (.iload_n 1, 1) := by decide +kernel
theorem dX4_answer_14 : decode cX4_answer 14 = .ok (.caload, 1) := by decide +kernel
theorem dX4_answer_15 : decode cX4_answer 15 = .ok (.bipush 112, 2) := by decide +kernel
theorem dX4_answer_17 : decode cX4_answer 17 = .ok (.if_icmp .eq 7, 3) := by decide +kernel
theorem dX4_answer_20 : decode cX4_answer 20 = .ok (.iconst 2, 1) := by decide +kernel
theorem dX4_answer_21 : decode cX4_answer 21 = .ok (.goto 38, 3) := by decide +kernel
theorem dX4_answer_24 : decode cX4_answer 24 = .ok (.iload_n 2, 1) := by decide +kernel
theorem dX4_answer_25 : decode cX4_answer 25 = .ok (.iconst 0, 1) := by decide +kernel
theorem dX4_answer_26 : decode cX4_answer 26 = .ok (.aload_n 0, 1) := by decide +kernel
theorem dX4_answer_27 : decode cX4_answer 27 = .ok (.getfield 63, 3) := by decide +kernel
theorem dX4_answer_30 : decode cX4_answer 30 = .ok (.iload_n 1, 1) := by decide +kernel
theorem dX4_answer_31 : decode cX4_answer 31 = .ok (.iaload, 1) := by decide +kernel
theorem dX4_answer_32 : decode cX4_answer 32 = .ok (.iconst 1, 1) := by decide +kernel
theorem dX4_answer_33 : decode cX4_answer 33 = .ok (.isub, 1) := by decide +kernel
theorem dX4_answer_34 : decode cX4_answer 34 = .ok (.invokestatic 79, 3) := by decide +kernel
theorem dX4_answer_37 : decode cX4_answer 37 = .ok (.ifCond .eq 17, 3) := by decide +kernel
theorem dX4_answer_40 : decode cX4_answer 40 = .ok (.aload_n 0, 1) := by decide +kernel
theorem dX4_answer_41 : decode cX4_answer 41 = .ok (.getfield 57, 3) := by decide +kernel
theorem dX4_answer_44 : decode cX4_answer 44 = .ok (.bipush 27, 2) := by decide +kernel
theorem dX4_answer_46 : decode cX4_answer 46 = .ok (.iload_n 1, 1) := by decide +kernel
theorem dX4_answer_47 : decode cX4_answer 47 = .ok (.imul, 1) := by decide +kernel
theorem dX4_answer_48 : decode cX4_answer 48 = .ok (.iload_n 2, 1) := by decide +kernel
theorem dX4_answer_49 : decode cX4_answer 49 = .ok (.iadd, 1) := by decide +kernel
theorem dX4_answer_50 : decode cX4_answer 50 = .ok (.baload, 1) := by decide +kernel
theorem dX4_answer_51 : decode cX4_answer 51 = .ok (.ifCond .eq 7, 3) := by decide +kernel
theorem dX4_answer_54 : decode cX4_answer 54 = .ok (.iconst 3, 1) := by decide +kernel
theorem dX4_answer_55 : decode cX4_answer 55 = .ok (.goto 4, 3) := by decide +kernel
theorem dX4_answer_58 : decode cX4_answer 58 = .ok (.iconst 0, 1) := by decide +kernel
theorem dX4_answer_59 : decode cX4_answer 59 = .ok (.putfield 72, 3) := by decide +kernel
theorem dX4_answer_62 : decode cX4_answer 62 = .ok (.aload_n 0, 1) := by decide +kernel
theorem dX4_answer_63 : decode cX4_answer 63 = .ok (.getfield 72, 3) := by decide +kernel
theorem dX4_answer_66 : decode cX4_answer 66 = .ok (.ifCond .le 5, 3) := by decide +kernel
theorem dX4_answer_69 : decode cX4_answer 69 = .ok (.iconst 0, 1) := by decide +kernel
theorem dX4_answer_70 : decode cX4_answer 70 = .ok (.ireturn, 1) := by decide +kernel
theorem dX4_answer_71 : decode cX4_answer 71 = .ok (.aload_n 0, 1) := by decide +kernel
theorem dX4_answer_72 : decode cX4_answer 72 = .ok (.getfield 57, 3) := by decide +kernel
theorem dX4_answer_75 : decode cX4_answer 75 = .ok (.bipush 27, 2) := by decide +kernel
theorem dX4_answer_77 : decode cX4_answer 77 = .ok (.iload_n 1, 1) := by decide +kernel
theorem dX4_answer_78 : decode cX4_answer 78 = .ok (.imul, 1) := by decide +kernel
theorem dX4_answer_79 : decode cX4_answer 79 = .ok (.iload_n 2, 1) := by decide +kernel
theorem dX4_answer_80 : decode cX4_answer 80 = .ok (.iadd, 1) := by decide +kernel
theorem dX4_answer_81 : decode cX4_answer 81 = .ok (.iconst 1, 1) := by decide +kernel
theorem dX4_answer_82 : decode cX4_answer 82 = .ok (.bastore, 1) := by decide +kernel
theorem dX4_answer_83 : decode cX4_answer 83 = .ok (.aload_n 0, 1) := by decide +kernel
theorem dX4_answer_84 : decode cX4_answer 84 = .ok (.getfield 60, 3) := by decide +kernel
theorem dX4_answer_87 : decode cX4_answer 87 = .ok (.bipush 27, 2) := by decide +kernel
theorem dX4_answer_89 : decode cX4_answer 89 = .ok (.iload_n 1, 1) := by decide +kernel
theorem dX4_answer_90 : decode cX4_answer 90 = .ok (.imul, 1) := by decide +kernel
theorem dX4_answer_91 : decode cX4_answer 91 = .ok (.iload_n 2, 1) := by decide +kernel
theorem dX4_answer_92 : decode cX4_answer 92 = .ok (.iadd, 1) := by decide +kernel
theorem dX4_answer_93 : decode cX4_answer 93 = .ok (.iaload, 1) := by decide +kernel
theorem dX4_answer_94 : decode cX4_answer 94 = .ok (.istore 4, 2) := by decide +kernel
theorem dX4_answer_96 : decode cX4_answer 96 = .ok (.aload_n 0, 1) := by decide +kernel
theorem dX4_answer_97 : decode cX4_answer 97 = .ok (.getfield 19, 3) := by decide +kernel
theorem dX4_answer_100 : decode cX4_answer 100 = .ok (.iload 4, 2) := by decide +kernel
theorem dX4_answer_102 : decode cX4_answer 102 = .ok (.iaload, 1) := by decide +kernel
theorem dX4_answer_103 : decode cX4_answer 103 = .ok (.istore 5, 2) := by decide +kernel
theorem dX4_answer_105 : decode cX4_answer 105 = .ok (.iload_n 3, 1) := by decide +kernel
theorem dX4_answer_106 : decode cX4_answer 106 = .ok (.ifCond .eq 16, 3) := by decide +kernel
theorem dX4_answer_109 : decode cX4_answer 109 = .ok (.iload 5, 2) := by decide +kernel
theorem dX4_answer_111 : decode cX4_answer 111 = .ok (.iconst 1, 1) := by decide +kernel
theorem dX4_answer_112 : decode cX4_answer 112 = .ok (.isub, 1) := by decide +kernel
theorem dX4_answer_113 : decode cX4_answer 113 = .ok (.iload 5, 2) := by decide +kernel
theorem dX4_answer_115 : decode cX4_answer 115 = .ok (.bipush 10, 2) := by decide +kernel
theorem dX4_answer_117 : decode cX4_answer 117 = .ok (.idiv, 1) := by decide +kernel
theorem dX4_answer_118 : decode cX4_answer 118 = .ok (.isub, 1) := by decide +kernel
theorem dX4_answer_119 : decode cX4_answer 119 = .ok (.goto 16, 3) := by decide +kernel
theorem dX4_answer_122 : decode cX4_answer 122 = .ok (.iload 5, 2) := by decide +kernel
theorem dX4_answer_124 : decode cX4_answer 124 = .ok (.iconst 1, 1) := by decide +kernel
theorem dX4_answer_125 : decode cX4_answer 125 = .ok (.iadd, 1) := by decide +kernel
theorem dX4_answer_126 : decode cX4_answer 126 = .ok (.bipush 100, 2) := by decide +kernel
theorem dX4_answer_128 : decode cX4_answer 128 = .ok (.iload 5, 2) := by decide +kernel
theorem dX4_answer_130 : decode cX4_answer 130 = .ok (.isub, 1) := by decide +kernel
theorem dX4_answer_131 : decode cX4_answer 131 = .ok (.bipush 10, 2) := by decide +kernel
theorem dX4_answer_133 : decode cX4_answer 133 = .ok (.idiv, 1) := by decide +kernel
theorem dX4_answer_134 : decode cX4_answer 134 = .ok (.iadd, 1) := by decide +kernel
theorem dX4_answer_135 : decode cX4_answer 135 = .ok (.istore 5, 2) := by decide +kernel
theorem dX4_answer_137 : decode cX4_answer 137 = .ok (.aload_n 0, 1) := by decide +kernel
theorem dX4_answer_138 : decode cX4_answer 138 = .ok (.getfield 19, 3) := by decide +kernel
theorem dX4_answer_141 : decode cX4_answer 141 = .ok (.iload 4, 2) := by decide +kernel
theorem dX4_answer_143 : decode cX4_answer 143 = .ok (.iload 5, 2) := by decide +kernel
theorem dX4_answer_145 : decode cX4_answer 145 = .ok (.ifCond .ge 7, 3) := by decide +kernel
theorem dX4_answer_148 : decode cX4_answer 148 = .ok (.iconst 0, 1) := by decide +kernel
theorem dX4_answer_149 : decode cX4_answer 149 = .ok (.goto 17, 3) := by decide +kernel
theorem dX4_answer_152 : decode cX4_answer 152 = .ok (.iload 5, 2) := by decide +kernel
theorem dX4_answer_154 : decode cX4_answer 154 = .ok (.bipush 100, 2) := by decide +kernel
theorem dX4_answer_156 : decode cX4_answer 156 = .ok (.if_icmp .le 8, 3) := by decide +kernel
theorem dX4_answer_159 : decode cX4_answer 159 = .ok (.bipush 100, 2) := by decide +kernel
theorem dX4_answer_161 : decode cX4_answer 161 = .ok (.goto 5, 3) := by decide +kernel
theorem dX4_answer_164 : decode cX4_answer 164 = .ok (.iload 5, 2) := by decide +kernel
theorem dX4_answer_166 : decode cX4_answer 166 = .ok (.iastore, 1) := by decide +kernel
theorem dX4_answer_167 : decode cX4_answer 167 = .ok (.aload_n 0, 1) := by decide +kernel
theorem dX4_answer_168 : decode cX4_answer 168 = .ok (.dup, 1) := by decide +kernel
theorem dX4_answer_169 : decode cX4_answer 169 = .ok (.getfield 186, 3) := by decide +kernel
theorem dX4_answer_172 : decode cX4_answer 172 = .ok (.iconst 1, 1) := by decide +kernel
theorem dX4_answer_173 : decode cX4_answer 173 = .ok (.iadd, 1) := by decide +kernel
theorem dX4_answer_174 : decode cX4_answer 174 = .ok (.putfield 186, 3) := by decide +kernel
theorem dX4_answer_177 : decode cX4_answer 177 = .ok (.aload_n 0, 1) := by decide +kernel
theorem dX4_answer_178 : decode cX4_answer 178 = .ok (.dup, 1) := by decide +kernel
theorem dX4_answer_179 : decode cX4_answer 179 = .ok (.getfield 189, 3) := by decide +kernel
theorem dX4_answer_182 : decode cX4_answer 182 = .ok (.iload_n 3, 1) := by decide +kernel
theorem dX4_answer_183 : decode cX4_answer 183 = .ok (.ifCond .eq 7, 3) := by decide +kernel
theorem dX4_answer_186 : decode cX4_answer 186 = .ok (.iconst 1, 1) := by decide +kernel
theorem dX4_answer_187 : decode cX4_answer 187 = .ok (.goto 4, 3) := by decide +kernel
theorem dX4_answer_190 : decode cX4_answer 190 = .ok (.iconst 0, 1) := by decide +kernel
theorem dX4_answer_191 : decode cX4_answer 191 = .ok (.iadd, 1) := by decide +kernel
theorem dX4_answer_192 : decode cX4_answer 192 = .ok (.putfield 189, 3) := by decide +kernel
theorem dX4_answer_195 : decode cX4_answer 195 = .ok (.aload_n 0, 1) := by decide +kernel
theorem dX4_answer_196 : decode cX4_answer 196 = .ok (.invokevirtual 92, 3) := by decide +kernel
theorem dX4_answer_199 : decode cX4_answer 199 = .ok (.aload_n 0, 1) := by decide +kernel
theorem dX4_answer_200 : decode cX4_answer 200 = .ok (.getfield 19, 3) := by decide +kernel
theorem dX4_answer_203 : decode cX4_answer 203 = .ok (.iload 4, 2) := by decide +kernel
theorem dX4_answer_205 : decode cX4_answer 205 = .ok (.iaload, 1) := by decide +kernel
theorem dX4_answer_206 : decode cX4_answer 206 = .ok (.ireturn, 1) := by decide +kernel
theorem dX4_put_0 : decode cX4_put 0 = .ok (.aload_n 0, 1) := by decide +kernel
theorem dX4_put_1 : decode cX4_put 1 = .ok (.getfield 66, 3) := by decide +kernel
theorem dX4_put_4 : decode cX4_put 4 = .ok (.aload_n 0, 1) := by decide +kernel
theorem dX4_put_5 : decode cX4_put 5 = .ok (.getfield 192, 3) := by decide +kernel
theorem dX4_put_8 : decode cX4_put 8 = .ok (.iload_n 1, 1) := by decide +kernel
theorem dX4_put_9 : decode cX4_put 9 = .ok (.castore, 1) := by decide +kernel
theorem dX4_put_10 : decode cX4_put 10 = .ok (.aload_n 0, 1) := by decide +kernel
theorem dX4_put_11 : decode cX4_put 11 = .ok (.dup, 1) := by decide +kernel
theorem dX4_put_12 : decode cX4_put 12 = .ok (.getfield 192, 3) := by decide +kernel
theorem dX4_put_15 : decode cX4_put 15 = .ok (.iconst 1, 1) := by decide +kernel
theorem dX4_put_16 : decode cX4_put 16 = .ok (.iadd, 1) := by decide +kernel
theorem dX4_put_17 : decode cX4_put 17 = .ok (.putfield 192, 3) := by decide +kernel
theorem dX4_put_20 : decode cX4_put 20 = .ok (.return_, 1) := by decide +kernel
theorem dX4_putNumber_0 : decode cX4_putNumber 0 = .ok (.iload_n 1, 1) := by decide +kernel
theorem dX4_putNumber_1 : decode cX4_putNumber 1 = .ok (.bipush 10, 2) := by decide +kernel
theorem dX4_putNumber_3 : decode cX4_putNumber 3 = .ok (.if_icmp .lt 15, 3) := by decide +kernel
theorem dX4_putNumber_6 : decode cX4_putNumber 6 = .ok (.aload_n 0, 1) := by decide +kernel
theorem dX4_putNumber_7 : decode cX4_putNumber 7 = .ok (.bipush 48, 2) := by decide +kernel
theorem dX4_putNumber_9 : decode cX4_putNumber 9 = .ok (.iload_n 1, 1) := by decide +kernel
theorem dX4_putNumber_10 : decode cX4_putNumber 10 = .ok (.bipush 10, 2) := by decide +kernel
theorem dX4_putNumber_12 : decode cX4_putNumber 12 = .ok (.idiv, 1) := by decide +kernel
theorem dX4_putNumber_13 : decode cX4_putNumber 13 = .ok (.iadd, 1) := by decide +kernel
theorem dX4_putNumber_14 : decode cX4_putNumber 14 = .ok (.i2c, 1) := by decide +kernel
theorem dX4_putNumber_15 : decode cX4_putNumber 15 = .ok (.invokevirtual 195, 3) := by decide +kernel
theorem dX4_putNumber_18 : decode cX4_putNumber 18 = .ok (.aload_n 0, 1) := by decide +kernel
theorem dX4_putNumber_19 : decode cX4_putNumber 19 = .ok (.bipush 48, 2) := by decide +kernel
theorem dX4_putNumber_21 : decode cX4_putNumber 21 = .ok (.iload_n 1, 1) := by decide +kernel
theorem dX4_putNumber_22 : decode cX4_putNumber 22 = .ok (.bipush 10, 2) := by decide +kernel
theorem dX4_putNumber_24 : decode cX4_putNumber 24 = .ok (.irem, 1) := by decide +kernel
theorem dX4_putNumber_25 : decode cX4_putNumber 25 = .ok (.iadd, 1) := by decide +kernel
theorem dX4_putNumber_26 : decode cX4_putNumber 26 = .ok (.i2c, 1) := by decide +kernel
theorem dX4_putNumber_27 : decode cX4_putNumber 27 = .ok (.invokevirtual 195, 3) := by decide +kernel
theorem dX4_putNumber_30 : decode cX4_putNumber 30 = .ok (.return_, 1) := by decide +kernel
theorem dX4_textOf_0 : decode cX4_textOf 0 = .ok (.aload_n 0, 1) := by decide +kernel
theorem dX4_textOf_1 : decode cX4_textOf 1 = .ok (.iload_n 1, 1) := by decide +kernel
theorem dX4_textOf_2 : decode cX4_textOf 2 = .ok (.invokevirtual 179, 3) := by decide +kernel
theorem dX4_textOf_5 : decode cX4_textOf 5 = .ok (.ifCond .le 6, 3) := by decide +kernel
theorem dX4_textOf_8 : decode cX4_textOf 8 = .ok (.bipush 32, 2) := by decide +kernel
theorem dX4_textOf_10 : decode cX4_textOf 10 = .ok (.ireturn, 1) := by decide +kernel
theorem dX4_textOf_11 : decode cX4_textOf 11 = .ok (.aload_n 0, 1) := by decide +kernel
theorem dX4_textOf_12 : decode cX4_textOf 12 = .ok (.iconst 0, 1) := by decide +kernel
theorem dX4_textOf_13 : decode cX4_textOf 13 = .ok (.putfield 192, 3) := by decide +kernel
theorem dX4_textOf_16 : decode cX4_textOf 16 = .ok (.aload_n 0, 1) := by decide +kernel
theorem dX4_textOf_17 : decode cX4_textOf 17 = .ok (.iload_n 1, 1) := by decide +kernel
theorem dX4_textOf_18 : decode cX4_textOf 18 = .ok (.invokevirtual 199, 3) := by decide +kernel
theorem dX4_textOf_21 : decode cX4_textOf 21 = .ok (.aload_n 0, 1) := by decide +kernel
theorem dX4_textOf_22 : decode cX4_textOf 22 = .ok (.bipush 58, 2) := by decide +kernel
theorem dX4_textOf_24 : decode cX4_textOf 24 = .ok (.invokevirtual 195, 3) := by decide +kernel
theorem dX4_textOf_27 : decode cX4_textOf 27 = .ok (.iconst 0, 1) := by decide +kernel
theorem dX4_textOf_28 : decode cX4_textOf 28 = .ok (.istore_n 3, 1) := by decide +kernel
theorem dX4_textOf_29 : decode cX4_textOf 29 = .ok (.iload_n 3, 1) := by decide +kernel
theorem dX4_textOf_30 : decode cX4_textOf 30 = .ok (.aload_n 0, 1) := by decide +kernel
theorem dX4_textOf_31 : decode cX4_textOf 31 = .ok (.getfield 63, 3) := by decide +kernel
theorem dX4_textOf_34 : decode cX4_textOf 34 = .ok (.iload_n 1, 1) := by decide +kernel
theorem dX4_textOf_35 : decode cX4_textOf 35 = .ok (.iaload, 1) := by decide +kernel
theorem dX4_textOf_36 : decode cX4_textOf 36 = .ok (.if_icmp .ge 34, 3) := by decide +kernel
theorem dX4_textOf_39 : decode cX4_textOf 39 = .ok (.iload_n 3, 1) := by decide +kernel
theorem dX4_textOf_40 : decode cX4_textOf 40 = .ok (.ifCond .le 9, 3) := by decide +kernel
theorem dX4_textOf_43 : decode cX4_textOf 43 = .ok (.aload_n 0, 1) := by decide +kernel
theorem dX4_textOf_44 : decode cX4_textOf 44 = .ok (.bipush 44, 2) := by decide +kernel
theorem dX4_textOf_46 : decode cX4_textOf 46 = .ok (.invokevirtual 195, 3) := by decide +kernel
theorem dX4_textOf_49 : decode cX4_textOf 49 = .ok (.aload_n 0, 1) := by decide +kernel
theorem dX4_textOf_50 : decode cX4_textOf 50 = .ok (.aload_n 0, 1) := by decide +kernel
theorem dX4_textOf_51 : decode cX4_textOf 51 = .ok (.getfield 60, 3) := by decide +kernel
theorem dX4_textOf_54 : decode cX4_textOf 54 = .ok (.bipush 27, 2) := by decide +kernel
theorem dX4_textOf_56 : decode cX4_textOf 56 = .ok (.iload_n 1, 1) := by decide +kernel
theorem dX4_textOf_57 : decode cX4_textOf 57 = .ok (.imul, 1) := by decide +kernel
theorem dX4_textOf_58 : decode cX4_textOf 58 = .ok (.iload_n 3, 1) := by decide +kernel
theorem dX4_textOf_59 : decode cX4_textOf 59 = .ok (.iadd, 1) := by decide +kernel
theorem dX4_textOf_60 : decode cX4_textOf 60 = .ok (.iaload, 1) := by decide +kernel
theorem dX4_textOf_61 : decode cX4_textOf 61 = .ok (.invokevirtual 199, 3) := by decide +kernel
theorem dX4_textOf_64 : decode cX4_textOf 64 = .ok (.iinc 3 1, 3) := by decide +kernel
theorem dX4_textOf_67 : decode cX4_textOf 67 = .ok (.goto (-38), 3) := by decide +kernel
theorem dX4_textOf_70 : decode cX4_textOf 70 = .ok (.aload_n 0, 1) := by decide +kernel
theorem dX4_textOf_71 : decode cX4_textOf 71 = .ok (.iload_n 2, 1) := by decide +kernel
theorem dX4_textOf_72 : decode cX4_textOf 72 = .ok (.iconst 0, 1) := by decide +kernel
theorem dX4_textOf_73 : decode cX4_textOf 73 = .ok (.aload_n 0, 1) := by decide +kernel
theorem dX4_textOf_74 : decode cX4_textOf 74 = .ok (.getfield 192, 3) := by decide +kernel
theorem dX4_textOf_77 : decode cX4_textOf 77 = .ok (.iconst 1, 1) := by decide +kernel
theorem dX4_textOf_78 : decode cX4_textOf 78 = .ok (.isub, 1) := by decide +kernel
theorem dX4_textOf_79 : decode cX4_textOf 79 = .ok (.invokestatic 79, 3) := by decide +kernel
theorem dX4_textOf_82 : decode cX4_textOf 82 = .ok (.ifCond .eq 7, 3) := by decide +kernel
theorem dX4_textOf_85 : decode cX4_textOf 85 = .ok (.iconst 0, 1) := by decide +kernel
theorem dX4_textOf_86 : decode cX4_textOf 86 = .ok (.goto 4, 3) := by decide +kernel
theorem dX4_textOf_89 : decode cX4_textOf 89 = .ok (.iconst 2, 1) := by decide +kernel
theorem dX4_textOf_90 : decode cX4_textOf 90 = .ok (.putfield 72, 3) := by decide +kernel
theorem dX4_textOf_93 : decode cX4_textOf 93 = .ok (.aload_n 0, 1) := by decide +kernel
theorem dX4_textOf_94 : decode cX4_textOf 94 = .ok (.getfield 72, 3) := by decide +kernel
theorem dX4_textOf_97 : decode cX4_textOf 97 = .ok (.ifCond .le 8, 3) := by decide +kernel
theorem dX4_textOf_100 : decode cX4_textOf 100 = .ok (.bipush 32, 2) := by decide +kernel
theorem dX4_textOf_102 : decode cX4_textOf 102 = .ok (.goto 9, 3) := by decide +kernel
theorem dX4_textOf_105 : decode cX4_textOf 105 = .ok (.aload_n 0, 1) := by decide +kernel
theorem dX4_textOf_106 : decode cX4_textOf 106 = .ok (.getfield 66, 3) := by decide +kernel
theorem dX4_textOf_109 : decode cX4_textOf 109 = .ok (.iload_n 2, 1) := by decide +kernel
theorem dX4_textOf_110 : decode cX4_textOf 110 = .ok (.caload, 1) := by decide +kernel
theorem dX4_textOf_111 : decode cX4_textOf 111 = .ok (.ireturn, 1) := by decide +kernel
theorem dX4_answers_0 : decode cX4_answers 0 = .ok (.aload_n 0, 1) := by decide +kernel
theorem dX4_answers_1 : decode cX4_answers 1 = .ok (.aload_n 0, 1) := by decide +kernel
theorem dX4_answers_2 : decode cX4_answers 2 = .ok (.getfield 186, 3) := by decide +kernel
theorem dX4_answers_5 : decode cX4_answers 5 = .ok (.invokevirtual 126, 3) := by decide +kernel
theorem dX4_answers_8 : decode cX4_answers 8 = .ok (.ireturn, 1) := by decide +kernel
theorem dX4_allLevels_0 : decode cX4_allLevels 0 = .ok (.aload_n 0, 1) := by decide +kernel
theorem dX4_allLevels_1 : decode cX4_allLevels 1 = .ok (.iconst 0, 1) := by decide +kernel
theorem dX4_allLevels_2 : decode cX4_allLevels 2 = .ok (.putfield 72, 3) := by decide +kernel
theorem dX4_allLevels_5 : decode cX4_allLevels 5 = .ok (.lconst 0, 1) := by decide +kernel
theorem dX4_allLevels_6 : decode cX4_allLevels 6 = .ok (.lstore_n 1, 1) := by decide +kernel
theorem dX4_allLevels_7 : decode cX4_allLevels 7 = .ok (.iconst 0, 1) := by decide +kernel
theorem dX4_allLevels_8 : decode cX4_allLevels 8 = .ok (.istore_n 3, 1) := by decide +kernel
theorem dX4_allLevels_9 : decode cX4_allLevels 9 = .ok (.iload_n 3, 1) := by decide +kernel
theorem dX4_allLevels_10 : decode cX4_allLevels 10 = .ok (.aload_n 0, 1) := by decide +kernel
theorem dX4_allLevels_11 : decode cX4_allLevels 11 = .ok (.getfield 76, 3) := by decide +kernel
theorem dX4_allLevels_14 : decode cX4_allLevels 14 = .ok (.if_icmp .ge 19, 3) := by decide +kernel
theorem dX4_allLevels_17 : decode cX4_allLevels 17 = .ok (.lload_n 1, 1) := by decide +kernel
theorem dX4_allLevels_18 : decode cX4_allLevels 18 = .ok (.aload_n 0, 1) := by decide +kernel
theorem dX4_allLevels_19 : decode cX4_allLevels 19 = .ok (.getfield 19, 3) := by decide +kernel
theorem dX4_allLevels_22 : decode cX4_allLevels 22 = .ok (.iload_n 3, 1) := by decide +kernel
theorem dX4_allLevels_23 : decode cX4_allLevels 23 = .ok (.iaload, 1) := by decide +kernel
theorem dX4_allLevels_24 : decode cX4_allLevels 24 = .ok (.i2l, 1) := by decide +kernel
theorem dX4_allLevels_25 : decode cX4_allLevels 25 = .ok (.ladd, 1) := by decide +kernel
theorem dX4_allLevels_26 : decode cX4_allLevels 26 = .ok (.lstore_n 1, 1) := by decide +kernel
theorem dX4_allLevels_27 : decode cX4_allLevels 27 = .ok (.iinc 3 1, 3) := by decide +kernel
theorem dX4_allLevels_30 : decode cX4_allLevels 30 = .ok (.goto (-21), 3) := by decide +kernel
theorem dX4_allLevels_33 : decode cX4_allLevels 33 = .ok (.lload_n 1, 1) := by decide +kernel
theorem dX4_allLevels_34 : decode cX4_allLevels 34 = .ok (.lreturn, 1) := by decide +kernel
theorem dX4_rightShare_0 : decode cX4_rightShare 0 = .ok (.aload_n 0, 1) := by decide +kernel
theorem dX4_rightShare_1 : decode cX4_rightShare 1 = .ok (.aload_n 0, 1) := by decide +kernel
theorem dX4_rightShare_2 : decode cX4_rightShare 2 = .ok (.getfield 186, 3) := by decide +kernel
theorem dX4_rightShare_5 : decode cX4_rightShare 5 = .ok (.ifCond .ne 7, 3) := by decide +kernel
theorem dX4_rightShare_8 : decode cX4_rightShare 8 = .ok (.iconst 1, 1) := by decide +kernel
theorem dX4_rightShare_9 : decode cX4_rightShare 9 = .ok (.goto 4, 3) := by decide +kernel
theorem dX4_rightShare_12 : decode cX4_rightShare 12 = .ok (.iconst 0, 1) := by decide +kernel
theorem dX4_rightShare_13 : decode cX4_rightShare 13 = .ok (.putfield 72, 3) := by decide +kernel
theorem dX4_rightShare_16 : decode cX4_rightShare 16 = .ok (.aload_n 0, 1) := by decide +kernel
theorem dX4_rightShare_17 : decode cX4_rightShare 17 = .ok (.getfield 72, 3) := by decide +kernel
theorem dX4_rightShare_20 : decode cX4_rightShare 20 = .ok (.ifCond .le 7, 3) := by decide +kernel
theorem dX4_rightShare_23 : decode cX4_rightShare 23 = .ok (.fconst 0, 1) := by decide +kernel
theorem dX4_rightShare_24 : decode cX4_rightShare 24 = .ok (.goto 14, 3) := by decide +kernel
theorem dX4_rightShare_27 : decode cX4_rightShare 27 = .ok (.aload_n 0, 1) := by decide +kernel
theorem dX4_rightShare_28 : decode cX4_rightShare 28 = .ok (.getfield 189, 3) := by decide +kernel
theorem dX4_rightShare_31 : decode cX4_rightShare 31 = .ok (.i2f, 1) := by decide +kernel
theorem dX4_rightShare_32 : decode cX4_rightShare 32 = .ok (.aload_n 0, 1) := by decide +kernel
theorem dX4_rightShare_33 : decode cX4_rightShare 33 = .ok (.getfield 186, 3) := by decide +kernel
theorem dX4_rightShare_36 : decode cX4_rightShare 36 = .ok (.i2f, 1) := by decide +kernel
theorem dX4_rightShare_37 : decode cX4_rightShare 37 = .ok (.fdiv, 1) := by decide +kernel
theorem dX4_rightShare_38 : decode cX4_rightShare 38 = .ok (.freturn, 1) := by decide +kernel
theorem dX4_meanLevel_0 : decode cX4_meanLevel 0 = .ok (.aload_n 0, 1) := by decide +kernel
theorem dX4_meanLevel_1 : decode cX4_meanLevel 1 = .ok (.aload_n 0, 1) := by decide +kernel
theorem dX4_meanLevel_2 : decode cX4_meanLevel 2 = .ok (.getfield 76, 3) := by decide +kernel
theorem dX4_meanLevel_5 : decode cX4_meanLevel 5 = .ok (.ifCond .ne 7, 3) := by decide +kernel
theorem dX4_meanLevel_8 : decode cX4_meanLevel 8 = .ok (.iconst 1, 1) := by decide +kernel
theorem dX4_meanLevel_9 : decode cX4_meanLevel 9 = .ok (.goto 4, 3) := by decide +kernel
theorem dX4_meanLevel_12 : decode cX4_meanLevel 12 = .ok (.iconst 0, 1) := by decide +kernel
theorem dX4_meanLevel_13 : decode cX4_meanLevel 13 = .ok (.putfield 72, 3) := by decide +kernel
theorem dX4_meanLevel_16 : decode cX4_meanLevel 16 = .ok (.aload_n 0, 1) := by decide +kernel
theorem dX4_meanLevel_17 : decode cX4_meanLevel 17 = .ok (.getfield 72, 3) := by decide +kernel
theorem dX4_meanLevel_20 : decode cX4_meanLevel 20 = .ok (.ifCond .le 5, 3) := by decide +kernel
theorem dX4_meanLevel_23 : decode cX4_meanLevel 23 = .ok (.dconst 0, 1) := by decide +kernel
theorem dX4_meanLevel_24 : decode cX4_meanLevel 24 = .ok (.dreturn, 1) := by decide +kernel
theorem dX4_meanLevel_25 : decode cX4_meanLevel 25 = .ok (.iconst 0, 1) := by decide +kernel
theorem dX4_meanLevel_26 : decode cX4_meanLevel 26 = .ok (.istore_n 1, 1) := by decide +kernel
theorem dX4_meanLevel_27 : decode cX4_meanLevel 27 = .ok (.iconst 0, 1) := by decide +kernel
theorem dX4_meanLevel_28 : decode cX4_meanLevel 28 = .ok (.istore_n 2, 1) := by decide +kernel
theorem dX4_meanLevel_29 : decode cX4_meanLevel 29 = .ok (.iload_n 2, 1) := by decide +kernel
theorem dX4_meanLevel_30 : decode cX4_meanLevel 30 = .ok (.aload_n 0, 1) := by decide +kernel
theorem dX4_meanLevel_31 : decode cX4_meanLevel 31 = .ok (.getfield 76, 3) := by decide +kernel
theorem dX4_meanLevel_34 : decode cX4_meanLevel 34 = .ok (.if_icmp .ge 18, 3) := by decide +kernel
theorem dX4_meanLevel_37 : decode cX4_meanLevel 37 = .ok (.iload_n 1, 1) := by decide +kernel
theorem dX4_meanLevel_38 : decode cX4_meanLevel 38 = .ok (.aload_n 0, 1) := by decide +kernel
theorem dX4_meanLevel_39 : decode cX4_meanLevel 39 = .ok (.getfield 19, 3) := by decide +kernel
theorem dX4_meanLevel_42 : decode cX4_meanLevel 42 = .ok (.iload_n 2, 1) := by decide +kernel
theorem dX4_meanLevel_43 : decode cX4_meanLevel 43 = .ok (.iaload, 1) := by decide +kernel
theorem dX4_meanLevel_44 : decode cX4_meanLevel 44 = .ok (.iadd, 1) := by decide +kernel
theorem dX4_meanLevel_45 : decode cX4_meanLevel 45 = .ok (.istore_n 1, 1) := by decide +kernel
theorem dX4_meanLevel_46 : decode cX4_meanLevel 46 = .ok (.iinc 2 1, 3) := by decide +kernel
theorem dX4_meanLevel_49 : decode cX4_meanLevel 49 = .ok (.goto (-20), 3) := by decide +kernel
theorem dX4_meanLevel_52 : decode cX4_meanLevel 52 = .ok (.iload_n 1, 1) := by decide +kernel
theorem dX4_meanLevel_53 : decode cX4_meanLevel 53 = .ok (.i2d, 1) := by decide +kernel
theorem dX4_meanLevel_54 : decode cX4_meanLevel 54 = .ok (.aload_n 0, 1) := by decide +kernel
theorem dX4_meanLevel_55 : decode cX4_meanLevel 55 = .ok (.getfield 76, 3) := by decide +kernel
theorem dX4_meanLevel_58 : decode cX4_meanLevel 58 = .ok (.i2d, 1) := by decide +kernel
theorem dX4_meanLevel_59 : decode cX4_meanLevel 59 = .ok (.ddiv, 1) := by decide +kernel
theorem dX4_meanLevel_60 : decode cX4_meanLevel 60 = .ok (.dreturn, 1) := by decide +kernel
theorem dX4_isSound_0 : decode cX4_isSound 0 = .ok (.aload_n 0, 1) := by decide +kernel
theorem dX4_isSound_1 : decode cX4_isSound 1 = .ok (.iconst 0, 1) := by decide +kernel
theorem dX4_isSound_2 : decode cX4_isSound 2 = .ok (.putfield 72, 3) := by decide +kernel
theorem dX4_isSound_5 : decode cX4_isSound 5 = .ok (.iconst 1, 1) := by decide +kernel
theorem dX4_isSound_6 : decode cX4_isSound 6 = .ok (.ireturn, 1) := by decide +kernel
