theorem dX8_init_0 : decode cX8_init 0 = .ok (.aload_n 0, 1) := by decide +kernel
theorem dX8_init_1 : decode cX8_init 1 = .ok (.iload_n 1, 1) := by decide +kernel
theorem dX8_init_2 : decode cX8_init 2 = .ok (.iconst 1, 1) := by decide +kernel
theorem dX8_init_3 : decode cX8_init 3 = .ok (.iload_n 2, 1) := by decide +kernel
theorem dX8_init_4 : decode cX8_init 4 = .ok (.iload_n 3, 1) := by decide +kernel
theorem dX8_init_5 : decode cX8_init 5 = .ok (.iload 4, 2) := by decide +kernel
theorem dX8_init_7 : decode cX8_init 7 = .ok (.iconst 0, 1) := by decide +kernel
theorem dX8_init_8 : decode cX8_init 8 = .ok (.iload 5, 2) := by decide +kernel
theorem dX8_init_10 : decode cX8_init 10 = .ok (.invokespecial 3, 3) := by decide +kernel
theorem dX8_init_13 : decode cX8_init 13 = .ok (.return_, 1) := by decide +kernel
theorem dX8_init__0 : decode cX8_init_ 0 = .ok (.aload_n 0, 1) := by decide +kernel
theorem dX8_init__1 : decode cX8_init_ 1 = .ok (.iload_n 1, 1) := by decide +kernel
theorem dX8_init__2 : decode cX8_init_ 2 = .ok (.iload_n 2, 1) := by decide +kernel
theorem dX8_init__3 : decode cX8_init_ 3 = .ok (.iload_n 3, 1) := by decide +kernel
theorem dX8_init__4 : decode cX8_init_ 4 = .ok (.iload 4, 2) := by decide +kernel
theorem dX8_init__6 : decode cX8_init_ 6 = .ok (.iload 5, 2) := by decide +kernel
theorem dX8_init__8 : decode cX8_init_ 8 = .ok (.iconst 0, 1) := by decide +kernel
theorem dX8_init__9 : decode cX8_init_ 9 = .ok (.iload 6, 2) := by decide +kernel
theorem dX8_init__11 : decode cX8_init_ 11 = .ok (.invokespecial 3, 3) := by decide +kernel
theorem dX8_init__14 : decode cX8_init_ 14 = .ok (.return_, 1) := by decide +kernel
theorem dX8_binds_0 : decode cX8_binds 0 = .ok (.bipush 20, 2) := by decide +kernel
theorem dX8_binds_2 : decode cX8_binds 2 = .ok (.aload_n 2, 1) := by decide +kernel
theorem dX8_binds_3 : decode cX8_binds 3 = .ok (.invokestatic 9, 3) := by decide +kernel
theorem dX8_binds_6 : decode cX8_binds 6 = .ok (.aload_n 0, 1) := by decide +kernel
theorem dX8_binds_7 : decode cX8_binds 7 = .ok (.iload_n 1, 1) := by decide +kernel
theorem dX8_binds_8 : decode cX8_binds 8 = .ok (.aload_n 2, 1) := by decide +kernel
theorem dX8_binds_9 : decode cX8_binds 9 = .ok (.invokespecial 15, 3) := by decide +kernel
theorem dX8_binds_12 : decode cX8_binds 12 = .ok (.aload_n 0, 1) := by decide +kernel
theorem dX8_binds_13 : decode cX8_binds 13 = .ok (.getfield 19, 3) := by decide +kernel
theorem dX8_binds_16 : decode cX8_binds 16 = .ok (.iadd, 1) := by decide +kernel
theorem dX8_binds_17 : decode cX8_binds 17 = .ok (.ireturn, 1) := by decide +kernel
theorem dX9_init_0 : decode cX9_init 0 = .ok (.aload_n 0, 1) := by decide +kernel
theorem dX9_init_1 : decode cX9_init 1 = .ok (.iload_n 1, 1) := by decide +kernel
theorem dX9_init_2 : decode cX9_init 2 = .ok (.iconst 2, 1) := by decide +kernel
theorem dX9_init_3 : decode cX9_init 3 = .ok (.iload_n 2, 1) := by decide +kernel
theorem dX9_init_4 : decode cX9_init 4 = .ok (.iload_n 3, 1) := by decide +kernel
theorem dX9_init_5 : decode cX9_init 5 = .ok (.iload 4, 2) := by decide +kernel
theorem dX9_init_7 : decode cX9_init 7 = .ok (.iload 5, 2) := by decide +kernel
theorem dX9_init_9 : decode cX9_init 9 = .ok (.iload 6, 2) := by decide +kernel
theorem dX9_init_11 : decode cX9_init 11 = .ok (.invokespecial 3, 3) := by decide +kernel
theorem dX9_init_14 : decode cX9_init 14 = .ok (.return_, 1) := by decide +kernel
theorem dX9_tells_0 : decode cX9_tells 0 = .ok (.bipush 30, 2) := by decide +kernel
theorem dX9_tells_2 : decode cX9_tells 2 = .ok (.aload_n 2, 1) := by decide +kernel
theorem dX9_tells_3 : decode cX9_tells 3 = .ok (.invokestatic 9, 3) := by decide +kernel
theorem dX9_tells_6 : decode cX9_tells 6 = .ok (.aload_n 0, 1) := by decide +kernel
theorem dX9_tells_7 : decode cX9_tells 7 = .ok (.iload_n 1, 1) := by decide +kernel
theorem dX9_tells_8 : decode cX9_tells 8 = .ok (.aload_n 2, 1) := by decide +kernel
theorem dX9_tells_9 : decode cX9_tells 9 = .ok (.invokespecial 15, 3) := by decide +kernel
theorem dX9_tells_12 : decode cX9_tells 12 = .ok (.iconst 3, 1) := by decide +kernel
theorem dX9_tells_13 : decode cX9_tells 13 = .ok (.imul, 1) := by decide +kernel
theorem dX9_tells_14 : decode cX9_tells 14 = .ok (.ireturn, 1) := by decide +kernel
theorem dX9_weighs_0 : decode cX9_weighs 0 = .ok (.bipush 31, 2) := by decide +kernel
theorem dX9_weighs_2 : decode cX9_weighs 2 = .ok (.aload_n 2, 1) := by decide +kernel
theorem dX9_weighs_3 : decode cX9_weighs 3 = .ok (.invokestatic 9, 3) := by decide +kernel
theorem dX9_weighs_6 : decode cX9_weighs 6 = .ok (.aload_n 0, 1) := by decide +kernel
theorem dX9_weighs_7 : decode cX9_weighs 7 = .ok (.iload_n 1, 1) := by decide +kernel
theorem dX9_weighs_8 : decode cX9_weighs 8 = .ok (.aload_n 2, 1) := by decide +kernel
theorem dX9_weighs_9 : decode cX9_weighs 9 = .ok (.invokespecial 19, 3) := by decide +kernel
theorem dX9_weighs_12 : decode cX9_weighs 12 = .ok (.aload_n 0, 1) := by decide +kernel
theorem dX9_weighs_13 : decode cX9_weighs 13 = .ok (.getfield 22, 3) := by decide +kernel
theorem dX9_weighs_16 : decode cX9_weighs 16 = .ok (.isub, 1) := by decide +kernel
theorem dX9_weighs_17 : decode cX9_weighs 17 = .ok (.ireturn, 1) := by decide +kernel
theorem dX10_init_0 : decode cX10_init 0 = .ok (.aload_n 0, 1) := by decide +kernel
theorem dX10_init_1 : decode cX10_init 1 = .ok (.invokespecial 3, 3) := by decide +kernel
theorem dX10_init_4 : decode cX10_init 4 = .ok (.aload_n 0, 1) := by decide +kernel
theorem dX10_init_5 : decode cX10_init 5 = .ok (.iconst 0, 1) := by decide +kernel
theorem dX10_init_6 : decode cX10_init 6 = .ok (.putfield 9, 3) := by decide +kernel
theorem dX10_init_9 : decode cX10_init 9 = .ok (.aload_n 0, 1) := by decide +kernel
theorem dX10_init_10 : decode cX10_init 10 = .ok (.iconst 0, 1) := by decide +kernel
theorem dX10_init_11 : decode cX10_init 11 = .ok (.putfield 15, 3) := by decide +kernel
theorem dX10_init_14 : decode cX10_init 14 = .ok (.aload_n 0, 1) := by decide +kernel
theorem dX10_init_15 : decode cX10_init 15 = .ok (.iconst 0, 1) := by decide +kernel
theorem dX10_init_16 : decode cX10_init 16 = .ok (.putfield 18, 3) := by decide +kernel
theorem dX10_init_19 : decode cX10_init 19 = .ok (.aload_n 0, 1) := by decide +kernel
theorem dX10_init_20 : decode cX10_init 20 = .ok (.iconst 0, 1) := by decide +kernel
theorem dX10_init_21 : decode cX10_init 21 = .ok (.putfield 21, 3) := by decide +kernel
theorem dX10_init_24 : decode cX10_init 24 = .ok (.aload_n 0, 1) := by decide +kernel
theorem dX10_init_25 : decode cX10_init 25 = .ok (.bipush 10, 2) := by decide +kernel
theorem dX10_init_27 : decode cX10_init 27 = .ok (.newarray .int, 2) := by decide +kernel
theorem dX10_init_29 : decode cX10_init 29 = .ok (.putfield 24, 3) := by decide +kernel
theorem dX10_init_32 : decode cX10_init 32 = .ok (.aload_n 0, 1) := by decide +kernel
theorem dX10_init_33 : decode cX10_init 33 = .ok (.bipush 10, 2) := by decide +kernel
theorem dX10_init_35 : decode cX10_init 35 = .ok (.newarray .int, 2) := by decide +kernel
theorem dX10_init_37 : decode cX10_init 37 = .ok (.putfield 28, 3) := by decide +kernel
theorem dX10_init_40 : decode cX10_init 40 = .ok (.aload_n 0, 1) := by decide +kernel
theorem dX10_init_41 : decode cX10_init 41 = .ok (.bipush 10, 2) := by decide +kernel
theorem dX10_init_43 : decode cX10_init 43 = .ok (.anewarray 31, 3) := by decide +kernel
theorem dX10_init_46 : decode cX10_init 46 = .ok (.putfield 33, 3) := by decide +kernel
theorem dX10_init_49 : decode cX10_init 49 = .ok (.aload_n 0, 1) := by decide +kernel
theorem dX10_init_50 : decode cX10_init 50 = .ok (.bipush 6, 2) := by decide +kernel
theorem dX10_init_52 : decode cX10_init 52 = .ok (.anewarray 37, 3) := by decide +kernel
theorem dX10_init_55 : decode cX10_init 55 = .ok (.putfield 39, 3) := by decide +kernel
theorem dX10_init_58 : decode cX10_init 58 = .ok (.aload_n 0, 1) := by decide +kernel
theorem dX10_init_59 : decode cX10_init 59 = .ok (.bipush 16, 2) := by decide +kernel
theorem dX10_init_61 : decode cX10_init 61 = .ok (.anewarray 43, 3) := by decide +kernel
theorem dX10_init_64 : decode cX10_init 64 = .ok (.putfield 45, 3) := by decide +kernel
theorem dX10_init_67 : decode cX10_init 67 = .ok (.aload_n 0, 1) := by decide +kernel
theorem dX10_init_68 : decode cX10_init 68 = .ok (.bipush 6, 2) := by decide +kernel
theorem dX10_init_70 : decode cX10_init 70 = .ok (.newarray .int, 2) := by decide +kernel
theorem dX10_init_72 : decode cX10_init 72 = .ok (.putfield 49, 3) := by decide +kernel
theorem dX10_init_75 : decode cX10_init 75 = .ok (.iconst 0, 1) := by decide +kernel
theorem dX10_init_76 : decode cX10_init 76 = .ok (.istore_n 1, 1) := by decide +kernel
theorem dX10_init_77 : decode cX10_init 77 = .ok (.iload_n 1, 1) := by decide +kernel
theorem dX10_init_78 : decode cX10_init 78 = .ok (.bipush 10, 2) := by decide +kernel
theorem dX10_init_80 : decode cX10_init 80 = .ok (.if_icmp .ge 22, 3) := by decide +kernel
theorem dX10_init_83 : decode cX10_init 83 = .ok (.aload_n 0, 1) := by decide +kernel
theorem dX10_init_84 : decode cX10_init 84 = .ok (.getfield 33, 3) := by decide +kernel
theorem dX10_init_87 : decode cX10_init 87 = .ok (.iload_n 1, 1) := by decide +kernel
theorem dX10_init_88 : decode cX10_init 88 = .ok (.new 31, 3) := by decide +kernel
theorem dX10_init_91 : decode cX10_init 91 = .ok (.dup, 1) := by decide +kernel
theorem dX10_init_92 : decode cX10_init 92 = .ok (.invokespecial 52, 3) := by decide +kernel
theorem dX10_init_95 : decode cX10_init 95 = .ok (.aastore, 1) := by decide +kernel
theorem dX10_init_96 : decode cX10_init 96 = .ok (.iinc 1 1, 3) := by decide +kernel
theorem dX10_init_99 : decode cX10_init 99 = .ok (.goto (-22), 3) := by decide +kernel
theorem dX10_init_102 : decode cX10_init 102 = .ok (.iconst 0, 1) := by decide +kernel
theorem dX10_init_103 : decode cX10_init 103 = .ok (.istore_n 1, 1) := by decide +kernel
theorem dX10_init_104 : decode cX10_init 104 = .ok (.iload_n 1, 1) := by decide +kernel
theorem dX10_init_105 : decode cX10_init 105 = .ok (.bipush 6, 2) := by decide +kernel
theorem dX10_init_107 : decode cX10_init 107 = .ok (.if_icmp .ge 22, 3) := by decide +kernel
theorem dX10_init_110 : decode cX10_init 110 = .ok (.aload_n 0, 1) := by decide +kernel
theorem dX10_init_111 : decode cX10_init 111 = .ok (.getfield 39, 3) := by decide +kernel
theorem dX10_init_114 : decode cX10_init 114 = .ok (.iload_n 1, 1) := by decide +kernel
theorem dX10_init_115 : decode cX10_init 115 = .ok (.new 37, 3) := by decide +kernel
theorem dX10_init_118 : decode cX10_init 118 = .ok (.dup, 1) := by decide +kernel
theorem dX10_init_119 : decode cX10_init 119 = .ok (.invokespecial 53, 3) := by decide +kernel
theorem dX10_init_122 : decode cX10_init 122 = .ok (.aastore, 1) := by decide +kernel
theorem dX10_init_123 : decode cX10_init 123 = .ok (.iinc 1 1, 3) := by decide +kernel
theorem dX10_init_126 : decode cX10_init 126 = .ok (.goto (-22), 3) := by decide +kernel
theorem dX10_init_129 : decode cX10_init 129 = .ok (.aload_n 0, 1) := by decide +kernel
theorem dX10_init_130 : decode cX10_init 130 = .ok (.getfield 49, 3) := by decide +kernel
theorem dX10_init_133 : decode cX10_init 133 = .ok (.iconst 1, 1) := by decide +kernel
theorem dX10_init_134 : decode cX10_init 134 = .ok (.invokestatic 54, 3) := by decide +kernel
theorem dX10_init_137 : decode cX10_init 137 = .ok (.return_, 1) := by decide +kernel
theorem dX10_become_0 : decode cX10_become 0 = .ok (.aload_n 0, 1) := by decide +kernel
theorem dX10_become_1 : decode cX10_become 1 = .ok (.aload_n 1, 1) := by decide +kernel
theorem dX10_become_2 : decode cX10_become 2 = .ok (.getfield 9, 3) := by decide +kernel
theorem dX10_become_5 : decode cX10_become 5 = .ok (.putfield 9, 3) := by decide +kernel
theorem dX10_become_8 : decode cX10_become 8 = .ok (.aload_n 0, 1) := by decide +kernel
theorem dX10_become_9 : decode cX10_become 9 = .ok (.aload_n 1, 1) := by decide +kernel
theorem dX10_become_10 : decode cX10_become 10 = .ok (.getfield 15, 3) := by decide +kernel
theorem dX10_become_13 : decode cX10_become 13 = .ok (.putfield 15, 3) := by decide +kernel
theorem dX10_become_16 : decode cX10_become 16 = .ok (.aload_n 0, 1) := by decide +kernel
theorem dX10_become_17 : decode cX10_become 17 = .ok (.aload_n 1, 1) := by decide +kernel
theorem dX10_become_18 : decode cX10_become 18 = .ok (.getfield 18, 3) := by decide +kernel
theorem dX10_become_21 : decode cX10_become 21 = .ok (.putfield 18, 3) := by decide +kernel
theorem dX10_become_24 : decode cX10_become 24 = .ok (.aload_n 0, 1) := by decide +kernel
theorem dX10_become_25 : decode cX10_become 25 = .ok (.aload_n 1, 1) := by decide +kernel
theorem dX10_become_26 : decode cX10_become 26 = .ok (.getfield 21, 3) := by decide +kernel
theorem dX10_become_29 : decode cX10_become 29 = .ok (.putfield 21, 3) := by decide +kernel
theorem dX10_become_32 : decode cX10_become 32 = .ok (.iconst 0, 1) := by decide +kernel
theorem dX10_become_33 : decode cX10_become 33 = .ok (.istore_n 2, 1) := by decide +kernel
theorem dX10_become_34 : decode cX10_become 34 = .ok (.iload_n 2, 1) := by decide +kernel
theorem dX10_become_35 : decode cX10_become 35 = .ok (.bipush 10, 2) := by decide +kernel
theorem dX10_become_37 : decode cX10_become 37 = .ok (.if_icmp .ge 48, 3) := by decide +kernel
theorem dX10_become_40 : decode cX10_become 40 = .ok (.aload_n 0, 1) := by decide +kernel
theorem dX10_become_41 : decode cX10_become 41 = .ok (.getfield 24, 3) := by decide +kernel
theorem dX10_become_44 : decode cX10_become 44 = .ok (.iload_n 2, 1) := by decide +kernel
theorem dX10_become_45 : decode cX10_become 45 = .ok (.aload_n 1, 1) := by decide +kernel
theorem dX10_become_46 : decode cX10_become 46 = .ok (.getfield 24, 3) := by decide +kernel
theorem dX10_become_49 : decode cX10_become 49 = .ok (.iload_n 2, 1) := by decide +kernel
theorem dX10_become_50 : decode cX10_become 50 = .ok (.iaload, 1) := by decide +kernel
theorem dX10_become_51 : decode cX10_become 51 = .ok (.iastore, 1) := by decide +kernel
theorem dX10_become_52 : decode cX10_become 52 = .ok (.aload_n 0, 1) := by decide +kernel
theorem dX10_become_53 : decode cX10_become 53 = .ok (.getfield 28, 3) := by decide +kernel
theorem dX10_become_56 : decode cX10_become 56 = .ok (.iload_n 2, 1) := by decide +kernel
theorem dX10_become_57 : decode cX10_become 57 = .ok (.aload_n 1, 1) := by decide +kernel
theorem dX10_become_58 : decode cX10_become 58 = .ok (.getfield 28, 3) := by decide +kernel
theorem dX10_become_61 : decode cX10_become 61 = .ok (.iload_n 2, 1) := by decide +kernel
theorem dX10_become_62 : decode cX10_become 62 = .ok (.iaload, 1) := by decide +kernel
theorem dX10_become_63 : decode cX10_become 63 = .ok (.iastore, 1) := by decide +kernel
theorem dX10_become_64 : decode cX10_become 64 = .ok (.aload_n 0, 1) := by decide +kernel
theorem dX10_become_65 : decode cX10_become 65 = .ok (.getfield 33, 3) := by decide +kernel
theorem dX10_become_68 : decode cX10_become 68 = .ok (.iload_n 2, 1) := by decide +kernel
theorem dX10_become_69 : decode cX10_become 69 = .ok (.aaload, 1) := by decide +kernel
theorem dX10_become_70 : decode cX10_become 70 = .ok (.aload_n 1, 1) := by decide +kernel
theorem dX10_become_71 : decode cX10_become 71 = .ok (.getfield 33, 3) := by decide +kernel
theorem dX10_become_74 : decode cX10_become 74 = .ok (.iload_n 2, 1) := by decide +kernel
theorem dX10_become_75 : decode cX10_become 75 = .ok (.aaload, 1) := by decide +kernel
theorem dX10_become_76 : decode cX10_become 76 = .ok (.invokevirtual 60, 3) := by decide +kernel
theorem dX10_become_79 : decode cX10_become 79 = .ok (.iinc 2 1, 3) := by decide +kernel
theorem dX10_become_82 : decode cX10_become 82 = .ok (.goto (-48), 3) := by decide +kernel
theorem dX10_become_85 : decode cX10_become 85 = .ok (.iconst 0, 1) := by decide +kernel
theorem dX10_become_86 : decode cX10_become 86 = .ok (.istore_n 2, 1) := by decide +kernel
theorem dX10_become_87 : decode cX10_become 87 = .ok (.iload_n 2, 1) := by decide +kernel
theorem dX10_become_88 : decode cX10_become 88 = .ok (.bipush 6, 2) := by decide +kernel
theorem dX10_become_90 : decode cX10_become 90 = .ok (.if_icmp .ge 24, 3) := by decide +kernel
theorem dX10_become_93 : decode cX10_become 93 = .ok (.aload_n 0, 1) := by decide +kernel
theorem dX10_become_94 : decode cX10_become 94 = .ok (.getfield 39, 3) := by decide +kernel
theorem dX10_become_97 : decode cX10_become 97 = .ok (.iload_n 2, 1) := by decide +kernel
theorem dX10_become_98 : decode cX10_become 98 = .ok (.aaload, 1) := by decide +kernel
theorem dX10_become_99 : decode cX10_become 99 = .ok (.aload_n 1, 1) := by decide +kernel
theorem dX10_become_100 : decode cX10_become 100 = .ok (.getfield 39, 3) := by decide +kernel
theorem dX10_become_103 : decode cX10_become 103 = .ok (.iload_n 2, 1) := by decide +kernel
theorem dX10_become_104 : decode cX10_become 104 = .ok (.aaload, 1) := by decide +kernel
theorem dX10_become_105 : decode cX10_become 105 = .ok (.invokevirtual 64, 3) := by decide +kernel
theorem dX10_become_108 : decode cX10_become 108 = .ok (.iinc 2 1, 3) := by decide +kernel
theorem dX10_become_111 : decode cX10_become 111 = .ok (.goto (-24), 3) := by decide +kernel
theorem dX10_become_114 : decode cX10_become 114 = .ok (.iconst 0, 1) := by decide +kernel
theorem dX10_become_115 : decode cX10_become 115 = .ok (.istore_n 2, 1) := by decide +kernel
theorem dX10_become_116 : decode cX10_become 116 = .ok (.iload_n 2, 1) := by decide +kernel
theorem dX10_become_117 : decode cX10_become 117 = .ok (.bipush 16, 2) := by decide +kernel
theorem dX10_become_119 : decode cX10_become 119 = .ok (.if_icmp .ge 21, 3) := by decide +kernel
theorem dX10_become_122 : decode cX10_become 122 = .ok (.aload_n 0, 1) := by decide +kernel
theorem dX10_become_123 : decode cX10_become 123 = .ok (.getfield 45, 3) := by decide +kernel
theorem dX10_become_126 : decode cX10_become 126 = .ok (.iload_n 2, 1) := by decide +kernel
theorem dX10_become_127 : decode cX10_become 127 = .ok (.aload_n 1, 1) := by decide +kernel
theorem dX10_become_128 : decode cX10_become 128 = .ok (.getfield 45, 3) := by decide +kernel
theorem dX10_become_131 : decode cX10_become 131 = .ok (.iload_n 2, 1) := by decide +kernel
theorem dX10_become_132 : decode cX10_become 132 = .ok (.aaload, 1) := by decide +kernel
theorem dX10_become_133 : decode cX10_become 133 = .ok (.aastore, 1) := by decide +kernel
theorem dX10_become_134 : decode cX10_become 134 = .ok (.iinc 2 1, 3) := by decide +kernel
theorem dX10_become_137 : decode cX10_become 137 = .ok (.goto (-21), 3) := by decide +kernel
theorem dX10_become_140 : decode cX10_become 140 = .ok (.aload_n 1, 1) := by decide +kernel
theorem dX10_become_141 : decode cX10_become 141 = .ok (.getfield 49, 3) := by decide +kernel
theorem dX10_become_144 : decode cX10_become 144 = .ok (.iconst 0, 1) := by decide +kernel
theorem dX10_become_145 : decode cX10_become 145 = .ok (.aload_n 0, 1) := by decide +kernel
theorem dX10_become_146 : decode cX10_become 146 = .ok (.getfield 49, 3) := by decide +kernel
theorem dX10_become_149 : decode cX10_become 149 = .ok (.iconst 0, 1) := by decide +kernel
theorem dX10_become_150 : decode cX10_become 150 = .ok (.bipush 6, 2) := by decide +kernel
theorem dX10_become_152 : decode cX10_become 152 = .ok (.invokestatic 67, 3) := by decide +kernel
theorem dX10_become_155 : decode cX10_become 155 = .ok (.return_, 1) := by decide +kernel
theorem dX10_countOf_0 : decode cX10_countOf 0 = .ok (.iconst 0, 1) := by decide +kernel
theorem dX10_countOf_1 : decode cX10_countOf 1 = .ok (.istore_n 2, 1) := by decide +kernel
theorem dX10_countOf_2 : decode cX10_countOf 2 = .ok (.iconst 0, 1) := by decide +kernel
theorem dX10_countOf_3 : decode cX10_countOf 3 = .ok (.istore_n 3, 1) := by decide +kernel
theorem dX10_countOf_4 : decode cX10_countOf 4 = .ok (.iload_n 3, 1) := by decide +kernel
theorem dX10_countOf_5 : decode cX10_countOf 5 = .ok (.aload_n 0, 1) := by decide +kernel
theorem dX10_countOf_6 : decode cX10_countOf 6 = .ok (.getfield 9, 3) := by decide +kernel
theorem dX10_countOf_9 : decode cX10_countOf 9 = .ok (.if_icmp .ge 22, 3) := by decide +kernel
theorem dX10_countOf_12 : decode cX10_countOf 12 = .ok (.aload_n 0, 1) := by decide +kernel
theorem dX10_countOf_13 : decode cX10_countOf 13 = .ok (.getfield 24, 3) := by decide +kernel
theorem dX10_countOf_16 : decode cX10_countOf 16 = .ok (.iload_n 3, 1) := by decide +kernel
theorem dX10_countOf_17 : decode cX10_countOf 17 = .ok (.iaload, 1) := by decide +kernel
theorem dX10_countOf_18 : decode cX10_countOf 18 = .ok (.iload_n 1, 1) := by decide +kernel
theorem dX10_countOf_19 : decode cX10_countOf 19 = .ok (.if_icmp .ne 6, 3) := by decide +kernel
theorem dX10_countOf_22 : decode cX10_countOf 22 = .ok (.iinc 2 1, 3) := by decide +kernel
theorem dX10_countOf_25 : decode cX10_countOf 25 = .ok (.iinc 3 1, 3) := by decide +kernel
theorem dX10_countOf_28 : decode cX10_countOf 28 = .ok (.goto (-24), 3) := by decide +kernel
theorem dX10_countOf_31 : decode cX10_countOf 31 = .ok (.iload_n 2, 1) := by decide +kernel
theorem dX10_countOf_32 : decode cX10_countOf 32 = .ok (.ireturn, 1) := by decide +kernel
theorem dX10_hasRoomFor_0 : decode cX10_hasRoomFor 0 = .ok (.aload_n 0, 1) := by decide +kernel
theorem dX10_hasRoomFor_1 : decode cX10_hasRoomFor 1 = .ok (.getfield 9, 3) := by decide +kernel
theorem dX10_hasRoomFor_4 : decode cX10_hasRoomFor 4 = .ok (.bipush 10, 2) := by decide +kernel
theorem dX10_hasRoomFor_6 : decode cX10_hasRoomFor 6 = .ok (.if_icmp .ge 19, 3) := by decide +kernel
theorem dX10_hasRoomFor_9 : decode cX10_hasRoomFor 9 = .ok (.aload_n 0, 1) := by decide +kernel
theorem dX10_hasRoomFor_10 : decode cX10_hasRoomFor 10 = .ok (.iload_n 1, 1) := by decide +kernel
theorem dX10_hasRoomFor_11 : decode cX10_hasRoomFor 11 = .ok (.invokevirtual 73, 3) := by decide +kernel
theorem dX10_hasRoomFor_14 : decode cX10_hasRoomFor 14 = .ok (.iload_n 1, 1) := by decide +kernel
theorem dX10_hasRoomFor_15 : decode cX10_hasRoomFor 15 = .ok (.invokestatic 77, 3) := by decide +kernel
theorem dX10_hasRoomFor_18 : decode cX10_hasRoomFor 18 = .ok (.if_icmp .ge 7, 3) := by decide +kernel
theorem dX10_hasRoomFor_21 : decode cX10_hasRoomFor 21 = .ok (.iconst 1, 1) := by decide +kernel
theorem dX10_hasRoomFor_22 : decode cX10_hasRoomFor 22 = .ok (.goto 4, 3) := by decide +kernel
theorem dX10_hasRoomFor_25 : decode cX10_hasRoomFor 25 = .ok (.iconst 0, 1) := by decide +kernel
theorem dX10_hasRoomFor_26 : decode cX10_hasRoomFor 26 = .ok (.ireturn, 1) := by decide +kernel
theorem dX10_mostOf_0 : decode cX10_mostOf 0 = .ok (.iload_n 0, 1) := by decide +kernel
theorem dX10_mostOf_1 : decode cX10_mostOf 1 = .ok (.tableswitch 33 0 2 #[27, 29, 31], 27) := by decide +kernel
theorem dX10_mostOf_28 : decode cX10_mostOf 28 = .ok (.iconst 2, 1) := by decide +kernel
theorem dX10_mostOf_29 : decode cX10_mostOf 29 = .ok (.ireturn, 1) := by decide +kernel
theorem dX10_mostOf_30 : decode cX10_mostOf 30 = .ok (.iconst 5, 1) := by decide +kernel
theorem dX10_mostOf_31 : decode cX10_mostOf 31 = .ok (.ireturn, 1) := by decide +kernel
theorem dX10_mostOf_32 : decode cX10_mostOf 32 = .ok (.iconst 3, 1) := by decide +kernel
theorem dX10_mostOf_33 : decode cX10_mostOf 33 = .ok (.ireturn, 1) := by decide +kernel
theorem dX10_mostOf_34 : decode cX10_mostOf 34 = .ok (.iconst 1, 1) := by decide +kernel
theorem dX10_mostOf_35 : decode cX10_mostOf 35 = .ok (.ireturn, 1) := by decide +kernel
theorem dX10_addThing_0 : decode cX10_addThing 0 = .ok (.aload_n 0, 1) := by decide +kernel
theorem dX10_addThing_1 : decode cX10_addThing 1 = .ok (.iload_n 1, 1) := by decide +kernel
theorem dX10_addThing_2 : decode cX10_addThing 2 = .ok (.invokevirtual 80, 3) := by decide +kernel
theorem dX10_addThing_5 : decode cX10_addThing 5 = .ok (.ifCond .ne 5, 3) := by decide +kernel
theorem dX10_addThing_8 : decode cX10_addThing 8 = .ok (.iconst (-1), 1) := by decide +kernel
theorem dX10_addThing_9 : decode cX10_addThing 9 = .ok (.ireturn, 1) := by decide +kernel
theorem dX10_addThing_10 : decode cX10_addThing 10 = .ok (.aload_n 0, 1) := by decide +kernel
theorem dX10_addThing_11 : decode cX10_addThing 11 = .ok (.getfield 9, 3) := by decide +kernel
theorem dX10_addThing_14 : decode cX10_addThing 14 = .ok (.istore_n 3, 1) := by decide +kernel
theorem dX10_addThing_15 : decode cX10_addThing 15 = .ok (.aload_n 0, 1) := by decide +kernel
theorem dX10_addThing_16 : decode cX10_addThing 16 = .ok (.getfield 28, 3) := by decide +kernel
theorem dX10_addThing_19 : decode cX10_addThing 19 = .ok (.iload_n 3, 1) := by decide +kernel
theorem dX10_addThing_20 : decode cX10_addThing 20 = .ok (.aload_n 0, 1) := by decide +kernel
theorem dX10_addThing_21 : decode cX10_addThing 21 = .ok (.iload_n 1, 1) := by decide +kernel
theorem dX10_addThing_22 : decode cX10_addThing 22 = .ok (.invokevirtual 73, 3) := by decide +kernel
theorem dX10_addThing_25 : decode cX10_addThing 25 = .ok (.iastore, 1) := by decide +kernel
theorem dX10_addThing_26 : decode cX10_addThing 26 = .ok (.aload_n 0, 1) := by decide +kernel
theorem dX10_addThing_27 : decode cX10_addThing 27 = .ok (.getfield 24, 3) := by decide +kernel
theorem dX10_addThing_30 : decode cX10_addThing 30 = .ok (.iload_n 3, 1) := by decide +kernel
theorem dX10_addThing_31 : decode cX10_addThing 31 = .ok (.iload_n 1, 1) := by decide +kernel
theorem dX10_addThing_32 : decode cX10_addThing 32 = .ok (.iastore, 1) := by decide +kernel
theorem dX10_addThing_33 : decode cX10_addThing 33 = .ok (.iload_n 1, 1) := by decide +kernel
theorem dX10_addThing_34 : decode cX10_addThing 34 = .ok (.iconst 2, 1) := by decide +kernel
theorem dX10_addThing_35 : decode cX10_addThing 35 = .ok (.if_icmp .eq 8, 3) := by decide +kernel
theorem dX10_addThing_38 : decode cX10_addThing 38 = .ok (.iload_n 1, 1) := by decide +kernel
theorem dX10_addThing_39 : decode cX10_addThing 39 = .ok (.iconst 3, 1) := by decide +kernel
theorem dX10_addThing_40 : decode cX10_addThing 40 = .ok (.if_icmp .ne 13, 3) := by decide +kernel
theorem dX10_addThing_43 : decode cX10_addThing 43 = .ok (.aload_n 0, 1) := by decide +kernel
theorem dX10_addThing_44 : decode cX10_addThing 44 = .ok (.getfield 33, 3) := by decide +kernel
theorem dX10_addThing_47 : decode cX10_addThing 47 = .ok (.iload_n 3, 1) := by decide +kernel
theorem dX10_addThing_48 : decode cX10_addThing 48 = .ok (.aaload, 1) := by decide +kernel
theorem dX10_addThing_49 : decode cX10_addThing 49 = .ok (.aload_n 2, 1) := by decide +kernel
theorem dX10_addThing_50 : decode cX10_addThing 50 = .ok (.invokevirtual 60, 3) := by decide +kernel
theorem dX10_addThing_53 : decode cX10_addThing 53 = .ok (.aload_n 0, 1) := by decide +kernel
theorem dX10_addThing_54 : decode cX10_addThing 54 = .ok (.dup, 1) := by decide +kernel
theorem dX10_addThing_55 : decode cX10_addThing 55 = .ok (.getfield 9, 3) := by decide +kernel
theorem dX10_addThing_58 : decode cX10_addThing 58 = .ok (.iconst 1, 1) := by decide +kernel
theorem dX10_addThing_59 : decode cX10_addThing 59 = .ok (.iadd, 1) := by decide +kernel
theorem dX10_addThing_60 : decode cX10_addThing 60 = .ok (.putfield 9, 3) := by decide +kernel
theorem dX10_addThing_63 : decode cX10_addThing 63 = .ok (.iload_n 3, 1) := by decide +kernel
theorem dX10_addThing_64 : decode cX10_addThing 64 = .ok (.ireturn, 1) := by decide +kernel
theorem dX10_addHappening_0 : decode cX10_addHappening 0 = .ok (.aload_n 0, 1) := by decide +kernel
theorem dX10_addHappening_1 : decode cX10_addHappening 1 = .ok (.getfield 15, 3) := by decide +kernel
theorem dX10_addHappening_4 : decode cX10_addHappening 4 = .ok (.bipush 6, 2) := by decide +kernel
theorem dX10_addHappening_6 : decode cX10_addHappening 6 = .ok (.if_icmp .lt 5, 3) := by decide +kernel
theorem dX10_addHappening_9 : decode cX10_addHappening 9 = .ok (.iconst (-1), 1) := by decide +kernel
theorem dX10_addHappening_10 : decode cX10_addHappening 10 = .ok (.ireturn, 1) := by decide +kernel
theorem dX10_addHappening_11 : decode cX10_addHappening 11 = .ok (.aload_n 0, 1) := by decide +kernel
theorem dX10_addHappening_12 : decode cX10_addHappening 12 = .ok (.getfield 15, 3) := by decide +kernel
theorem dX10_addHappening_15 : decode cX10_addHappening 15 = .ok (.istore 4, 2) := by decide +kernel
theorem dX10_addHappening_17 : decode cX10_addHappening 17 = .ok (.aload_n 0, 1) := by decide +kernel
theorem dX10_addHappening_18 : decode cX10_addHappening 18 = .ok (.getfield 39, 3) := by decide +kernel
theorem dX10_addHappening_21 : decode cX10_addHappening 21 = .ok (.iload 4, 2) := by decide +kernel
theorem dX10_addHappening_23 : decode cX10_addHappening 23 = .ok (.aaload, 1) := by decide +kernel
theorem dX10_addHappening_24 : decode cX10_addHappening 24 = .ok (.aload_n 1, 1) := by decide +kernel
theorem dX10_addHappening_25 : decode cX10_addHappening 25 = .ok (.invokevirtual 64, 3) := by decide +kernel
theorem dX10_addHappening_28 : decode cX10_addHappening 28 = .ok (.aload_n 0, 1) := by decide +kernel
theorem dX10_addHappening_29 : decode cX10_addHappening 29 = .ok (.getfield 39, 3) := by decide +kernel
theorem dX10_addHappening_32 : decode cX10_addHappening 32 = .ok (.iload 4, 2) := by decide +kernel
theorem dX10_addHappening_34 : decode cX10_addHappening 34 = .ok (.aaload, 1) := by decide +kernel
theorem dX10_addHappening_35 : decode cX10_addHappening 35 = .ok (.iload_n 2, 1) := by decide +kernel
theorem dX10_addHappening_36 : decode cX10_addHappening 36 = .ok (.putfield 84, 3) := by decide +kernel
theorem dX10_addHappening_39 : decode cX10_addHappening 39 = .ok (.aload_n 0, 1) := by decide +kernel
theorem dX10_addHappening_40 : decode cX10_addHappening 40 = .ok (.getfield 39, 3) := by decide +kernel
theorem dX10_addHappening_43 : decode cX10_addHappening 43 = .ok (.iload 4, 2) := by decide +kernel
theorem dX10_addHappening_45 : decode cX10_addHappening 45 = .ok (.aaload, 1) := by decide +kernel
theorem dX10_addHappening_46 : decode cX10_addHappening 46 = .ok (.iload_n 3, 1) := by decide +kernel
theorem dX10_addHappening_47 : decode cX10_addHappening 47 = .ok (.putfield 87, 3) := by decide +kernel
theorem dX10_addHappening_50 : decode cX10_addHappening 50 = .ok (.aload_n 0, 1) := by decide +kernel
theorem dX10_addHappening_51 : decode cX10_addHappening 51 = .ok (.dup, 1) := by decide +kernel
theorem dX10_addHappening_52 : decode cX10_addHappening 52 = .ok (.getfield 15, 3) := by decide +kernel
theorem dX10_addHappening_55 : decode cX10_addHappening 55 = .ok (.iconst 1, 1) := by decide +kernel
theorem dX10_addHappening_56 : decode cX10_addHappening 56 = .ok (.iadd, 1) := by decide +kernel
theorem dX10_addHappening_57 : decode cX10_addHappening 57 = .ok (.putfield 15, 3) := by decide +kernel
theorem dX10_addHappening_60 : decode cX10_addHappening 60 = .ok (.iload 4, 2) := by decide +kernel
theorem dX10_addHappening_62 : decode cX10_addHappening 62 = .ok (.ireturn, 1) := by decide +kernel
theorem dX10_hasRoomForPiece_0 : decode cX10_hasRoomForPiece 0 = .ok (.aload_n 0, 1) := by decide +kernel
theorem dX10_hasRoomForPiece_1 : decode cX10_hasRoomForPiece 1 = .ok (.getfield 18, 3) := by decide +kernel
theorem dX10_hasRoomForPiece_4 : decode cX10_hasRoomForPiece 4 = .ok (.bipush 16, 2) := by decide +kernel
theorem dX10_hasRoomForPiece_6 : decode cX10_hasRoomForPiece 6 = .ok (.if_icmp .lt 5, 3) := by decide +kernel
theorem dX10_hasRoomForPiece_9 : decode cX10_hasRoomForPiece 9 = .ok (.iconst 0, 1) := by decide +kernel
theorem dX10_hasRoomForPiece_10 : decode cX10_hasRoomForPiece 10 = .ok (.ireturn, 1) := by decide +kernel
theorem dX10_hasRoomForPiece_11 : decode cX10_hasRoomForPiece 11 = .ok (.iconst 0, 1) := by decide +kernel
theorem dX10_hasRoomForPiece_12 : decode cX10_hasRoomForPiece 12 = .ok (.istore_n 2, 1) := by decide +kernel
theorem dX10_hasRoomForPiece_13 : decode cX10_hasRoomForPiece 13 = .ok (.iconst 0, 1) := by decide +kernel
theorem dX10_hasRoomForPiece_14 : decode cX10_hasRoomForPiece 14 = .ok (.istore_n 3, 1) := by decide +kernel
theorem dX10_hasRoomForPiece_15 : decode cX10_hasRoomForPiece 15 = .ok (.iload_n 3, 1) := by decide +kernel
theorem dX10_hasRoomForPiece_16 : decode cX10_hasRoomForPiece 16 = .ok (.aload_n 0, 1) := by decide +kernel
theorem dX10_hasRoomForPiece_17 : decode cX10_hasRoomForPiece 17 = .ok (.getfield 18, 3) := by decide +kernel
theorem dX10_hasRoomForPiece_20 : decode cX10_hasRoomForPiece 20 = .ok (.if_icmp .ge 34, 3) := by decide +kernel
theorem dX10_hasRoomForPiece_23 : decode cX10_hasRoomForPiece 23 = .ok (.aload_n 0, 1) := by decide +kernel
theorem dX10_hasRoomForPiece_24 : decode cX10_hasRoomForPiece 24 = .ok (.getfield 45, 3) := by decide +kernel
theorem dX10_hasRoomForPiece_27 : decode cX10_hasRoomForPiece 27 = .ok (.iload_n 3, 1) := by decide +kernel
theorem dX10_hasRoomForPiece_28 : decode cX10_hasRoomForPiece 28 = .ok (.aaload, 1) := by decide +kernel
theorem dX10_hasRoomForPiece_29 : decode cX10_hasRoomForPiece 29 = .ok (.astore 4, 2) := by decide +kernel
theorem dX10_hasRoomForPiece_31 : decode cX10_hasRoomForPiece 31 = .ok (.aload 4, 2) := by decide +kernel
theorem dX10_hasRoomForPiece_33 : decode cX10_hasRoomForPiece 33 = .ok (.ifnull 15, 3) := by decide +kernel
theorem dX10_hasRoomForPiece_36 : decode cX10_hasRoomForPiece 36 = .ok (.aload 4, 2) := by decide +kernel
theorem dX10_hasRoomForPiece_38 : decode cX10_hasRoomForPiece 38 = .ok (.getfield 91, 3) := by decide +kernel
theorem dX10_hasRoomForPiece_41 : decode cX10_hasRoomForPiece 41 = .ok (.iconst 1, 1) := by decide +kernel
theorem dX10_hasRoomForPiece_42 : decode cX10_hasRoomForPiece 42 = .ok (.if_icmp .ne 6, 3) := by decide +kernel
theorem dX10_hasRoomForPiece_45 : decode cX10_hasRoomForPiece 45 = .ok (.iinc 2 1, 3) := by decide +kernel
theorem dX10_hasRoomForPiece_48 : decode cX10_hasRoomForPiece 48 = .ok (.iinc 3 1, 3) := by decide +kernel
theorem dX10_hasRoomForPiece_51 : decode cX10_hasRoomForPiece 51 = .ok (.goto (-36), 3) := by decide +kernel
theorem dX10_hasRoomForPiece_54 : decode cX10_hasRoomForPiece 54 = .ok (.iload_n 1, 1) := by decide +kernel
theorem dX10_hasRoomForPiece_55 : decode cX10_hasRoomForPiece 55 = .ok (.iconst 1, 1) := by decide +kernel
theorem dX10_hasRoomForPiece_56 : decode cX10_hasRoomForPiece 56 = .ok (.if_icmp .ne 8, 3) := by decide +kernel
theorem dX10_hasRoomForPiece_59 : decode cX10_hasRoomForPiece 59 = .ok (.iload_n 2, 1) := by decide +kernel
theorem dX10_hasRoomForPiece_60 : decode cX10_hasRoomForPiece 60 = .ok (.iconst 2, 1) := by decide +kernel
theorem dX10_hasRoomForPiece_61 : decode cX10_hasRoomForPiece 61 = .ok (.if_icmp .ge 7, 3) := by decide +kernel
theorem dX10_hasRoomForPiece_64 : decode cX10_hasRoomForPiece 64 = .ok (.iconst 1, 1) := by decide +kernel
theorem dX10_hasRoomForPiece_65 : decode cX10_hasRoomForPiece 65 = .ok (.goto 4, 3) := by decide +kernel
theorem dX10_hasRoomForPiece_68 : decode cX10_hasRoomForPiece 68 = .ok (.iconst 0, 1) := by decide +kernel
theorem dX10_hasRoomForPiece_69 : decode cX10_hasRoomForPiece 69 = .ok (.ireturn, 1) := by decide +kernel
theorem dX10_addPiece_0 : decode cX10_addPiece 0 = .ok (.aload_n 0, 1) := by decide +kernel
theorem dX10_addPiece_1 : decode cX10_addPiece 1 = .ok (.getfield 18, 3) := by decide +kernel
theorem dX10_addPiece_4 : decode cX10_addPiece 4 = .ok (.bipush 16, 2) := by decide +kernel
theorem dX10_addPiece_6 : decode cX10_addPiece 6 = .ok (.if_icmp .lt 5, 3) := by decide +kernel
theorem dX10_addPiece_9 : decode cX10_addPiece 9 = .ok (.iconst (-1), 1) := by decide +kernel
theorem dX10_addPiece_10 : decode cX10_addPiece 10 = .ok (.ireturn, 1) := by decide +kernel
theorem dX10_addPiece_11 : decode cX10_addPiece 11 = .ok (.aload_n 0, 1) := by decide +kernel
theorem dX10_addPiece_12 : decode cX10_addPiece 12 = .ok (.getfield 18, 3) := by decide +kernel
theorem dX10_addPiece_15 : decode cX10_addPiece 15 = .ok (.istore 7, 2) := by decide +kernel
theorem dX10_addPiece_17 : decode cX10_addPiece 17 = .ok (.iload_n 1, 1) := by decide +kernel
theorem dX10_addPiece_18 : decode cX10_addPiece 18 = .ok (.tableswitch 103 1 3 #[26, 51, 78], 26) := by decide +kernel
theorem dX10_addPiece_44 : decode cX10_addPiece 44 = .ok (.aload_n 0, 1) := by decide +kernel
theorem dX10_addPiece_45 : decode cX10_addPiece 45 = .ok (.getfield 45, 3) := by decide +kernel
theorem dX10_addPiece_48 : decode cX10_addPiece 48 = .ok (.iload 7, 2) := by decide +kernel
theorem dX10_addPiece_50 : decode cX10_addPiece 50 = .ok (.new 94, 3) := by decide +kernel
theorem dX10_addPiece_53 : decode cX10_addPiece 53 = .ok (.dup, 1) := by decide +kernel
theorem dX10_addPiece_54 : decode cX10_addPiece 54 = .ok (.iload 7, 2) := by decide +kernel
theorem dX10_addPiece_56 : decode cX10_addPiece 56 = .ok (.iload_n 2, 1) := by decide +kernel
theorem dX10_addPiece_57 : decode cX10_addPiece 57 = .ok (.iload_n 3, 1) := by decide +kernel
theorem dX10_addPiece_58 : decode cX10_addPiece 58 = .ok (.iload 4, 2) := by decide +kernel
theorem dX10_addPiece_60 : decode cX10_addPiece 60 = .ok (.iload 6, 2) := by decide +kernel
theorem dX10_addPiece_62 : decode cX10_addPiece 62 = .ok (.invokespecial 96, 3) := by decide +kernel
theorem dX10_addPiece_65 : decode cX10_addPiece 65 = .ok (.aastore, 1) := by decide +kernel
theorem dX10_addPiece_66 : decode cX10_addPiece 66 = .ok (.goto 75, 3) := by decide +kernel
theorem dX10_addPiece_69 : decode cX10_addPiece 69 = .ok (.aload_n 0, 1) := by decide +kernel
theorem dX10_addPiece_70 : decode cX10_addPiece 70 = .ok (.getfield 45, 3) := by decide +kernel
theorem dX10_addPiece_73 : decode cX10_addPiece 73 = .ok (.iload 7, 2) := by decide +kernel
theorem dX10_addPiece_75 : decode cX10_addPiece 75 = .ok (.new 99, 3) := by decide +kernel
theorem dX10_addPiece_78 : decode cX10_addPiece 78 = .ok (.dup, 1) := by decide +kernel
theorem dX10_addPiece_79 : decode cX10_addPiece 79 = .ok (.iload 7, 2) := by decide +kernel
theorem dX10_addPiece_81 : decode cX10_addPiece 81 = .ok (.iload_n 2, 1) := by decide +kernel
theorem dX10_addPiece_82 : decode cX10_addPiece 82 = .ok (.iload_n 3, 1) := by decide +kernel
theorem dX10_addPiece_83 : decode cX10_addPiece 83 = .ok (.iload 4, 2) := by decide +kernel
theorem dX10_addPiece_85 : decode cX10_addPiece 85 = .ok (.iload 5, 2) := by decide +kernel
theorem dX10_addPiece_87 : decode cX10_addPiece 87 = .ok (.iload 6, 2) := by decide +kernel
theorem dX10_addPiece_89 : decode cX10_addPiece 89 = .ok (.invokespecial 101, 3) := by decide +kernel
theorem dX10_addPiece_92 : decode cX10_addPiece 92 = .ok (.aastore, 1) := by decide +kernel
theorem dX10_addPiece_93 : decode cX10_addPiece 93 = .ok (.goto 48, 3) := by decide +kernel
theorem dX10_addPiece_96 : decode cX10_addPiece 96 = .ok (.aload_n 0, 1) := by decide +kernel
theorem dX10_addPiece_97 : decode cX10_addPiece 97 = .ok (.getfield 45, 3) := by decide +kernel
theorem dX10_addPiece_100 : decode cX10_addPiece 100 = .ok (.iload 7, 2) := by decide +kernel
theorem dX10_addPiece_102 : decode cX10_addPiece 102 = .ok (.new 104, 3) := by decide +kernel
theorem dX10_addPiece_105 : decode cX10_addPiece 105 = .ok (.dup, 1) := by decide +kernel
theorem dX10_addPiece_106 : decode cX10_addPiece 106 = .ok (.iload 7, 2) := by decide +kernel
theorem dX10_addPiece_108 : decode cX10_addPiece 108 = .ok (.iload_n 2, 1) := by decide +kernel
theorem dX10_addPiece_109 : decode cX10_addPiece 109 = .ok (.iload_n 3, 1) := by decide +kernel
theorem dX10_addPiece_110 : decode cX10_addPiece 110 = .ok (.iload 4, 2) := by decide +kernel
theorem dX10_addPiece_112 : decode cX10_addPiece 112 = .ok (.iload 6, 2) := by decide +kernel
theorem dX10_addPiece_114 : decode cX10_addPiece 114 = .ok (.invokespecial 106, 3) := by decide +kernel
theorem dX10_addPiece_117 : decode cX10_addPiece 117 = .ok (.aastore, 1) := by decide +kernel
theorem dX10_addPiece_118 : decode cX10_addPiece 118 = .ok (.goto 23, 3) := by decide +kernel
theorem dX10_addPiece_121 : decode cX10_addPiece 121 = .ok (.aload_n 0, 1) := by decide +kernel
theorem dX10_addPiece_122 : decode cX10_addPiece 122 = .ok (.getfield 45, 3) := by decide +kernel
theorem dX10_addPiece_125 : decode cX10_addPiece 125 = .ok (.iload 7, 2) := by decide +kernel
theorem dX10_addPiece_127 : decode cX10_addPiece 127 = .ok (.new 43, 3) := by decide +kernel
theorem dX10_addPiece_130 : decode cX10_addPiece 130 = .ok (.dup, 1) := by decide +kernel
theorem dX10_addPiece_131 : decode cX10_addPiece 131 = .ok (.iload 7, 2) := by decide +kernel
theorem dX10_addPiece_133 : decode cX10_addPiece 133 = .ok (.iload_n 2, 1) := by decide +kernel
theorem dX10_addPiece_134 : decode cX10_addPiece 134 = .ok (.iload_n 3, 1) := by decide +kernel
theorem dX10_addPiece_135 : decode cX10_addPiece 135 = .ok (.iload 6, 2) := by decide +kernel
theorem dX10_addPiece_137 : decode cX10_addPiece 137 = .ok (.invokespecial 107, 3) := by decide +kernel
theorem dX10_addPiece_140 : decode cX10_addPiece 140 = .ok (.aastore, 1) := by decide +kernel
theorem dX10_addPiece_141 : decode cX10_addPiece 141 = .ok (.aload_n 0, 1) := by decide +kernel
theorem dX10_addPiece_142 : decode cX10_addPiece 142 = .ok (.dup, 1) := by decide +kernel
theorem dX10_addPiece_143 : decode cX10_addPiece 143 = .ok (.getfield 18, 3) := by decide +kernel
theorem dX10_addPiece_146 : decode cX10_addPiece 146 = .ok (.iconst 1, 1) := by decide +kernel
theorem dX10_addPiece_147 : decode cX10_addPiece 147 = .ok (.iadd, 1) := by decide +kernel
theorem dX10_addPiece_148 : decode cX10_addPiece 148 = .ok (.putfield 18, 3) := by decide +kernel
theorem dX10_addPiece_151 : decode cX10_addPiece 151 = .ok (.iload 7, 2) := by decide +kernel
theorem dX10_addPiece_153 : decode cX10_addPiece 153 = .ok (.ireturn, 1) := by decide +kernel
theorem dX10_pieceAt_0 : decode cX10_pieceAt 0 = .ok (.iload_n 1, 1) := by decide +kernel
theorem dX10_pieceAt_1 : decode cX10_pieceAt 1 = .ok (.ifCond .lt 20, 3) := by decide +kernel
theorem dX10_pieceAt_4 : decode cX10_pieceAt 4 = .ok (.iload_n 1, 1) := by decide +kernel
theorem dX10_pieceAt_5 : decode cX10_pieceAt 5 = .ok (.aload_n 0, 1) := by decide +kernel
theorem dX10_pieceAt_6 : decode cX10_pieceAt 6 = .ok (.getfield 18, 3) := by decide +kernel
theorem dX10_pieceAt_9 : decode cX10_pieceAt 9 = .ok (.if_icmp .ge 12, 3) := by decide +kernel
theorem dX10_pieceAt_12 : decode cX10_pieceAt 12 = .ok (.aload_n 0, 1) := by decide +kernel
theorem dX10_pieceAt_13 : decode cX10_pieceAt 13 = .ok (.getfield 45, 3) := by decide +kernel
theorem dX10_pieceAt_16 : decode cX10_pieceAt 16 = .ok (.iload_n 1, 1) := by decide +kernel
theorem dX10_pieceAt_17 : decode cX10_pieceAt 17 = .ok (.aaload, 1) := by decide +kernel
theorem dX10_pieceAt_18 : decode cX10_pieceAt 18 = .ok (.goto 4, 3) := by decide +kernel
theorem dX10_pieceAt_21 : decode cX10_pieceAt 21 = .ok (.aconst_null, 1) := by decide +kernel
theorem dX10_pieceAt_22 : decode cX10_pieceAt 22 = .ok (.areturn, 1) := by decide +kernel
theorem dX10_isPutBy_0 : decode cX10_isPutBy 0 = .ok (.aload_n 0, 1) := by decide +kernel
theorem dX10_isPutBy_1 : decode cX10_isPutBy 1 = .ok (.getfield 21, 3) := by decide +kernel
theorem dX10_isPutBy_4 : decode cX10_isPutBy 4 = .ok (.iload_n 1, 1) := by decide +kernel
theorem dX10_isPutBy_5 : decode cX10_isPutBy 5 = .ok (.ishr, 1) := by decide +kernel
theorem dX10_isPutBy_6 : decode cX10_isPutBy 6 = .ok (.iconst 1, 1) := by decide +kernel
theorem dX10_isPutBy_7 : decode cX10_isPutBy 7 = .ok (.iand, 1) := by decide +kernel
theorem dX10_isPutBy_8 : decode cX10_isPutBy 8 = .ok (.ifCond .eq 7, 3) := by decide +kernel
theorem dX10_isPutBy_11 : decode cX10_isPutBy 11 = .ok (.iconst 1, 1) := by decide +kernel
theorem dX10_isPutBy_12 : decode cX10_isPutBy 12 = .ok (.goto 4, 3) := by decide +kernel
theorem dX10_isPutBy_15 : decode cX10_isPutBy 15 = .ok (.iconst 0, 1) := by decide +kernel
theorem dX10_isPutBy_16 : decode cX10_isPutBy 16 = .ok (.ireturn, 1) := by decide +kernel
theorem dX10_inForce_0 : decode cX10_inForce 0 = .ok (.iconst 1, 1) := by decide +kernel
theorem dX10_inForce_1 : decode cX10_inForce 1 = .ok (.aload_n 0, 1) := by decide +kernel
theorem dX10_inForce_2 : decode cX10_inForce 2 = .ok (.getfield 18, 3) := by decide +kernel
theorem dX10_inForce_5 : decode cX10_inForce 5 = .ok (.ishl, 1) := by decide +kernel
theorem dX10_inForce_6 : decode cX10_inForce 6 = .ok (.iconst 1, 1) := by decide +kernel
theorem dX10_inForce_7 : decode cX10_inForce 7 = .ok (.isub, 1) := by decide +kernel
theorem dX10_inForce_8 : decode cX10_inForce 8 = .ok (.aload_n 0, 1) := by decide +kernel
theorem dX10_inForce_9 : decode cX10_inForce 9 = .ok (.getfield 21, 3) := by decide +kernel
theorem dX10_inForce_12 : decode cX10_inForce 12 = .ok (.iconst (-1), 1) := by decide +kernel
theorem dX10_inForce_13 : decode cX10_inForce 13 = .ok (.ixor, 1) := by decide +kernel
theorem dX10_inForce_14 : decode cX10_inForce 14 = .ok (.iand, 1) := by decide +kernel
theorem dX10_inForce_15 : decode cX10_inForce 15 = .ok (.ireturn, 1) := by decide +kernel
theorem dX10_toldBy_0 : decode cX10_toldBy 0 = .ok (.iconst 0, 1) := by decide +kernel
theorem dX10_toldBy_1 : decode cX10_toldBy 1 = .ok (.istore_n 3, 1) := by decide +kernel
theorem dX10_toldBy_2 : decode cX10_toldBy 2 = .ok (.iconst 0, 1) := by decide +kernel
theorem dX10_toldBy_3 : decode cX10_toldBy 3 = .ok (.istore 4, 2) := by decide +kernel
theorem dX10_toldBy_5 : decode cX10_toldBy 5 = .ok (.iload 4, 2) := by decide +kernel
theorem dX10_toldBy_7 : decode cX10_toldBy 7 = .ok (.aload_n 0, 1) := by decide +kernel
theorem dX10_toldBy_8 : decode cX10_toldBy 8 = .ok (.getfield 18, 3) := by decide +kernel
theorem dX10_toldBy_11 : decode cX10_toldBy 11 = .ok (.if_icmp .ge 48, 3) := by decide +kernel
theorem dX10_toldBy_14 : decode cX10_toldBy 14 = .ok (.aload_n 0, 1) := by decide +kernel
theorem dX10_toldBy_15 : decode cX10_toldBy 15 = .ok (.getfield 45, 3) := by decide +kernel
theorem dX10_toldBy_18 : decode cX10_toldBy 18 = .ok (.iload 4, 2) := by decide +kernel
theorem dX10_toldBy_20 : decode cX10_toldBy 20 = .ok (.aaload, 1) := by decide +kernel
theorem dX10_toldBy_21 : decode cX10_toldBy 21 = .ok (.astore 5, 2) := by decide +kernel
theorem dX10_toldBy_23 : decode cX10_toldBy 23 = .ok (.aload 5, 2) := by decide +kernel
theorem dX10_toldBy_25 : decode cX10_toldBy 25 = .ok (.ifnull 28, 3) := by decide +kernel
theorem dX10_toldBy_28 : decode cX10_toldBy 28 = .ok (.aload 5, 2) := by decide +kernel
theorem dX10_toldBy_30 : decode cX10_toldBy 30 = .ok (.getfield 110, 3) := by decide +kernel
theorem dX10_toldBy_33 : decode cX10_toldBy 33 = .ok (.iload_n 1, 1) := by decide +kernel
theorem dX10_toldBy_34 : decode cX10_toldBy 34 = .ok (.if_icmp .ne 19, 3) := by decide +kernel
theorem dX10_toldBy_37 : decode cX10_toldBy 37 = .ok (.aload 5, 2) := by decide +kernel
theorem dX10_toldBy_39 : decode cX10_toldBy 39 = .ok (.getfield 113, 3) := by decide +kernel
theorem dX10_toldBy_42 : decode cX10_toldBy 42 = .ok (.iload_n 2, 1) := by decide +kernel
theorem dX10_toldBy_43 : decode cX10_toldBy 43 = .ok (.if_icmp .gt 10, 3) := by decide +kernel
theorem dX10_toldBy_46 : decode cX10_toldBy 46 = .ok (.iload_n 3, 1) := by decide +kernel
theorem dX10_toldBy_47 : decode cX10_toldBy 47 = .ok (.iconst 1, 1) := by decide +kernel
theorem dX10_toldBy_48 : decode cX10_toldBy 48 = .ok (.iload 4, 2) := by decide +kernel
theorem dX10_toldBy_50 : decode cX10_toldBy 50 = .ok (.ishl, 1) := by decide +kernel
theorem dX10_toldBy_51 : decode cX10_toldBy 51 = .ok (.ior, 1) := by decide +kernel
theorem dX10_toldBy_52 : decode cX10_toldBy 52 = .ok (.istore_n 3, 1) := by decide +kernel
theorem dX10_toldBy_53 : decode cX10_toldBy 53 = .ok (.iinc 4 1, 3) := by decide +kernel
theorem dX10_toldBy_56 : decode cX10_toldBy 56 = .ok (.goto (-51), 3) := by decide +kernel
theorem dX10_toldBy_59 : decode cX10_toldBy 59 = .ok (.iload_n 3, 1) := by decide +kernel
theorem dX10_toldBy_60 : decode cX10_toldBy 60 = .ok (.aload_n 0, 1) := by decide +kernel
theorem dX10_toldBy_61 : decode cX10_toldBy 61 = .ok (.invokevirtual 116, 3) := by decide +kernel
theorem dX10_toldBy_64 : decode cX10_toldBy 64 = .ok (.iand, 1) := by decide +kernel
theorem dX10_toldBy_65 : decode cX10_toldBy 65 = .ok (.ireturn, 1) := by decide +kernel
theorem dX10_weightOf_0 : decode cX10_weightOf 0 = .ok (.aload_n 0, 1) := by decide +kernel
theorem dX10_weightOf_1 : decode cX10_weightOf 1 = .ok (.iload_n 1, 1) := by decide +kernel
theorem dX10_weightOf_2 : decode cX10_weightOf 2 = .ok (.invokevirtual 120, 3) := by decide +kernel
theorem dX10_weightOf_5 : decode cX10_weightOf 5 = .ok (.astore_n 2, 1) := by decide +kernel
theorem dX10_weightOf_6 : decode cX10_weightOf 6 = .ok (.aload_n 2, 1) := by decide +kernel
theorem dX10_weightOf_7 : decode cX10_weightOf 7 = .ok (.ifnonnull 7, 3) := by decide +kernel
theorem dX10_weightOf_10 : decode cX10_weightOf 10 = .ok (.iconst 0, 1) := by decide +kernel
theorem dX10_weightOf_11 : decode cX10_weightOf 11 = .ok (.goto 12, 3) := by decide +kernel
theorem dX10_weightOf_14 : decode cX10_weightOf 14 = .ok (.aload_n 0, 1) := by decide +kernel
theorem dX10_weightOf_15 : decode cX10_weightOf 15 = .ok (.getfield 49, 3) := by decide +kernel
theorem dX10_weightOf_18 : decode cX10_weightOf 18 = .ok (.aload_n 2, 1) := by decide +kernel
theorem dX10_weightOf_19 : decode cX10_weightOf 19 = .ok (.getfield 110, 3) := by decide +kernel
theorem dX10_weightOf_22 : decode cX10_weightOf 22 = .ok (.iaload, 1) := by decide +kernel
theorem dX10_weightOf_23 : decode cX10_weightOf 23 = .ok (.ireturn, 1) := by decide +kernel
theorem dX10_isSeenIn_0 : decode cX10_isSeenIn 0 = .ok (.iconst 0, 1) := by decide +kernel
theorem dX10_isSeenIn_1 : decode cX10_isSeenIn 1 = .ok (.istore_n 2, 1) := by decide +kernel
theorem dX10_isSeenIn_2 : decode cX10_isSeenIn 2 = .ok (.iload_n 2, 1) := by decide +kernel
theorem dX10_isSeenIn_3 : decode cX10_isSeenIn 3 = .ok (.aload_n 0, 1) := by decide +kernel
theorem dX10_isSeenIn_4 : decode cX10_isSeenIn 4 = .ok (.getfield 18, 3) := by decide +kernel
theorem dX10_isSeenIn_7 : decode cX10_isSeenIn 7 = .ok (.if_icmp .ge 45, 3) := by decide +kernel
theorem dX10_isSeenIn_10 : decode cX10_isSeenIn 10 = .ok (.aload_n 0, 1) := by decide +kernel
theorem dX10_isSeenIn_11 : decode cX10_isSeenIn 11 = .ok (.getfield 45, 3) := by decide +kernel
theorem dX10_isSeenIn_14 : decode cX10_isSeenIn 14 = .ok (.iload_n 2, 1) := by decide +kernel
theorem dX10_isSeenIn_15 : decode cX10_isSeenIn 15 = .ok (.aaload, 1) := by decide +kernel
theorem dX10_isSeenIn_16 : decode cX10_isSeenIn 16 = .ok (.astore_n 3, 1) := by decide +kernel
theorem dX10_isSeenIn_17 : decode cX10_isSeenIn 17 = .ok (.aload_n 3, 1) := by decide +kernel
theorem dX10_isSeenIn_18 : decode cX10_isSeenIn 18 = .ok (.ifnull 28, 3) := by decide +kernel
theorem dX10_isSeenIn_21 : decode cX10_isSeenIn 21 = .ok (.aload_n 3, 1) := by decide +kernel
theorem dX10_isSeenIn_22 : decode cX10_isSeenIn 22 = .ok (.getfield 91, 3) := by decide +kernel
theorem dX10_isSeenIn_25 : decode cX10_isSeenIn 25 = .ok (.ifCond .ne 21, 3) := by decide +kernel
theorem dX10_isSeenIn_28 : decode cX10_isSeenIn 28 = .ok (.aload_n 3, 1) := by decide +kernel
theorem dX10_isSeenIn_29 : decode cX10_isSeenIn 29 = .ok (.getfield 124, 3) := by decide +kernel
theorem dX10_isSeenIn_32 : decode cX10_isSeenIn 32 = .ok (.iload_n 1, 1) := by decide +kernel
theorem dX10_isSeenIn_33 : decode cX10_isSeenIn 33 = .ok (.if_icmp .ne 13, 3) := by decide +kernel
theorem dX10_isSeenIn_36 : decode cX10_isSeenIn 36 = .ok (.aload_n 0, 1) := by decide +kernel
theorem dX10_isSeenIn_37 : decode cX10_isSeenIn 37 = .ok (.iload_n 2, 1) := by decide +kernel
theorem dX10_isSeenIn_38 : decode cX10_isSeenIn 38 = .ok (.invokevirtual 127, 3) := by decide +kernel
theorem dX10_isSeenIn_41 : decode cX10_isSeenIn 41 = .ok (.ifCond .ne 5, 3) := by decide +kernel
theorem dX10_isSeenIn_44 : decode cX10_isSeenIn 44 = .ok (.iconst 1, 1) := by decide +kernel
theorem dX10_isSeenIn_45 : decode cX10_isSeenIn 45 = .ok (.ireturn, 1) := by decide +kernel
theorem dX10_isSeenIn_46 : decode cX10_isSeenIn 46 = .ok (.iinc 2 1, 3) := by decide +kernel
theorem dX10_isSeenIn_49 : decode cX10_isSeenIn 49 = .ok (.goto (-47), 3) := by decide +kernel
theorem dX10_isSeenIn_52 : decode cX10_isSeenIn 52 = .ok (.iconst 0, 1) := by decide +kernel
theorem dX10_isSeenIn_53 : decode cX10_isSeenIn 53 = .ok (.ireturn, 1) := by decide +kernel
theorem dX10_freeLooks_0 : decode cX10_freeLooks 0 = .ok (.iconst 1, 1) := by decide +kernel
theorem dX10_freeLooks_1 : decode cX10_freeLooks 1 = .ok (.aload_n 0, 1) := by decide +kernel
theorem dX10_freeLooks_2 : decode cX10_freeLooks 2 = .ok (.iconst 0, 1) := by decide +kernel
theorem dX10_freeLooks_3 : decode cX10_freeLooks 3 = .ok (.invokevirtual 73, 3) := by decide +kernel
theorem dX10_freeLooks_6 : decode cX10_freeLooks 6 = .ok (.ishl, 1) := by decide +kernel
theorem dX10_freeLooks_7 : decode cX10_freeLooks 7 = .ok (.ireturn, 1) := by decide +kernel
theorem dX10_lowStates_0 : decode cX10_lowStates 0 = .ok (.aload_n 0, 1) := by decide +kernel
theorem dX10_lowStates_1 : decode cX10_lowStates 1 = .ok (.iconst 3, 1) := by decide +kernel
theorem dX10_lowStates_2 : decode cX10_lowStates 2 = .ok (.invokevirtual 73, 3) := by decide +kernel
theorem dX10_lowStates_5 : decode cX10_lowStates 5 = .ok (.ifCond .ne 7, 3) := by decide +kernel
theorem dX10_lowStates_8 : decode cX10_lowStates 8 = .ok (.iconst 1, 1) := by decide +kernel
theorem dX10_lowStates_9 : decode cX10_lowStates 9 = .ok (.goto 5, 3) := by decide +kernel
theorem dX10_lowStates_12 : decode cX10_lowStates 12 = .ok (.bipush 8, 2) := by decide +kernel
theorem dX10_lowStates_14 : decode cX10_lowStates 14 = .ok (.aload_n 0, 1) := by decide +kernel
theorem dX10_lowStates_15 : decode cX10_lowStates 15 = .ok (.iconst 1, 1) := by decide +kernel
theorem dX10_lowStates_16 : decode cX10_lowStates 16 = .ok (.invokevirtual 73, 3) := by decide +kernel
theorem dX10_lowStates_19 : decode cX10_lowStates 19 = .ok (.ishl, 1) := by decide +kernel
theorem dX10_lowStates_20 : decode cX10_lowStates 20 = .ok (.ireturn, 1) := by decide +kernel
theorem dX10_fillTables_0 : decode cX10_fillTables 0 = .ok (.aload_n 0, 1) := by decide +kernel
theorem dX10_fillTables_1 : decode cX10_fillTables 1 = .ok (.invokevirtual 130, 3) := by decide +kernel
theorem dX10_fillTables_4 : decode cX10_fillTables 4 = .ok (.istore_n 3, 1) := by decide +kernel
theorem dX10_fillTables_5 : decode cX10_fillTables 5 = .ok (.aload_n 0, 1) := by decide +kernel
theorem dX10_fillTables_6 : decode cX10_fillTables 6 = .ok (.invokevirtual 133, 3) := by decide +kernel
theorem dX10_fillTables_9 : decode cX10_fillTables 9 = .ok (.istore 4, 2) := by decide +kernel
theorem dX10_fillTables_11 : decode cX10_fillTables 11 = .ok (.aload_n 0, 1) := by decide +kernel
theorem dX10_fillTables_12 : decode cX10_fillTables 12 = .ok (.iconst 1, 1) := by decide +kernel
theorem dX10_fillTables_13 : decode cX10_fillTables 13 = .ok (.invokevirtual 73, 3) := by decide +kernel
theorem dX10_fillTables_16 : decode cX10_fillTables 16 = .ok (.istore 5, 2) := by decide +kernel
theorem dX10_fillTables_18 : decode cX10_fillTables 18 = .ok (.iconst 0, 1) := by decide +kernel
theorem dX10_fillTables_19 : decode cX10_fillTables 19 = .ok (.istore 6, 2) := by decide +kernel
theorem dX10_fillTables_21 : decode cX10_fillTables 21 = .ok (.iload 6, 2) := by decide +kernel
theorem dX10_fillTables_23 : decode cX10_fillTables 23 = .ok (.iload_n 3, 1) := by decide +kernel
theorem dX10_fillTables_24 : decode cX10_fillTables 24 = .ok (.if_icmp .ge 109, 3) := by decide +kernel
theorem dX10_fillTables_27 : decode cX10_fillTables 27 = .ok (.iconst 0, 1) := by decide +kernel
theorem dX10_fillTables_28 : decode cX10_fillTables 28 = .ok (.istore 7, 2) := by decide +kernel
theorem dX10_fillTables_30 : decode cX10_fillTables 30 = .ok (.iload 7, 2) := by decide +kernel
theorem dX10_fillTables_32 : decode cX10_fillTables 32 = .ok (.iload 4, 2) := by decide +kernel
theorem dX10_fillTables_34 : decode cX10_fillTables 34 = .ok (.if_icmp .ge 93, 3) := by decide +kernel
theorem dX10_fillTables_37 : decode cX10_fillTables 37 = .ok (.iload 6, 2) := by decide +kernel
theorem dX10_fillTables_39 : decode cX10_fillTables 39 = .ok (.bipush 8, 2) := by decide +kernel
theorem dX10_fillTables_41 : decode cX10_fillTables 41 = .ok (.ishl, 1) := by decide +kernel
theorem dX10_fillTables_42 : decode cX10_fillTables 42 = .ok (.iload 7, 2) := by decide +kernel
theorem dX10_fillTables_44 : decode cX10_fillTables 44 = .ok (.ior, 1) := by decide +kernel
theorem dX10_fillTables_45 : decode cX10_fillTables 45 = .ok (.istore 8, 2) := by decide +kernel
theorem dX10_fillTables_47 : decode cX10_fillTables 47 = .ok (.iload 7, 2) := by decide +kernel
theorem dX10_fillTables_49 : decode cX10_fillTables 49 = .ok (.iload 5, 2) := by decide +kernel
theorem dX10_fillTables_51 : decode cX10_fillTables 51 = .ok (.ishr, 1) := by decide +kernel
theorem dX10_fillTables_52 : decode cX10_fillTables 52 = .ok (.istore 9, 2) := by decide +kernel
theorem dX10_fillTables_54 : decode cX10_fillTables 54 = .ok (.iload 7, 2) := by decide +kernel
theorem dX10_fillTables_56 : decode cX10_fillTables 56 = .ok (.iconst 1, 1) := by decide +kernel
theorem dX10_fillTables_57 : decode cX10_fillTables 57 = .ok (.iload 5, 2) := by decide +kernel
theorem dX10_fillTables_59 : decode cX10_fillTables 59 = .ok (.ishl, 1) := by decide +kernel
theorem dX10_fillTables_60 : decode cX10_fillTables 60 = .ok (.iconst 1, 1) := by decide +kernel
theorem dX10_fillTables_61 : decode cX10_fillTables 61 = .ok (.isub, 1) := by decide +kernel
theorem dX10_fillTables_62 : decode cX10_fillTables 62 = .ok (.iand, 1) := by decide +kernel
theorem dX10_fillTables_63 : decode cX10_fillTables 63 = .ok (.istore 10, 2) := by decide +kernel
theorem dX10_fillTables_65 : decode cX10_fillTables 65 = .ok (.aload_n 0, 1) := by decide +kernel
theorem dX10_fillTables_66 : decode cX10_fillTables 66 = .ok (.iload 6, 2) := by decide +kernel
theorem dX10_fillTables_68 : decode cX10_fillTables 68 = .ok (.iload 10, 2) := by decide +kernel
theorem dX10_fillTables_70 : decode cX10_fillTables 70 = .ok (.iload 9, 2) := by decide +kernel
theorem dX10_fillTables_72 : decode cX10_fillTables 72 = .ok (.invokevirtual 136, 3) := by decide +kernel
theorem dX10_fillTables_75 : decode cX10_fillTables 75 = .ok (.istore 11, 2) := by decide +kernel
theorem dX10_fillTables_77 : decode cX10_fillTables 77 = .ok (.aload_n 1, 1) := by decide +kernel
theorem dX10_fillTables_78 : decode cX10_fillTables 78 = .ok (.iload 8, 2) := by decide +kernel
theorem dX10_fillTables_80 : decode cX10_fillTables 80 = .ok (.iload 11, 2) := by decide +kernel
theorem dX10_fillTables_82 : decode cX10_fillTables 82 = .ok (.iastore, 1) := by decide +kernel
theorem dX10_fillTables_83 : decode cX10_fillTables 83 = .ok (.iconst 0, 1) := by decide +kernel
theorem dX10_fillTables_84 : decode cX10_fillTables 84 = .ok (.istore 12, 2) := by decide +kernel
theorem dX10_fillTables_86 : decode cX10_fillTables 86 = .ok (.iload 12, 2) := by decide +kernel
theorem dX10_fillTables_88 : decode cX10_fillTables 88 = .ok (.bipush 7, 2) := by decide +kernel
theorem dX10_fillTables_90 : decode cX10_fillTables 90 = .ok (.if_icmp .ge 31, 3) := by decide +kernel
theorem dX10_fillTables_93 : decode cX10_fillTables 93 = .ok (.aload_n 2, 1) := by decide +kernel
theorem dX10_fillTables_94 : decode cX10_fillTables 94 = .ok (.iload 8, 2) := by decide +kernel
theorem dX10_fillTables_96 : decode cX10_fillTables 96 = .ok (.bipush 7, 2) := by decide +kernel
theorem dX10_fillTables_98 : decode cX10_fillTables 98 = .ok (.imul, 1) := by decide +kernel
theorem dX10_fillTables_99 : decode cX10_fillTables 99 = .ok (.iload 12, 2) := by decide +kernel
theorem dX10_fillTables_101 : decode cX10_fillTables 101 = .ok (.iadd, 1) := by decide +kernel
theorem dX10_fillTables_102 : decode cX10_fillTables 102 = .ok (.aload_n 0, 1) := by decide +kernel
theorem dX10_fillTables_103 : decode cX10_fillTables 103 = .ok (.iload 10, 2) := by decide +kernel
theorem dX10_fillTables_105 : decode cX10_fillTables 105 = .ok (.iload 9, 2) := by decide +kernel
theorem dX10_fillTables_107 : decode cX10_fillTables 107 = .ok (.iload 11, 2) := by decide +kernel
theorem dX10_fillTables_109 : decode cX10_fillTables 109 = .ok (.iload 12, 2) := by decide +kernel
theorem dX10_fillTables_111 : decode cX10_fillTables 111 = .ok (.invokevirtual 140, 3) := by decide +kernel
theorem dX10_fillTables_114 : decode cX10_fillTables 114 = .ok (.iastore, 1) := by decide +kernel
theorem dX10_fillTables_115 : decode cX10_fillTables 115 = .ok (.iinc 12 1, 3) := by decide +kernel
theorem dX10_fillTables_118 : decode cX10_fillTables 118 = .ok (.goto (-32), 3) := by decide +kernel
theorem dX10_fillTables_121 : decode cX10_fillTables 121 = .ok (.iinc 7 1, 3) := by decide +kernel
theorem dX10_fillTables_124 : decode cX10_fillTables 124 = .ok (.goto (-94), 3) := by decide +kernel
theorem dX10_fillTables_127 : decode cX10_fillTables 127 = .ok (.iinc 6 1, 3) := by decide +kernel
theorem dX10_fillTables_130 : decode cX10_fillTables 130 = .ok (.goto (-109), 3) := by decide +kernel
theorem dX10_fillTables_133 : decode cX10_fillTables 133 = .ok (.return_, 1) := by decide +kernel
theorem dX10_truthOf_0 : decode cX10_truthOf 0 = .ok (.iconst 0, 1) := by decide +kernel
theorem dX10_truthOf_1 : decode cX10_truthOf 1 = .ok (.istore 4, 2) := by decide +kernel
theorem dX10_truthOf_3 : decode cX10_truthOf 3 = .ok (.iconst 0, 1) := by decide +kernel
theorem dX10_truthOf_4 : decode cX10_truthOf 4 = .ok (.istore 5, 2) := by decide +kernel
theorem dX10_truthOf_6 : decode cX10_truthOf 6 = .ok (.iconst 0, 1) := by decide +kernel
theorem dX10_truthOf_7 : decode cX10_truthOf 7 = .ok (.istore 6, 2) := by decide +kernel
theorem dX10_truthOf_9 : decode cX10_truthOf 9 = .ok (.iload 6, 2) := by decide +kernel
theorem dX10_truthOf_11 : decode cX10_truthOf 11 = .ok (.aload_n 0, 1) := by decide +kernel
theorem dX10_truthOf_12 : decode cX10_truthOf 12 = .ok (.getfield 9, 3) := by decide +kernel
theorem dX10_truthOf_15 : decode cX10_truthOf 15 = .ok (.if_icmp .ge 32, 3) := by decide +kernel
theorem dX10_truthOf_18 : decode cX10_truthOf 18 = .ok (.aload_n 0, 1) := by decide +kernel
theorem dX10_truthOf_19 : decode cX10_truthOf 19 = .ok (.iload 6, 2) := by decide +kernel
theorem dX10_truthOf_21 : decode cX10_truthOf 21 = .ok (.iload 4, 2) := by decide +kernel
theorem dX10_truthOf_23 : decode cX10_truthOf 23 = .ok (.iload_n 1, 1) := by decide +kernel
theorem dX10_truthOf_24 : decode cX10_truthOf 24 = .ok (.iload_n 2, 1) := by decide +kernel
theorem dX10_truthOf_25 : decode cX10_truthOf 25 = .ok (.iload_n 3, 1) := by decide +kernel
theorem dX10_truthOf_26 : decode cX10_truthOf 26 = .ok (.invokevirtual 144, 3) := by decide +kernel
theorem dX10_truthOf_29 : decode cX10_truthOf 29 = .ok (.ifCond .eq 12, 3) := by decide +kernel
theorem dX10_truthOf_32 : decode cX10_truthOf 32 = .ok (.iload 4, 2) := by decide +kernel
theorem dX10_truthOf_34 : decode cX10_truthOf 34 = .ok (.iconst 1, 1) := by decide +kernel
theorem dX10_truthOf_35 : decode cX10_truthOf 35 = .ok (.iload 6, 2) := by decide +kernel
theorem dX10_truthOf_37 : decode cX10_truthOf 37 = .ok (.ishl, 1) := by decide +kernel
theorem dX10_truthOf_38 : decode cX10_truthOf 38 = .ok (.ior, 1) := by decide +kernel
theorem dX10_truthOf_39 : decode cX10_truthOf 39 = .ok (.istore 4, 2) := by decide +kernel
theorem dX10_truthOf_41 : decode cX10_truthOf 41 = .ok (.iinc 6 1, 3) := by decide +kernel
theorem dX10_truthOf_44 : decode cX10_truthOf 44 = .ok (.goto (-35), 3) := by decide +kernel
theorem dX10_truthOf_47 : decode cX10_truthOf 47 = .ok (.iconst 0, 1) := by decide +kernel
theorem dX10_truthOf_48 : decode cX10_truthOf 48 = .ok (.istore 6, 2) := by decide +kernel
theorem dX10_truthOf_50 : decode cX10_truthOf 50 = .ok (.iload 6, 2) := by decide +kernel
theorem dX10_truthOf_52 : decode cX10_truthOf 52 = .ok (.aload_n 0, 1) := by decide +kernel
theorem dX10_truthOf_53 : decode cX10_truthOf 53 = .ok (.getfield 9, 3) := by decide +kernel
theorem dX10_truthOf_56 : decode cX10_truthOf 56 = .ok (.if_icmp .ge 40, 3) := by decide +kernel
theorem dX10_truthOf_59 : decode cX10_truthOf 59 = .ok (.aload_n 0, 1) := by decide +kernel
theorem dX10_truthOf_60 : decode cX10_truthOf 60 = .ok (.getfield 24, 3) := by decide +kernel
theorem dX10_truthOf_63 : decode cX10_truthOf 63 = .ok (.iload 6, 2) := by decide +kernel
theorem dX10_truthOf_65 : decode cX10_truthOf 65 = .ok (.iaload, 1) := by decide +kernel
theorem dX10_truthOf_66 : decode cX10_truthOf 66 = .ok (.iconst 3, 1) := by decide +kernel
theorem dX10_truthOf_67 : decode cX10_truthOf 67 = .ok (.if_icmp .ne 23, 3) := by decide +kernel
theorem dX10_truthOf_70 : decode cX10_truthOf 70 = .ok (.aload_n 0, 1) := by decide +kernel
theorem dX10_truthOf_71 : decode cX10_truthOf 71 = .ok (.getfield 33, 3) := by decide +kernel
theorem dX10_truthOf_74 : decode cX10_truthOf 74 = .ok (.iload 6, 2) := by decide +kernel
theorem dX10_truthOf_76 : decode cX10_truthOf 76 = .ok (.aaload, 1) := by decide +kernel
theorem dX10_truthOf_77 : decode cX10_truthOf 77 = .ok (.iload 4, 2) := by decide +kernel
theorem dX10_truthOf_79 : decode cX10_truthOf 79 = .ok (.iload_n 3, 1) := by decide +kernel
theorem dX10_truthOf_80 : decode cX10_truthOf 80 = .ok (.invokevirtual 148, 3) := by decide +kernel
theorem dX10_truthOf_83 : decode cX10_truthOf 83 = .ok (.ifCond .eq 7, 3) := by decide +kernel
theorem dX10_truthOf_86 : decode cX10_truthOf 86 = .ok (.ldc 152, 2) := by decide +kernel
theorem dX10_truthOf_88 : decode cX10_truthOf 88 = .ok (.istore 5, 2) := by decide +kernel
theorem dX10_truthOf_90 : decode cX10_truthOf 90 = .ok (.iinc 6 1, 3) := by decide +kernel
theorem dX10_truthOf_93 : decode cX10_truthOf 93 = .ok (.goto (-43), 3) := by decide +kernel
theorem dX10_truthOf_96 : decode cX10_truthOf 96 = .ok (.iconst 0, 1) := by decide +kernel
theorem dX10_truthOf_97 : decode cX10_truthOf 97 = .ok (.istore 6, 2) := by decide +kernel
theorem dX10_truthOf_99 : decode cX10_truthOf 99 = .ok (.iload 6, 2) := by decide +kernel
theorem dX10_truthOf_101 : decode cX10_truthOf 101 = .ok (.aload_n 0, 1) := by decide +kernel
theorem dX10_truthOf_102 : decode cX10_truthOf 102 = .ok (.getfield 15, 3) := by decide +kernel
theorem dX10_truthOf_105 : decode cX10_truthOf 105 = .ok (.if_icmp .ge 40, 3) := by decide +kernel
theorem dX10_truthOf_108 : decode cX10_truthOf 108 = .ok (.aload_n 0, 1) := by decide +kernel
theorem dX10_truthOf_109 : decode cX10_truthOf 109 = .ok (.getfield 39, 3) := by decide +kernel
theorem dX10_truthOf_112 : decode cX10_truthOf 112 = .ok (.iload 6, 2) := by decide +kernel
theorem dX10_truthOf_114 : decode cX10_truthOf 114 = .ok (.aaload, 1) := by decide +kernel
theorem dX10_truthOf_115 : decode cX10_truthOf 115 = .ok (.getfield 153, 3) := by decide +kernel
theorem dX10_truthOf_118 : decode cX10_truthOf 118 = .ok (.iload 4, 2) := by decide +kernel
theorem dX10_truthOf_120 : decode cX10_truthOf 120 = .ok (.iload_n 3, 1) := by decide +kernel
theorem dX10_truthOf_121 : decode cX10_truthOf 121 = .ok (.invokevirtual 148, 3) := by decide +kernel
theorem dX10_truthOf_124 : decode cX10_truthOf 124 = .ok (.ifCond .eq 15, 3) := by decide +kernel
theorem dX10_truthOf_127 : decode cX10_truthOf 127 = .ok (.iload 5, 2) := by decide +kernel
theorem dX10_truthOf_129 : decode cX10_truthOf 129 = .ok (.iconst 1, 1) := by decide +kernel
theorem dX10_truthOf_130 : decode cX10_truthOf 130 = .ok (.bipush 10, 2) := by decide +kernel
theorem dX10_truthOf_132 : decode cX10_truthOf 132 = .ok (.iload 6, 2) := by decide +kernel
theorem dX10_truthOf_134 : decode cX10_truthOf 134 = .ok (.iadd, 1) := by decide +kernel
theorem dX10_truthOf_135 : decode cX10_truthOf 135 = .ok (.ishl, 1) := by decide +kernel
theorem dX10_truthOf_136 : decode cX10_truthOf 136 = .ok (.ior, 1) := by decide +kernel
theorem dX10_truthOf_137 : decode cX10_truthOf 137 = .ok (.istore 5, 2) := by decide +kernel
theorem dX10_truthOf_139 : decode cX10_truthOf 139 = .ok (.iinc 6 1, 3) := by decide +kernel
theorem dX10_truthOf_142 : decode cX10_truthOf 142 = .ok (.goto (-43), 3) := by decide +kernel
theorem dX10_truthOf_145 : decode cX10_truthOf 145 = .ok (.iload 5, 2) := by decide +kernel
theorem dX10_truthOf_147 : decode cX10_truthOf 147 = .ok (.iload 4, 2) := by decide +kernel
theorem dX10_truthOf_149 : decode cX10_truthOf 149 = .ok (.ior, 1) := by decide +kernel
theorem dX10_truthOf_150 : decode cX10_truthOf 150 = .ok (.ireturn, 1) := by decide +kernel
theorem dX10_isThingSo_0 : decode cX10_isThingSo 0 = .ok (.aload_n 0, 1) := by decide +kernel
theorem dX10_isThingSo_1 : decode cX10_isThingSo 1 = .ok (.getfield 24, 3) := by decide +kernel
theorem dX10_isThingSo_4 : decode cX10_isThingSo 4 = .ok (.iload_n 1, 1) := by decide +kernel
theorem dX10_isThingSo_5 : decode cX10_isThingSo 5 = .ok (.iaload, 1) := by decide +kernel
theorem dX10_isThingSo_6 : decode cX10_isThingSo 6 = .ok (.tableswitch 78 0 2 #[26, 45, 65], 26) := by decide +kernel
theorem dX10_isThingSo_32 : decode cX10_isThingSo 32 = .ok (.iload_n 3, 1) := by decide +kernel
theorem dX10_isThingSo_33 : decode cX10_isThingSo 33 = .ok (.aload_n 0, 1) := by decide +kernel
theorem dX10_isThingSo_34 : decode cX10_isThingSo 34 = .ok (.getfield 28, 3) := by decide +kernel
theorem dX10_isThingSo_37 : decode cX10_isThingSo 37 = .ok (.iload_n 1, 1) := by decide +kernel
theorem dX10_isThingSo_38 : decode cX10_isThingSo 38 = .ok (.iaload, 1) := by decide +kernel
theorem dX10_isThingSo_39 : decode cX10_isThingSo 39 = .ok (.ishr, 1) := by decide +kernel
theorem dX10_isThingSo_40 : decode cX10_isThingSo 40 = .ok (.iconst 1, 1) := by decide +kernel
theorem dX10_isThingSo_41 : decode cX10_isThingSo 41 = .ok (.iand, 1) := by decide +kernel
theorem dX10_isThingSo_42 : decode cX10_isThingSo 42 = .ok (.ifCond .eq 7, 3) := by decide +kernel
theorem dX10_isThingSo_45 : decode cX10_isThingSo 45 = .ok (.iconst 1, 1) := by decide +kernel
theorem dX10_isThingSo_46 : decode cX10_isThingSo 46 = .ok (.goto 4, 3) := by decide +kernel
theorem dX10_isThingSo_49 : decode cX10_isThingSo 49 = .ok (.iconst 0, 1) := by decide +kernel
theorem dX10_isThingSo_50 : decode cX10_isThingSo 50 = .ok (.ireturn, 1) := by decide +kernel
theorem dX10_isThingSo_51 : decode cX10_isThingSo 51 = .ok (.iload 4, 2) := by decide +kernel
theorem dX10_isThingSo_53 : decode cX10_isThingSo 53 = .ok (.aload_n 0, 1) := by decide +kernel
theorem dX10_isThingSo_54 : decode cX10_isThingSo 54 = .ok (.getfield 28, 3) := by decide +kernel
theorem dX10_isThingSo_57 : decode cX10_isThingSo 57 = .ok (.iload_n 1, 1) := by decide +kernel
theorem dX10_isThingSo_58 : decode cX10_isThingSo 58 = .ok (.iaload, 1) := by decide +kernel
theorem dX10_isThingSo_59 : decode cX10_isThingSo 59 = .ok (.ishr, 1) := by decide +kernel
theorem dX10_isThingSo_60 : decode cX10_isThingSo 60 = .ok (.iconst 1, 1) := by decide +kernel
theorem dX10_isThingSo_61 : decode cX10_isThingSo 61 = .ok (.iand, 1) := by decide +kernel
theorem dX10_isThingSo_62 : decode cX10_isThingSo 62 = .ok (.ifCond .eq 7, 3) := by decide +kernel
theorem dX10_isThingSo_65 : decode cX10_isThingSo 65 = .ok (.iconst 1, 1) := by decide +kernel
theorem dX10_isThingSo_66 : decode cX10_isThingSo 66 = .ok (.goto 4, 3) := by decide +kernel
theorem dX10_isThingSo_69 : decode cX10_isThingSo 69 = .ok (.iconst 0, 1) := by decide +kernel
theorem dX10_isThingSo_70 : decode cX10_isThingSo 70 = .ok (.ireturn, 1) := by decide +kernel
theorem dX10_isThingSo_71 : decode cX10_isThingSo 71 = .ok (.aload_n 0, 1) := by decide +kernel
theorem dX10_isThingSo_72 : decode cX10_isThingSo 72 = .ok (.getfield 33, 3) := by decide +kernel
theorem dX10_isThingSo_75 : decode cX10_isThingSo 75 = .ok (.iload_n 1, 1) := by decide +kernel
theorem dX10_isThingSo_76 : decode cX10_isThingSo 76 = .ok (.aaload, 1) := by decide +kernel
theorem dX10_isThingSo_77 : decode cX10_isThingSo 77 = .ok (.iload_n 2, 1) := by decide +kernel
theorem dX10_isThingSo_78 : decode cX10_isThingSo 78 = .ok (.iload 5, 2) := by decide +kernel
theorem dX10_isThingSo_80 : decode cX10_isThingSo 80 = .ok (.invokevirtual 148, 3) := by decide +kernel
theorem dX10_isThingSo_83 : decode cX10_isThingSo 83 = .ok (.ireturn, 1) := by decide +kernel
theorem dX10_isThingSo_84 : decode cX10_isThingSo 84 = .ok (.iload 5, 2) := by decide +kernel
theorem dX10_isThingSo_86 : decode cX10_isThingSo 86 = .ok (.ifCond .le 7, 3) := by decide +kernel
theorem dX10_isThingSo_89 : decode cX10_isThingSo 89 = .ok (.iconst 1, 1) := by decide +kernel
theorem dX10_isThingSo_90 : decode cX10_isThingSo 90 = .ok (.goto 4, 3) := by decide +kernel
theorem dX10_isThingSo_93 : decode cX10_isThingSo 93 = .ok (.iconst 0, 1) := by decide +kernel
theorem dX10_isThingSo_94 : decode cX10_isThingSo 94 = .ok (.ireturn, 1) := by decide +kernel
theorem dX10_nextOf_0 : decode cX10_nextOf 0 = .ok (.iload_n 1, 1) := by decide +kernel
theorem dX10_nextOf_1 : decode cX10_nextOf 1 = .ok (.istore 5, 2) := by decide +kernel
theorem dX10_nextOf_3 : decode cX10_nextOf 3 = .ok (.iload_n 2, 1) := by decide +kernel
theorem dX10_nextOf_4 : decode cX10_nextOf 4 = .ok (.istore 6, 2) := by decide +kernel
theorem dX10_nextOf_6 : decode cX10_nextOf 6 = .ok (.iconst 0, 1) := by decide +kernel
theorem dX10_nextOf_7 : decode cX10_nextOf 7 = .ok (.istore 7, 2) := by decide +kernel
theorem dX10_nextOf_9 : decode cX10_nextOf 9 = .ok (.iload 4, 2) := by decide +kernel
theorem dX10_nextOf_11 : decode cX10_nextOf 11 = .ok (.ifCond .lt 85, 3) := by decide +kernel
theorem dX10_nextOf_14 : decode cX10_nextOf 14 = .ok (.iload 4, 2) := by decide +kernel
theorem dX10_nextOf_16 : decode cX10_nextOf 16 = .ok (.aload_n 0, 1) := by decide +kernel
theorem dX10_nextOf_17 : decode cX10_nextOf 17 = .ok (.getfield 15, 3) := by decide +kernel
theorem dX10_nextOf_20 : decode cX10_nextOf 20 = .ok (.if_icmp .ge 76, 3) := by decide +kernel
theorem dX10_nextOf_23 : decode cX10_nextOf 23 = .ok (.aload_n 0, 1) := by decide +kernel
theorem dX10_nextOf_24 : decode cX10_nextOf 24 = .ok (.getfield 39, 3) := by decide +kernel
theorem dX10_nextOf_27 : decode cX10_nextOf 27 = .ok (.iload 4, 2) := by decide +kernel
theorem dX10_nextOf_29 : decode cX10_nextOf 29 = .ok (.aaload, 1) := by decide +kernel
theorem dX10_nextOf_30 : decode cX10_nextOf 30 = .ok (.astore 8, 2) := by decide +kernel
theorem dX10_nextOf_32 : decode cX10_nextOf 32 = .ok (.iload_n 3, 1) := by decide +kernel
theorem dX10_nextOf_33 : decode cX10_nextOf 33 = .ok (.bipush 10, 2) := by decide +kernel
theorem dX10_nextOf_35 : decode cX10_nextOf 35 = .ok (.iload 4, 2) := by decide +kernel
theorem dX10_nextOf_37 : decode cX10_nextOf 37 = .ok (.iadd, 1) := by decide +kernel
theorem dX10_nextOf_38 : decode cX10_nextOf 38 = .ok (.ishr, 1) := by decide +kernel
theorem dX10_nextOf_39 : decode cX10_nextOf 39 = .ok (.iconst 1, 1) := by decide +kernel
theorem dX10_nextOf_40 : decode cX10_nextOf 40 = .ok (.iand, 1) := by decide +kernel
theorem dX10_nextOf_41 : decode cX10_nextOf 41 = .ok (.ifCond .eq 7, 3) := by decide +kernel
theorem dX10_nextOf_44 : decode cX10_nextOf 44 = .ok (.iconst 1, 1) := by decide +kernel
theorem dX10_nextOf_45 : decode cX10_nextOf 45 = .ok (.goto 4, 3) := by decide +kernel
theorem dX10_nextOf_48 : decode cX10_nextOf 48 = .ok (.iconst 0, 1) := by decide +kernel
theorem dX10_nextOf_49 : decode cX10_nextOf 49 = .ok (.istore 9, 2) := by decide +kernel
theorem dX10_nextOf_51 : decode cX10_nextOf 51 = .ok (.iload 9, 2) := by decide +kernel
theorem dX10_nextOf_53 : decode cX10_nextOf 53 = .ok (.ifCond .ne 13, 3) := by decide +kernel
theorem dX10_nextOf_56 : decode cX10_nextOf 56 = .ok (.aload 8, 2) := by decide +kernel
theorem dX10_nextOf_58 : decode cX10_nextOf 58 = .ok (.getfield 87, 3) := by decide +kernel
theorem dX10_nextOf_61 : decode cX10_nextOf 61 = .ok (.ifCond .eq 5, 3) := by decide +kernel
theorem dX10_nextOf_64 : decode cX10_nextOf 64 = .ok (.iconst (-1), 1) := by decide +kernel
theorem dX10_nextOf_65 : decode cX10_nextOf 65 = .ok (.ireturn, 1) := by decide +kernel
theorem dX10_nextOf_66 : decode cX10_nextOf 66 = .ok (.iload 9, 2) := by decide +kernel
theorem dX10_nextOf_68 : decode cX10_nextOf 68 = .ok (.ifCond .eq 28, 3) := by decide +kernel
theorem dX10_nextOf_71 : decode cX10_nextOf 71 = .ok (.iload 5, 2) := by decide +kernel
theorem dX10_nextOf_73 : decode cX10_nextOf 73 = .ok (.aload 8, 2) := by decide +kernel
theorem dX10_nextOf_75 : decode cX10_nextOf 75 = .ok (.getfield 157, 3) := by decide +kernel
theorem dX10_nextOf_78 : decode cX10_nextOf 78 = .ok (.iconst (-1), 1) := by decide +kernel
theorem dX10_nextOf_79 : decode cX10_nextOf 79 = .ok (.ixor, 1) := by decide +kernel
theorem dX10_nextOf_80 : decode cX10_nextOf 80 = .ok (.iand, 1) := by decide +kernel
theorem dX10_nextOf_81 : decode cX10_nextOf 81 = .ok (.aload 8, 2) := by decide +kernel
theorem dX10_nextOf_83 : decode cX10_nextOf 83 = .ok (.getfield 160, 3) := by decide +kernel
theorem dX10_nextOf_86 : decode cX10_nextOf 86 = .ok (.ior, 1) := by decide +kernel
theorem dX10_nextOf_87 : decode cX10_nextOf 87 = .ok (.istore 5, 2) := by decide +kernel
theorem dX10_nextOf_89 : decode cX10_nextOf 89 = .ok (.aload 8, 2) := by decide +kernel
theorem dX10_nextOf_91 : decode cX10_nextOf 91 = .ok (.getfield 163, 3) := by decide +kernel
theorem dX10_nextOf_94 : decode cX10_nextOf 94 = .ok (.istore 7, 2) := by decide +kernel
theorem dX10_nextOf_96 : decode cX10_nextOf 96 = .ok (.iload 7, 2) := by decide +kernel
theorem dX10_nextOf_98 : decode cX10_nextOf 98 = .ok (.ifCond .eq 9, 3) := by decide +kernel
theorem dX10_nextOf_101 : decode cX10_nextOf 101 = .ok (.iconst 0, 1) := by decide +kernel
theorem dX10_nextOf_102 : decode cX10_nextOf 102 = .ok (.istore 6, 2) := by decide +kernel
theorem dX10_nextOf_104 : decode cX10_nextOf 104 = .ok (.goto 22, 3) := by decide +kernel
theorem dX10_nextOf_107 : decode cX10_nextOf 107 = .ok (.iload_n 3, 1) := by decide +kernel
theorem dX10_nextOf_108 : decode cX10_nextOf 108 = .ok (.bipush 16, 2) := by decide +kernel
theorem dX10_nextOf_110 : decode cX10_nextOf 110 = .ok (.ishr, 1) := by decide +kernel
theorem dX10_nextOf_111 : decode cX10_nextOf 111 = .ok (.iconst 1, 1) := by decide +kernel
theorem dX10_nextOf_112 : decode cX10_nextOf 112 = .ok (.iand, 1) := by decide +kernel
theorem dX10_nextOf_113 : decode cX10_nextOf 113 = .ok (.ifCond .eq 13, 3) := by decide +kernel
theorem dX10_nextOf_116 : decode cX10_nextOf 116 = .ok (.iload 6, 2) := by decide +kernel
theorem dX10_nextOf_118 : decode cX10_nextOf 118 = .ok (.bipush 7, 2) := by decide +kernel
theorem dX10_nextOf_120 : decode cX10_nextOf 120 = .ok (.if_icmp .ge 6, 3) := by decide +kernel
theorem dX10_nextOf_123 : decode cX10_nextOf 123 = .ok (.iinc 6 1, 3) := by decide +kernel
theorem dX10_nextOf_126 : decode cX10_nextOf 126 = .ok (.iload 6, 2) := by decide +kernel
theorem dX10_nextOf_128 : decode cX10_nextOf 128 = .ok (.aload_n 0, 1) := by decide +kernel
theorem dX10_nextOf_129 : decode cX10_nextOf 129 = .ok (.iconst 1, 1) := by decide +kernel
theorem dX10_nextOf_130 : decode cX10_nextOf 130 = .ok (.invokevirtual 73, 3) := by decide +kernel
theorem dX10_nextOf_133 : decode cX10_nextOf 133 = .ok (.ishl, 1) := by decide +kernel
theorem dX10_nextOf_134 : decode cX10_nextOf 134 = .ok (.iload 5, 2) := by decide +kernel
theorem dX10_nextOf_136 : decode cX10_nextOf 136 = .ok (.ior, 1) := by decide +kernel
theorem dX10_nextOf_137 : decode cX10_nextOf 137 = .ok (.ireturn, 1) := by decide +kernel
theorem dX11_init_0 : decode cX11_init 0 = .ok (.aload_n 0, 1) := by decide +kernel
theorem dX11_init_1 : decode cX11_init 1 = .ok (.invokespecial 3, 3) := by decide +kernel
theorem dX11_init_4 : decode cX11_init 4 = .ok (.aload_n 0, 1) := by decide +kernel
theorem dX11_init_5 : decode cX11_init 5 = .ok (.bipush 8, 2) := by decide +kernel
theorem dX11_init_7 : decode cX11_init 7 = .ok (.anewarray 9, 3) := by decide +kernel
theorem dX11_init_10 : decode cX11_init 10 = .ok (.putfield 11, 3) := by decide +kernel
theorem dX11_init_13 : decode cX11_init 13 = .ok (.aload_n 0, 1) := by decide +kernel
theorem dX11_init_14 : decode cX11_init 14 = .ok (.new 15, 3) := by decide +kernel
theorem dX11_init_17 : decode cX11_init 17 = .ok (.dup, 1) := by decide +kernel
theorem dX11_init_18 : decode cX11_init 18 = .ok (.invokespecial 17, 3) := by decide +kernel
theorem dX11_init_21 : decode cX11_init 21 = .ok (.putfield 18, 3) := by decide +kernel
theorem dX11_init_24 : decode cX11_init 24 = .ok (.aload_n 0, 1) := by decide +kernel
theorem dX11_init_25 : decode cX11_init 25 = .ok (.new 15, 3) := by decide +kernel
theorem dX11_init_28 : decode cX11_init 28 = .ok (.dup, 1) := by decide +kernel
theorem dX11_init_29 : decode cX11_init 29 = .ok (.invokespecial 17, 3) := by decide +kernel
theorem dX11_init_32 : decode cX11_init 32 = .ok (.putfield 22, 3) := by decide +kernel
theorem dX11_init_35 : decode cX11_init 35 = .ok (.aload_n 0, 1) := by decide +kernel
theorem dX11_init_36 : decode cX11_init 36 = .ok (.new 25, 3) := by decide +kernel
theorem dX11_init_39 : decode cX11_init 39 = .ok (.dup, 1) := by decide +kernel
theorem dX11_init_40 : decode cX11_init 40 = .ok (.aload_n 0, 1) := by decide +kernel
theorem dX11_init_41 : decode cX11_init 41 = .ok (.getfield 18, 3) := by decide +kernel
theorem dX11_init_44 : decode cX11_init 44 = .ok (.invokespecial 27, 3) := by decide +kernel
theorem dX11_init_47 : decode cX11_init 47 = .ok (.putfield 30, 3) := by decide +kernel
theorem dX11_init_50 : decode cX11_init 50 = .ok (.aload_n 0, 1) := by decide +kernel
theorem dX11_init_51 : decode cX11_init 51 = .ok (.sipush 1024, 3) := by decide +kernel
theorem dX11_init_54 : decode cX11_init 54 = .ok (.newarray .int, 2) := by decide +kernel
theorem dX11_init_56 : decode cX11_init 56 = .ok (.putfield 34, 3) := by decide +kernel
theorem dX11_init_59 : decode cX11_init 59 = .ok (.aload_n 0, 1) := by decide +kernel
theorem dX11_init_60 : decode cX11_init 60 = .ok (.sipush 7168, 3) := by decide +kernel
theorem dX11_init_63 : decode cX11_init 63 = .ok (.newarray .int, 2) := by decide +kernel
theorem dX11_init_65 : decode cX11_init 65 = .ok (.putfield 38, 3) := by decide +kernel
theorem dX11_init_68 : decode cX11_init 68 = .ok (.aload_n 0, 1) := by decide +kernel
theorem dX11_init_69 : decode cX11_init 69 = .ok (.new 41, 3) := by decide +kernel
theorem dX11_init_72 : decode cX11_init 72 = .ok (.dup, 1) := by decide +kernel
theorem dX11_init_73 : decode cX11_init 73 = .ok (.aload_n 0, 1) := by decide +kernel
theorem dX11_init_74 : decode cX11_init 74 = .ok (.getfield 18, 3) := by decide +kernel
theorem dX11_init_77 : decode cX11_init 77 = .ok (.aload_n 0, 1) := by decide +kernel
theorem dX11_init_78 : decode cX11_init 78 = .ok (.getfield 34, 3) := by decide +kernel
theorem dX11_init_81 : decode cX11_init 81 = .ok (.aload_n 0, 1) := by decide +kernel
theorem dX11_init_82 : decode cX11_init 82 = .ok (.getfield 38, 3) := by decide +kernel
theorem dX11_init_85 : decode cX11_init 85 = .ok (.invokespecial 43, 3) := by decide +kernel
theorem dX11_init_88 : decode cX11_init 88 = .ok (.putfield 46, 3) := by decide +kernel
theorem dX11_init_91 : decode cX11_init 91 = .ok (.aload_n 0, 1) := by decide +kernel
theorem dX11_init_92 : decode cX11_init 92 = .ok (.new 41, 3) := by decide +kernel
theorem dX11_init_95 : decode cX11_init 95 = .ok (.dup, 1) := by decide +kernel
theorem dX11_init_96 : decode cX11_init 96 = .ok (.aload_n 0, 1) := by decide +kernel
theorem dX11_init_97 : decode cX11_init 97 = .ok (.getfield 18, 3) := by decide +kernel
theorem dX11_init_100 : decode cX11_init 100 = .ok (.aload_n 0, 1) := by decide +kernel
theorem dX11_init_101 : decode cX11_init 101 = .ok (.getfield 34, 3) := by decide +kernel
theorem dX11_init_104 : decode cX11_init 104 = .ok (.aload_n 0, 1) := by decide +kernel
theorem dX11_init_105 : decode cX11_init 105 = .ok (.getfield 38, 3) := by decide +kernel
theorem dX11_init_108 : decode cX11_init 108 = .ok (.invokespecial 43, 3) := by decide +kernel
theorem dX11_init_111 : decode cX11_init 111 = .ok (.putfield 50, 3) := by decide +kernel
theorem dX11_init_114 : decode cX11_init 114 = .ok (.aload_n 0, 1) := by decide +kernel
theorem dX11_init_115 : decode cX11_init 115 = .ok (.bipush 8, 2) := by decide +kernel
theorem dX11_init_117 : decode cX11_init 117 = .ok (.newarray .int, 2) := by decide +kernel
theorem dX11_init_119 : decode cX11_init 119 = .ok (.putfield 53, 3) := by decide +kernel
theorem dX11_init_122 : decode cX11_init 122 = .ok (.aload_n 0, 1) := by decide +kernel
theorem dX11_init_123 : decode cX11_init 123 = .ok (.bipush 21, 2) := by decide +kernel
theorem dX11_init_125 : decode cX11_init 125 = .ok (.newarray .int, 2) := by decide +kernel
theorem dX11_init_127 : decode cX11_init 127 = .ok (.putfield 58, 3) := by decide +kernel
theorem dX11_init_130 : decode cX11_init 130 = .ok (.aload_n 0, 1) := by decide +kernel
theorem dX11_init_131 : decode cX11_init 131 = .ok (.iconst 0, 1) := by decide +kernel
theorem dX11_init_132 : decode cX11_init 132 = .ok (.putfield 61, 3) := by decide +kernel
theorem dX11_init_135 : decode cX11_init 135 = .ok (.aload_n 0, 1) := by decide +kernel
theorem dX11_init_136 : decode cX11_init 136 = .ok (.iconst 1, 1) := by decide +kernel
theorem dX11_init_137 : decode cX11_init 137 = .ok (.putfield 65, 3) := by decide +kernel
theorem dX11_init_140 : decode cX11_init 140 = .ok (.aload_n 0, 1) := by decide +kernel
theorem dX11_init_141 : decode cX11_init 141 = .ok (.iconst 1, 1) := by decide +kernel
theorem dX11_init_142 : decode cX11_init 142 = .ok (.putfield 68, 3) := by decide +kernel
theorem dX11_init_145 : decode cX11_init 145 = .ok (.aload_n 0, 1) := by decide +kernel
theorem dX11_init_146 : decode cX11_init 146 = .ok (.iconst (-1), 1) := by decide +kernel
theorem dX11_init_147 : decode cX11_init 147 = .ok (.putfield 71, 3) := by decide +kernel
theorem dX11_init_150 : decode cX11_init 150 = .ok (.iconst 0, 1) := by decide +kernel
theorem dX11_init_151 : decode cX11_init 151 = .ok (.istore_n 1, 1) := by decide +kernel
theorem dX11_init_152 : decode cX11_init 152 = .ok (.iload_n 1, 1) := by decide +kernel
theorem dX11_init_153 : decode cX11_init 153 = .ok (.bipush 8, 2) := by decide +kernel
theorem dX11_init_155 : decode cX11_init 155 = .ok (.if_icmp .ge 22, 3) := by decide +kernel
theorem dX11_init_158 : decode cX11_init 158 = .ok (.aload_n 0, 1) := by decide +kernel
theorem dX11_init_159 : decode cX11_init 159 = .ok (.getfield 11, 3) := by decide +kernel
theorem dX11_init_162 : decode cX11_init 162 = .ok (.iload_n 1, 1) := by decide +kernel
theorem dX11_init_163 : decode cX11_init 163 = .ok (.new 9, 3) := by decide +kernel
theorem dX11_init_166 : decode cX11_init 166 = .ok (.dup, 1) := by decide +kernel
theorem dX11_init_167 : decode cX11_init 167 = .ok (.invokespecial 75, 3) := by decide +kernel
theorem dX11_init_170 : decode cX11_init 170 = .ok (.aastore, 1) := by decide +kernel
theorem dX11_init_171 : decode cX11_init 171 = .ok (.iinc 1 1, 3) := by decide +kernel
theorem dX11_init_174 : decode cX11_init 174 = .ok (.goto (-22), 3) := by decide +kernel
theorem dX11_init_177 : decode cX11_init 177 = .ok (.return_, 1) := by decide +kernel
theorem dX11_row_0 : decode cX11_row 0 = .ok (.iload_n 1, 1) := by decide +kernel
theorem dX11_row_1 : decode cX11_row 1 = .ok (.invokestatic 76, 3) := by decide +kernel
theorem dX11_row_4 : decode cX11_row 4 = .ok (.ifCond .ne 9, 3) := by decide +kernel
theorem dX11_row_7 : decode cX11_row 7 = .ok (.aload_n 0, 1) := by decide +kernel
theorem dX11_row_8 : decode cX11_row 8 = .ok (.iconst (-1), 1) := by decide +kernel
theorem dX11_row_9 : decode cX11_row 9 = .ok (.invokevirtual 80, 3) := by decide +kernel
theorem dX11_row_12 : decode cX11_row 12 = .ok (.ireturn, 1) := by decide +kernel
theorem dX11_row_13 : decode cX11_row 13 = .ok (.iload_n 3, 1) := by decide +kernel
theorem dX11_row_14 : decode cX11_row 14 = .ok (.ifCond .ge 10, 3) := by decide +kernel
theorem dX11_row_17 : decode cX11_row 17 = .ok (.aload_n 0, 1) := by decide +kernel
theorem dX11_row_18 : decode cX11_row 18 = .ok (.bipush (-4), 2) := by decide +kernel
theorem dX11_row_20 : decode cX11_row 20 = .ok (.invokevirtual 80, 3) := by decide +kernel
theorem dX11_row_23 : decode cX11_row 23 = .ok (.ireturn, 1) := by decide +kernel
theorem dX11_row_24 : decode cX11_row 24 = .ok (.iload_n 2, 1) := by decide +kernel
theorem dX11_row_25 : decode cX11_row 25 = .ok (.ifCond .lt 8, 3) := by decide +kernel
theorem dX11_row_28 : decode cX11_row 28 = .ok (.iload_n 2, 1) := by decide +kernel
theorem dX11_row_29 : decode cX11_row 29 = .ok (.iconst 3, 1) := by decide +kernel
theorem dX11_row_30 : decode cX11_row 30 = .ok (.if_icmp .le 10, 3) := by decide +kernel
theorem dX11_row_33 : decode cX11_row 33 = .ok (.aload_n 0, 1) := by decide +kernel
theorem dX11_row_34 : decode cX11_row 34 = .ok (.bipush (-6), 2) := by decide +kernel
theorem dX11_row_36 : decode cX11_row 36 = .ok (.invokevirtual 80, 3) := by decide +kernel
theorem dX11_row_39 : decode cX11_row 39 = .ok (.ireturn, 1) := by decide +kernel
theorem dX11_row_40 : decode cX11_row 40 = .ok (.iload_n 3, 1) := by decide +kernel
theorem dX11_row_41 : decode cX11_row 41 = .ok (.bipush 60, 2) := by decide +kernel
theorem dX11_row_43 : decode cX11_row 43 = .ok (.if_icmp .le 10, 3) := by decide +kernel
theorem dX11_row_46 : decode cX11_row 46 = .ok (.aload_n 0, 1) := by decide +kernel
theorem dX11_row_47 : decode cX11_row 47 = .ok (.bipush (-7), 2) := by decide +kernel
theorem dX11_row_49 : decode cX11_row 49 = .ok (.invokevirtual 80, 3) := by decide +kernel
theorem dX11_row_52 : decode cX11_row 52 = .ok (.ireturn, 1) := by decide +kernel
theorem dX11_row_53 : decode cX11_row 53 = .ok (.aload_n 0, 1) := by decide +kernel
theorem dX11_row_54 : decode cX11_row 54 = .ok (.getfield 11, 3) := by decide +kernel
theorem dX11_row_57 : decode cX11_row 57 = .ok (.iload_n 1, 1) := by decide +kernel
theorem dX11_row_58 : decode cX11_row 58 = .ok (.aaload, 1) := by decide +kernel
theorem dX11_row_59 : decode cX11_row 59 = .ok (.iload_n 2, 1) := by decide +kernel
theorem dX11_row_60 : decode cX11_row 60 = .ok (.iload_n 3, 1) := by decide +kernel
theorem dX11_row_61 : decode cX11_row 61 = .ok (.invokevirtual 84, 3) := by decide +kernel
theorem dX11_row_64 : decode cX11_row 64 = .ok (.iconst 1, 1) := by decide +kernel
theorem dX11_row_65 : decode cX11_row 65 = .ok (.ireturn, 1) := by decide +kernel
theorem dX11_set_0 : decode cX11_set 0 = .ok (.aload_n 0, 1) := by decide +kernel
theorem dX11_set_1 : decode cX11_set 1 = .ok (.iload_n 1, 1) := by decide +kernel
theorem dX11_set_2 : decode cX11_set 2 = .ok (.invokevirtual 88, 3) := by decide +kernel
theorem dX11_set_5 : decode cX11_set 5 = .ok (.istore 5, 2) := by decide +kernel
theorem dX11_set_7 : decode cX11_set 7 = .ok (.iload 5, 2) := by decide +kernel
theorem dX11_set_9 : decode cX11_set 9 = .ok (.ifCond .eq 10, 3) := by decide +kernel
theorem dX11_set_12 : decode cX11_set 12 = .ok (.aload_n 0, 1) := by decide +kernel
theorem dX11_set_13 : decode cX11_set 13 = .ok (.iload 5, 2) := by decide +kernel
theorem dX11_set_15 : decode cX11_set 15 = .ok (.invokevirtual 80, 3) := by decide +kernel
theorem dX11_set_18 : decode cX11_set 18 = .ok (.ireturn, 1) := by decide +kernel
theorem dX11_set_19 : decode cX11_set 19 = .ok (.aload_n 0, 1) := by decide +kernel
theorem dX11_set_20 : decode cX11_set 20 = .ok (.getfield 11, 3) := by decide +kernel
theorem dX11_set_23 : decode cX11_set 23 = .ok (.iload_n 1, 1) := by decide +kernel
theorem dX11_set_24 : decode cX11_set 24 = .ok (.aaload, 1) := by decide +kernel
theorem dX11_set_25 : decode cX11_set 25 = .ok (.iload_n 2, 1) := by decide +kernel
theorem dX11_set_26 : decode cX11_set 26 = .ok (.invokevirtual 91, 3) := by decide +kernel
theorem dX11_set_29 : decode cX11_set 29 = .ok (.ifCond .ne 10, 3) := by decide +kernel
theorem dX11_set_32 : decode cX11_set 32 = .ok (.aload_n 0, 1) := by decide +kernel
theorem dX11_set_33 : decode cX11_set 33 = .ok (.bipush (-5), 2) := by decide +kernel
theorem dX11_set_35 : decode cX11_set 35 = .ok (.invokevirtual 80, 3) := by decide +kernel
theorem dX11_set_38 : decode cX11_set 38 = .ok (.ireturn, 1) := by decide +kernel
theorem dX11_set_39 : decode cX11_set 39 = .ok (.aload_n 0, 1) := by decide +kernel
theorem dX11_set_40 : decode cX11_set 40 = .ok (.getfield 11, 3) := by decide +kernel
theorem dX11_set_43 : decode cX11_set 43 = .ok (.iload_n 1, 1) := by decide +kernel
theorem dX11_set_44 : decode cX11_set 44 = .ok (.aaload, 1) := by decide +kernel
theorem dX11_set_45 : decode cX11_set 45 = .ok (.iload_n 2, 1) := by decide +kernel
theorem dX11_set_46 : decode cX11_set 46 = .ok (.lload_n 3, 1) := by decide +kernel
theorem dX11_set_47 : decode cX11_set 47 = .ok (.invokevirtual 94, 3) := by decide +kernel
theorem dX11_set_50 : decode cX11_set 50 = .ok (.iconst 1, 1) := by decide +kernel
theorem dX11_set_51 : decode cX11_set 51 = .ok (.ireturn, 1) := by decide +kernel
theorem dX11_copy_0 : decode cX11_copy 0 = .ok (.iload_n 1, 1) := by decide +kernel
theorem dX11_copy_1 : decode cX11_copy 1 = .ok (.invokestatic 76, 3) := by decide +kernel
theorem dX11_copy_4 : decode cX11_copy 4 = .ok (.ifCond .eq 10, 3) := by decide +kernel
theorem dX11_copy_7 : decode cX11_copy 7 = .ok (.iload_n 2, 1) := by decide +kernel
theorem dX11_copy_8 : decode cX11_copy 8 = .ok (.invokestatic 76, 3) := by decide +kernel
theorem dX11_copy_11 : decode cX11_copy 11 = .ok (.ifCond .ne 9, 3) := by decide +kernel
theorem dX11_copy_14 : decode cX11_copy 14 = .ok (.aload_n 0, 1) := by decide +kernel
theorem dX11_copy_15 : decode cX11_copy 15 = .ok (.iconst (-1), 1) := by decide +kernel
theorem dX11_copy_16 : decode cX11_copy 16 = .ok (.invokevirtual 80, 3) := by decide +kernel
theorem dX11_copy_19 : decode cX11_copy 19 = .ok (.ireturn, 1) := by decide +kernel
theorem dX11_copy_20 : decode cX11_copy 20 = .ok (.aload_n 0, 1) := by decide +kernel
theorem dX11_copy_21 : decode cX11_copy 21 = .ok (.getfield 11, 3) := by decide +kernel
theorem dX11_copy_24 : decode cX11_copy 24 = .ok (.iload_n 1, 1) := by decide +kernel
theorem dX11_copy_25 : decode cX11_copy 25 = .ok (.aaload, 1) := by decide +kernel
theorem dX11_copy_26 : decode cX11_copy 26 = .ok (.astore 6, 2) := by decide +kernel
theorem dX11_copy_28 : decode cX11_copy 28 = .ok (.aload_n 0, 1) := by decide +kernel
theorem dX11_copy_29 : decode cX11_copy 29 = .ok (.getfield 11, 3) := by decide +kernel
theorem dX11_copy_32 : decode cX11_copy 32 = .ok (.iload_n 2, 1) := by decide +kernel
theorem dX11_copy_33 : decode cX11_copy 33 = .ok (.aaload, 1) := by decide +kernel
theorem dX11_copy_34 : decode cX11_copy 34 = .ok (.astore 7, 2) := by decide +kernel
theorem dX11_copy_36 : decode cX11_copy 36 = .ok (.aload 6, 2) := by decide +kernel
theorem dX11_copy_38 : decode cX11_copy 38 = .ok (.invokevirtual 98, 3) := by decide +kernel
theorem dX11_copy_41 : decode cX11_copy 41 = .ok (.ifCond .ne 11, 3) := by decide +kernel
theorem dX11_copy_44 : decode cX11_copy 44 = .ok (.aload 7, 2) := by decide +kernel
theorem dX11_copy_46 : decode cX11_copy 46 = .ok (.invokevirtual 98, 3) := by decide +kernel
theorem dX11_copy_49 : decode cX11_copy 49 = .ok (.ifCond .eq 10, 3) := by decide +kernel
theorem dX11_copy_52 : decode cX11_copy 52 = .ok (.aload_n 0, 1) := by decide +kernel
theorem dX11_copy_53 : decode cX11_copy 53 = .ok (.bipush (-2), 2) := by decide +kernel
theorem dX11_copy_55 : decode cX11_copy 55 = .ok (.invokevirtual 80, 3) := by decide +kernel
theorem dX11_copy_58 : decode cX11_copy 58 = .ok (.ireturn, 1) := by decide +kernel
theorem dX11_copy_59 : decode cX11_copy 59 = .ok (.aload 6, 2) := by decide +kernel
theorem dX11_copy_61 : decode cX11_copy 61 = .ok (.invokevirtual 102, 3) := by decide +kernel
theorem dX11_copy_64 : decode cX11_copy 64 = .ok (.ifCond .eq 31, 3) := by decide +kernel
theorem dX11_copy_67 : decode cX11_copy 67 = .ok (.aload 7, 2) := by decide +kernel
theorem dX11_copy_69 : decode cX11_copy 69 = .ok (.invokevirtual 102, 3) := by decide +kernel
theorem dX11_copy_72 : decode cX11_copy 72 = .ok (.ifCond .eq 23, 3) := by decide +kernel
theorem dX11_copy_75 : decode cX11_copy 75 = .ok (.aload 6, 2) := by decide +kernel
theorem dX11_copy_77 : decode cX11_copy 77 = .ok (.getfield 105, 3) := by decide +kernel
theorem dX11_copy_80 : decode cX11_copy 80 = .ok (.aload 7, 2) := by decide +kernel
theorem dX11_copy_82 : decode cX11_copy 82 = .ok (.getfield 105, 3) := by decide +kernel
theorem dX11_copy_85 : decode cX11_copy 85 = .ok (.if_icmp .eq 10, 3) := by decide +kernel
theorem dX11_copy_88 : decode cX11_copy 88 = .ok (.aload_n 0, 1) := by decide +kernel
theorem dX11_copy_89 : decode cX11_copy 89 = .ok (.bipush (-2), 2) := by decide +kernel
theorem dX11_copy_91 : decode cX11_copy 91 = .ok (.invokevirtual 80, 3) := by decide +kernel
theorem dX11_copy_94 : decode cX11_copy 94 = .ok (.ireturn, 1) := by decide +kernel
theorem dX11_copy_95 : decode cX11_copy 95 = .ok (.aload 6, 2) := by decide +kernel
theorem dX11_copy_97 : decode cX11_copy 97 = .ok (.invokevirtual 102, 3) := by decide +kernel
theorem dX11_copy_100 : decode cX11_copy 100 = .ok (.ifCond .eq 11, 3) := by decide +kernel
theorem dX11_copy_103 : decode cX11_copy 103 = .ok (.aload 7, 2) := by decide +kernel
theorem dX11_copy_105 : decode cX11_copy 105 = .ok (.invokevirtual 102, 3) := by decide +kernel
theorem dX11_copy_108 : decode cX11_copy 108 = .ok (.ifCond .ne 10, 3) := by decide +kernel
theorem dX11_copy_111 : decode cX11_copy 111 = .ok (.aload_n 0, 1) := by decide +kernel
theorem dX11_copy_112 : decode cX11_copy 112 = .ok (.bipush (-3), 2) := by decide +kernel
theorem dX11_copy_114 : decode cX11_copy 114 = .ok (.invokevirtual 80, 3) := by decide +kernel
theorem dX11_copy_117 : decode cX11_copy 117 = .ok (.ireturn, 1) := by decide +kernel
theorem dX11_copy_118 : decode cX11_copy 118 = .ok (.iload 5, 2) := by decide +kernel
theorem dX11_copy_120 : decode cX11_copy 120 = .ok (.ifCond .ge 10, 3) := by decide +kernel
theorem dX11_copy_123 : decode cX11_copy 123 = .ok (.aload_n 0, 1) := by decide +kernel
theorem dX11_copy_124 : decode cX11_copy 124 = .ok (.bipush (-4), 2) := by decide +kernel
theorem dX11_copy_126 : decode cX11_copy 126 = .ok (.invokevirtual 80, 3) := by decide +kernel
theorem dX11_copy_129 : decode cX11_copy 129 = .ok (.ireturn, 1) := by decide +kernel
theorem dX11_copy_130 : decode cX11_copy 130 = .ok (.aload 6, 2) := by decide +kernel
theorem dX11_copy_132 : decode cX11_copy 132 = .ok (.iload_n 3, 1) := by decide +kernel
theorem dX11_copy_133 : decode cX11_copy 133 = .ok (.iload 5, 2) := by decide +kernel
theorem dX11_copy_135 : decode cX11_copy 135 = .ok (.invokevirtual 108, 3) := by decide +kernel
theorem dX11_copy_138 : decode cX11_copy 138 = .ok (.ifCond .eq 15, 3) := by decide +kernel
theorem dX11_copy_141 : decode cX11_copy 141 = .ok (.aload 7, 2) := by decide +kernel
theorem dX11_copy_143 : decode cX11_copy 143 = .ok (.iload 4, 2) := by decide +kernel
theorem dX11_copy_145 : decode cX11_copy 145 = .ok (.iload 5, 2) := by decide +kernel
theorem dX11_copy_147 : decode cX11_copy 147 = .ok (.invokevirtual 108, 3) := by decide +kernel
theorem dX11_copy_150 : decode cX11_copy 150 = .ok (.ifCond .ne 10, 3) := by decide +kernel
theorem dX11_copy_153 : decode cX11_copy 153 = .ok (.aload_n 0, 1) := by decide +kernel
theorem dX11_copy_154 : decode cX11_copy 154 = .ok (.bipush (-5), 2) := by decide +kernel
theorem dX11_copy_156 : decode cX11_copy 156 = .ok (.invokevirtual 80, 3) := by decide +kernel
theorem dX11_copy_159 : decode cX11_copy 159 = .ok (.ireturn, 1) := by decide +kernel
theorem dX11_copy_160 : decode cX11_copy 160 = .ok (.aload 6, 2) := by decide +kernel
theorem dX11_copy_162 : decode cX11_copy 162 = .ok (.getfield 112, 3) := by decide +kernel
theorem dX11_copy_165 : decode cX11_copy 165 = .ok (.iload_n 3, 1) := by decide +kernel
theorem dX11_copy_166 : decode cX11_copy 166 = .ok (.aload 7, 2) := by decide +kernel
theorem dX11_copy_168 : decode cX11_copy 168 = .ok (.getfield 112, 3) := by decide +kernel
theorem dX11_copy_171 : decode cX11_copy 171 = .ok (.iload 4, 2) := by decide +kernel
theorem dX11_copy_173 : decode cX11_copy 173 = .ok (.iload 5, 2) := by decide +kernel
theorem dX11_copy_175 : decode cX11_copy 175 = .ok (.invokestatic 116, 3) := by decide +kernel
theorem dX11_copy_178 : decode cX11_copy 178 = .ok (.iconst 1, 1) := by decide +kernel
theorem dX11_copy_179 : decode cX11_copy 179 = .ok (.ireturn, 1) := by decide +kernel
theorem dX11_element_0 : decode cX11_element 0 = .ok (.iload_n 1, 1) := by decide +kernel
theorem dX11_element_1 : decode cX11_element 1 = .ok (.invokestatic 76, 3) := by decide +kernel
theorem dX11_element_4 : decode cX11_element 4 = .ok (.ifCond .eq 16, 3) := by decide +kernel
theorem dX11_element_7 : decode cX11_element 7 = .ok (.aload_n 0, 1) := by decide +kernel
theorem dX11_element_8 : decode cX11_element 8 = .ok (.getfield 11, 3) := by decide +kernel
theorem dX11_element_11 : decode cX11_element 11 = .ok (.iload_n 1, 1) := by decide +kernel
theorem dX11_element_12 : decode cX11_element 12 = .ok (.aaload, 1) := by decide +kernel
theorem dX11_element_13 : decode cX11_element 13 = .ok (.iload_n 2, 1) := by decide +kernel
theorem dX11_element_14 : decode cX11_element 14 = .ok (.invokevirtual 122, 3) := by decide +kernel
theorem dX11_element_17 : decode cX11_element 17 = .ok (.goto 4, 3) := by decide +kernel
theorem dX11_element_20 : decode cX11_element 20 = .ok (.lconst 0, 1) := by decide +kernel
theorem dX11_element_21 : decode cX11_element 21 = .ok (.lreturn, 1) := by decide +kernel
theorem dX11_show_0 : decode cX11_show 0 = .ok (.iload_n 1, 1) := by decide +kernel
theorem dX11_show_1 : decode cX11_show 1 = .ok (.invokestatic 76, 3) := by decide +kernel
theorem dX11_show_4 : decode cX11_show 4 = .ok (.ifCond .eq 19, 3) := by decide +kernel
theorem dX11_show_7 : decode cX11_show 7 = .ok (.iload_n 2, 1) := by decide +kernel
theorem dX11_show_8 : decode cX11_show 8 = .ok (.iconst (-1), 1) := by decide +kernel
theorem dX11_show_9 : decode cX11_show 9 = .ok (.if_icmp .eq 20, 3) := by decide +kernel
theorem dX11_show_12 : decode cX11_show 12 = .ok (.aload_n 0, 1) := by decide +kernel
theorem dX11_show_13 : decode cX11_show 13 = .ok (.getfield 18, 3) := by decide +kernel
theorem dX11_show_16 : decode cX11_show 16 = .ok (.iload_n 2, 1) := by decide +kernel
theorem dX11_show_17 : decode cX11_show 17 = .ok (.invokevirtual 126, 3) := by decide +kernel
theorem dX11_show_20 : decode cX11_show 20 = .ok (.ifnonnull 9, 3) := by decide +kernel
theorem dX11_show_23 : decode cX11_show 23 = .ok (.aload_n 0, 1) := by decide +kernel
theorem dX11_show_24 : decode cX11_show 24 = .ok (.iconst (-1), 1) := by decide +kernel
theorem dX11_show_25 : decode cX11_show 25 = .ok (.invokevirtual 80, 3) := by decide +kernel
theorem dX11_show_28 : decode cX11_show 28 = .ok (.ireturn, 1) := by decide +kernel
theorem dX11_show_29 : decode cX11_show 29 = .ok (.aload_n 0, 1) := by decide +kernel
theorem dX11_show_30 : decode cX11_show 30 = .ok (.getfield 11, 3) := by decide +kernel
theorem dX11_show_33 : decode cX11_show 33 = .ok (.iload_n 1, 1) := by decide +kernel
theorem dX11_show_34 : decode cX11_show 34 = .ok (.aaload, 1) := by decide +kernel
theorem dX11_show_35 : decode cX11_show 35 = .ok (.iload_n 2, 1) := by decide +kernel
theorem dX11_show_36 : decode cX11_show 36 = .ok (.invokevirtual 130, 3) := by decide +kernel
theorem dX11_show_39 : decode cX11_show 39 = .ok (.iload_n 2, 1) := by decide +kernel
theorem dX11_show_40 : decode cX11_show 40 = .ok (.iconst (-1), 1) := by decide +kernel
theorem dX11_show_41 : decode cX11_show 41 = .ok (.if_icmp .ne 7, 3) := by decide +kernel
theorem dX11_show_44 : decode cX11_show 44 = .ok (.iconst 0, 1) := by decide +kernel
theorem dX11_show_45 : decode cX11_show 45 = .ok (.goto 4, 3) := by decide +kernel
theorem dX11_show_48 : decode cX11_show 48 = .ok (.iconst 1, 1) := by decide +kernel
theorem dX11_show_49 : decode cX11_show 49 = .ok (.ireturn, 1) := by decide +kernel
theorem dX11_holds_0 : decode cX11_holds 0 = .ok (.iload_n 1, 1) := by decide +kernel
theorem dX11_holds_1 : decode cX11_holds 1 = .ok (.invokestatic 76, 3) := by decide +kernel
theorem dX11_holds_4 : decode cX11_holds 4 = .ok (.ifCond .eq 15, 3) := by decide +kernel
theorem dX11_holds_7 : decode cX11_holds 7 = .ok (.aload_n 0, 1) := by decide +kernel
theorem dX11_holds_8 : decode cX11_holds 8 = .ok (.getfield 11, 3) := by decide +kernel
theorem dX11_holds_11 : decode cX11_holds 11 = .ok (.iload_n 1, 1) := by decide +kernel
theorem dX11_holds_12 : decode cX11_holds 12 = .ok (.aaload, 1) := by decide +kernel
theorem dX11_holds_13 : decode cX11_holds 13 = .ok (.getfield 105, 3) := by decide +kernel
theorem dX11_holds_16 : decode cX11_holds 16 = .ok (.goto 4, 3) := by decide +kernel
theorem dX11_holds_19 : decode cX11_holds 19 = .ok (.iconst (-1), 1) := by decide +kernel
theorem dX11_holds_20 : decode cX11_holds 20 = .ok (.ireturn, 1) := by decide +kernel
theorem dX11_says_0 : decode cX11_says 0 = .ok (.iload_n 1, 1) := by decide +kernel
theorem dX11_says_1 : decode cX11_says 1 = .ok (.invokestatic 76, 3) := by decide +kernel
theorem dX11_says_4 : decode cX11_says 4 = .ok (.ifCond .eq 10, 3) := by decide +kernel
theorem dX11_says_7 : decode cX11_says 7 = .ok (.iload_n 2, 1) := by decide +kernel
theorem dX11_says_8 : decode cX11_says 8 = .ok (.invokestatic 134, 3) := by decide +kernel
theorem dX11_says_11 : decode cX11_says 11 = .ok (.ifCond .ne 9, 3) := by decide +kernel
theorem dX11_says_14 : decode cX11_says 14 = .ok (.aload_n 0, 1) := by decide +kernel
theorem dX11_says_15 : decode cX11_says 15 = .ok (.iconst (-1), 1) := by decide +kernel
theorem dX11_says_16 : decode cX11_says 16 = .ok (.invokevirtual 80, 3) := by decide +kernel
theorem dX11_says_19 : decode cX11_says 19 = .ok (.ireturn, 1) := by decide +kernel
theorem dX11_says_20 : decode cX11_says 20 = .ok (.aload_n 0, 1) := by decide +kernel
theorem dX11_says_21 : decode cX11_says 21 = .ok (.getfield 11, 3) := by decide +kernel
theorem dX11_says_24 : decode cX11_says 24 = .ok (.iload_n 1, 1) := by decide +kernel
theorem dX11_says_25 : decode cX11_says 25 = .ok (.aaload, 1) := by decide +kernel
theorem dX11_says_26 : decode cX11_says 26 = .ok (.invokevirtual 102, 3) := by decide +kernel
theorem dX11_says_29 : decode cX11_says 29 = .ok (.ifCond .eq 10, 3) := by decide +kernel
theorem dX11_says_32 : decode cX11_says 32 = .ok (.aload_n 0, 1) := by decide +kernel
theorem dX11_says_33 : decode cX11_says 33 = .ok (.bipush (-2), 2) := by decide +kernel
theorem dX11_says_35 : decode cX11_says 35 = .ok (.invokevirtual 80, 3) := by decide +kernel
theorem dX11_says_38 : decode cX11_says 38 = .ok (.ireturn, 1) := by decide +kernel
theorem dX11_says_39 : decode cX11_says 39 = .ok (.aload_n 0, 1) := by decide +kernel
theorem dX11_says_40 : decode cX11_says 40 = .ok (.getfield 18, 3) := by decide +kernel
theorem dX11_says_43 : decode cX11_says 43 = .ok (.aload_n 0, 1) := by decide +kernel
theorem dX11_says_44 : decode cX11_says 44 = .ok (.getfield 11, 3) := by decide +kernel
theorem dX11_says_47 : decode cX11_says 47 = .ok (.iload_n 1, 1) := by decide +kernel
theorem dX11_says_48 : decode cX11_says 48 = .ok (.aaload, 1) := by decide +kernel
theorem dX11_says_49 : decode cX11_says 49 = .ok (.getfield 105, 3) := by decide +kernel
theorem dX11_says_52 : decode cX11_says 52 = .ok (.invokevirtual 126, 3) := by decide +kernel
theorem dX11_says_55 : decode cX11_says 55 = .ok (.astore_n 3, 1) := by decide +kernel
theorem dX11_says_56 : decode cX11_says 56 = .ok (.aload_n 3, 1) := by decide +kernel
theorem dX11_says_57 : decode cX11_says 57 = .ok (.ifnonnull 10, 3) := by decide +kernel
theorem dX11_says_60 : decode cX11_says 60 = .ok (.aload_n 0, 1) := by decide +kernel
theorem dX11_says_61 : decode cX11_says 61 = .ok (.bipush (-3), 2) := by decide +kernel
theorem dX11_says_63 : decode cX11_says 63 = .ok (.invokevirtual 80, 3) := by decide +kernel
theorem dX11_says_66 : decode cX11_says 66 = .ok (.ireturn, 1) := by decide +kernel
theorem dX11_says_67 : decode cX11_says 67 = .ok (.aload_n 3, 1) := by decide +kernel
theorem dX11_says_68 : decode cX11_says 68 = .ok (.iload_n 2, 1) := by decide +kernel
theorem dX11_says_69 : decode cX11_says 69 = .ok (.invokestatic 137, 3) := by decide +kernel
theorem dX11_says_72 : decode cX11_says 72 = .ok (.ifCond .ne 10, 3) := by decide +kernel
theorem dX11_says_75 : decode cX11_says 75 = .ok (.aload_n 0, 1) := by decide +kernel
theorem dX11_says_76 : decode cX11_says 76 = .ok (.bipush (-2), 2) := by decide +kernel
theorem dX11_says_78 : decode cX11_says 78 = .ok (.invokevirtual 80, 3) := by decide +kernel
theorem dX11_says_81 : decode cX11_says 81 = .ok (.ireturn, 1) := by decide +kernel
theorem dX11_says_82 : decode cX11_says 82 = .ok (.iload_n 2, 1) := by decide +kernel
theorem dX11_says_83 : decode cX11_says 83 = .ok (.ifCond .ne 8, 3) := by decide +kernel
theorem dX11_says_86 : decode cX11_says 86 = .ok (.aload_n 3, 1) := by decide +kernel
theorem dX11_says_87 : decode cX11_says 87 = .ok (.getfield 141, 3) := by decide +kernel
theorem dX11_says_90 : decode cX11_says 90 = .ok (.ireturn, 1) := by decide +kernel
theorem dX11_says_91 : decode cX11_says 91 = .ok (.iload_n 2, 1) := by decide +kernel
theorem dX11_says_92 : decode cX11_says 92 = .ok (.iconst 2, 1) := by decide +kernel
theorem dX11_says_93 : decode cX11_says 93 = .ok (.if_icmp .ne 10, 3) := by decide +kernel
theorem dX11_says_96 : decode cX11_says 96 = .ok (.aload_n 3, 1) := by decide +kernel
theorem dX11_says_97 : decode cX11_says 97 = .ok (.getfield 144, 3) := by decide +kernel
theorem dX11_says_100 : decode cX11_says 100 = .ok (.goto 7, 3) := by decide +kernel
theorem dX11_says_103 : decode cX11_says 103 = .ok (.aload_n 3, 1) := by decide +kernel
theorem dX11_says_104 : decode cX11_says 104 = .ok (.getfield 147, 3) := by decide +kernel
theorem dX11_says_107 : decode cX11_says 107 = .ok (.ireturn, 1) := by decide +kernel
theorem dX11_thing_0 : decode cX11_thing 0 = .ok (.iload_n 1, 1) := by decide +kernel
theorem dX11_thing_1 : decode cX11_thing 1 = .ok (.invokestatic 134, 3) := by decide +kernel
theorem dX11_thing_4 : decode cX11_thing 4 = .ok (.ifCond .ne 9, 3) := by decide +kernel
theorem dX11_thing_7 : decode cX11_thing 7 = .ok (.aload_n 0, 1) := by decide +kernel
theorem dX11_thing_8 : decode cX11_thing 8 = .ok (.iconst (-1), 1) := by decide +kernel
theorem dX11_thing_9 : decode cX11_thing 9 = .ok (.invokevirtual 80, 3) := by decide +kernel
theorem dX11_thing_12 : decode cX11_thing 12 = .ok (.ireturn, 1) := by decide +kernel
theorem dX11_thing_13 : decode cX11_thing 13 = .ok (.iload_n 1, 1) := by decide +kernel
theorem dX11_thing_14 : decode cX11_thing 14 = .ok (.iconst 2, 1) := by decide +kernel
theorem dX11_thing_15 : decode cX11_thing 15 = .ok (.if_icmp .eq 8, 3) := by decide +kernel
theorem dX11_thing_18 : decode cX11_thing 18 = .ok (.iload_n 1, 1) := by decide +kernel
theorem dX11_thing_19 : decode cX11_thing 19 = .ok (.iconst 3, 1) := by decide +kernel
theorem dX11_thing_20 : decode cX11_thing 20 = .ok (.if_icmp .ne 30, 3) := by decide +kernel
theorem dX11_thing_23 : decode cX11_thing 23 = .ok (.aload_n 0, 1) := by decide +kernel
theorem dX11_thing_24 : decode cX11_thing 24 = .ok (.iload_n 2, 1) := by decide +kernel
theorem dX11_thing_25 : decode cX11_thing 25 = .ok (.invokevirtual 88, 3) := by decide +kernel
theorem dX11_thing_28 : decode cX11_thing 28 = .ok (.istore_n 3, 1) := by decide +kernel
theorem dX11_thing_29 : decode cX11_thing 29 = .ok (.iload_n 3, 1) := by decide +kernel
theorem dX11_thing_30 : decode cX11_thing 30 = .ok (.ifCond .ne 10, 3) := by decide +kernel
theorem dX11_thing_33 : decode cX11_thing 33 = .ok (.aload_n 0, 1) := by decide +kernel
theorem dX11_thing_34 : decode cX11_thing 34 = .ok (.iload_n 2, 1) := by decide +kernel
theorem dX11_thing_35 : decode cX11_thing 35 = .ok (.iconst 0, 1) := by decide +kernel
theorem dX11_thing_36 : decode cX11_thing 36 = .ok (.invokevirtual 150, 3) := by decide +kernel
theorem dX11_thing_39 : decode cX11_thing 39 = .ok (.istore_n 3, 1) := by decide +kernel
theorem dX11_thing_40 : decode cX11_thing 40 = .ok (.iload_n 3, 1) := by decide +kernel
theorem dX11_thing_41 : decode cX11_thing 41 = .ok (.ifCond .eq 9, 3) := by decide +kernel
theorem dX11_thing_44 : decode cX11_thing 44 = .ok (.aload_n 0, 1) := by decide +kernel
theorem dX11_thing_45 : decode cX11_thing 45 = .ok (.iload_n 3, 1) := by decide +kernel
theorem dX11_thing_46 : decode cX11_thing 46 = .ok (.invokevirtual 80, 3) := by decide +kernel
theorem dX11_thing_49 : decode cX11_thing 49 = .ok (.ireturn, 1) := by decide +kernel
theorem dX11_thing_50 : decode cX11_thing 50 = .ok (.aload_n 0, 1) := by decide +kernel
theorem dX11_thing_51 : decode cX11_thing 51 = .ok (.getfield 18, 3) := by decide +kernel
theorem dX11_thing_54 : decode cX11_thing 54 = .ok (.iload_n 1, 1) := by decide +kernel
theorem dX11_thing_55 : decode cX11_thing 55 = .ok (.invokevirtual 154, 3) := by decide +kernel
theorem dX11_thing_58 : decode cX11_thing 58 = .ok (.ifCond .ne 10, 3) := by decide +kernel
theorem dX11_thing_61 : decode cX11_thing 61 = .ok (.aload_n 0, 1) := by decide +kernel
theorem dX11_thing_62 : decode cX11_thing 62 = .ok (.bipush (-7), 2) := by decide +kernel
theorem dX11_thing_64 : decode cX11_thing 64 = .ok (.invokevirtual 80, 3) := by decide +kernel
theorem dX11_thing_67 : decode cX11_thing 67 = .ok (.ireturn, 1) := by decide +kernel
theorem dX11_thing_68 : decode cX11_thing 68 = .ok (.aload_n 0, 1) := by decide +kernel
theorem dX11_thing_69 : decode cX11_thing 69 = .ok (.iconst 1, 1) := by decide +kernel
theorem dX11_thing_70 : decode cX11_thing 70 = .ok (.putfield 65, 3) := by decide +kernel
theorem dX11_thing_73 : decode cX11_thing 73 = .ok (.aload_n 0, 1) := by decide +kernel
theorem dX11_thing_74 : decode cX11_thing 74 = .ok (.iconst 1, 1) := by decide +kernel
theorem dX11_thing_75 : decode cX11_thing 75 = .ok (.putfield 68, 3) := by decide +kernel
theorem dX11_thing_78 : decode cX11_thing 78 = .ok (.aload_n 0, 1) := by decide +kernel
theorem dX11_thing_79 : decode cX11_thing 79 = .ok (.getfield 18, 3) := by decide +kernel
theorem dX11_thing_82 : decode cX11_thing 82 = .ok (.iload_n 1, 1) := by decide +kernel
theorem dX11_thing_83 : decode cX11_thing 83 = .ok (.aload_n 0, 1) := by decide +kernel
theorem dX11_thing_84 : decode cX11_thing 84 = .ok (.getfield 30, 3) := by decide +kernel
theorem dX11_thing_87 : decode cX11_thing 87 = .ok (.getfield 157, 3) := by decide +kernel
theorem dX11_thing_90 : decode cX11_thing 90 = .ok (.getfield 161, 3) := by decide +kernel
theorem dX11_thing_93 : decode cX11_thing 93 = .ok (.invokevirtual 167, 3) := by decide +kernel
theorem dX11_thing_96 : decode cX11_thing 96 = .ok (.ireturn, 1) := by decide +kernel
theorem dX11_happening_0 : decode cX11_happening 0 = .ok (.aload_n 0, 1) := by decide +kernel
theorem dX11_happening_1 : decode cX11_happening 1 = .ok (.iload_n 1, 1) := by decide +kernel
theorem dX11_happening_2 : decode cX11_happening 2 = .ok (.invokevirtual 88, 3) := by decide +kernel
theorem dX11_happening_5 : decode cX11_happening 5 = .ok (.istore 4, 2) := by decide +kernel
theorem dX11_happening_7 : decode cX11_happening 7 = .ok (.iload 4, 2) := by decide +kernel
theorem dX11_happening_9 : decode cX11_happening 9 = .ok (.ifCond .ne 23, 3) := by decide +kernel
theorem dX11_happening_12 : decode cX11_happening 12 = .ok (.iload_n 2, 1) := by decide +kernel
theorem dX11_happening_13 : decode cX11_happening 13 = .ok (.invokestatic 171, 3) := by decide +kernel
theorem dX11_happening_16 : decode cX11_happening 16 = .ok (.ifCond .eq 12, 3) := by decide +kernel
theorem dX11_happening_19 : decode cX11_happening 19 = .ok (.aload_n 0, 1) := by decide +kernel
theorem dX11_happening_20 : decode cX11_happening 20 = .ok (.iload_n 1, 1) := by decide +kernel
theorem dX11_happening_21 : decode cX11_happening 21 = .ok (.iconst 1, 1) := by decide +kernel
theorem dX11_happening_22 : decode cX11_happening 22 = .ok (.invokevirtual 150, 3) := by decide +kernel
theorem dX11_happening_25 : decode cX11_happening 25 = .ok (.goto 5, 3) := by decide +kernel
theorem dX11_happening_28 : decode cX11_happening 28 = .ok (.bipush (-6), 2) := by decide +kernel
theorem dX11_happening_30 : decode cX11_happening 30 = .ok (.istore 4, 2) := by decide +kernel
theorem dX11_happening_32 : decode cX11_happening 32 = .ok (.iload 4, 2) := by decide +kernel
theorem dX11_happening_34 : decode cX11_happening 34 = .ok (.ifCond .eq 10, 3) := by decide +kernel
theorem dX11_happening_37 : decode cX11_happening 37 = .ok (.aload_n 0, 1) := by decide +kernel
theorem dX11_happening_38 : decode cX11_happening 38 = .ok (.iload 4, 2) := by decide +kernel
theorem dX11_happening_40 : decode cX11_happening 40 = .ok (.invokevirtual 80, 3) := by decide +kernel
theorem dX11_happening_43 : decode cX11_happening 43 = .ok (.ireturn, 1) := by decide +kernel
theorem dX11_happening_44 : decode cX11_happening 44 = .ok (.aload_n 0, 1) := by decide +kernel
theorem dX11_happening_45 : decode cX11_happening 45 = .ok (.getfield 18, 3) := by decide +kernel
theorem dX11_happening_48 : decode cX11_happening 48 = .ok (.getfield 174, 3) := by decide +kernel
theorem dX11_happening_51 : decode cX11_happening 51 = .ok (.bipush 6, 2) := by decide +kernel
theorem dX11_happening_53 : decode cX11_happening 53 = .ok (.if_icmp .lt 10, 3) := by decide +kernel
theorem dX11_happening_56 : decode cX11_happening 56 = .ok (.aload_n 0, 1) := by decide +kernel
theorem dX11_happening_57 : decode cX11_happening 57 = .ok (.bipush (-7), 2) := by decide +kernel
theorem dX11_happening_59 : decode cX11_happening 59 = .ok (.invokevirtual 80, 3) := by decide +kernel
theorem dX11_happening_62 : decode cX11_happening 62 = .ok (.ireturn, 1) := by decide +kernel
theorem dX11_happening_63 : decode cX11_happening 63 = .ok (.aload_n 0, 1) := by decide +kernel
theorem dX11_happening_64 : decode cX11_happening 64 = .ok (.iconst 1, 1) := by decide +kernel
theorem dX11_happening_65 : decode cX11_happening 65 = .ok (.putfield 65, 3) := by decide +kernel
theorem dX11_happening_68 : decode cX11_happening 68 = .ok (.aload_n 0, 1) := by decide +kernel
theorem dX11_happening_69 : decode cX11_happening 69 = .ok (.iconst 1, 1) := by decide +kernel
theorem dX11_happening_70 : decode cX11_happening 70 = .ok (.putfield 68, 3) := by decide +kernel
theorem dX11_happening_73 : decode cX11_happening 73 = .ok (.aload_n 0, 1) := by decide +kernel
theorem dX11_happening_74 : decode cX11_happening 74 = .ok (.getfield 18, 3) := by decide +kernel
theorem dX11_happening_77 : decode cX11_happening 77 = .ok (.aload_n 0, 1) := by decide +kernel
theorem dX11_happening_78 : decode cX11_happening 78 = .ok (.getfield 30, 3) := by decide +kernel
theorem dX11_happening_81 : decode cX11_happening 81 = .ok (.getfield 157, 3) := by decide +kernel
theorem dX11_happening_84 : decode cX11_happening 84 = .ok (.iload_n 2, 1) := by decide +kernel
theorem dX11_happening_85 : decode cX11_happening 85 = .ok (.iload_n 3, 1) := by decide +kernel
theorem dX11_happening_86 : decode cX11_happening 86 = .ok (.invokevirtual 177, 3) := by decide +kernel
theorem dX11_happening_89 : decode cX11_happening 89 = .ok (.ireturn, 1) := by decide +kernel
theorem dX11_fault_0 : decode cX11_fault 0 = .ok (.aload_n 0, 1) := by decide +kernel
theorem dX11_fault_1 : decode cX11_fault 1 = .ok (.getfield 71, 3) := by decide +kernel
theorem dX11_fault_4 : decode cX11_fault 4 = .ok (.ireturn, 1) := by decide +kernel
theorem dX11_price_0 : decode cX11_price 0 = .ok (.aload_n 0, 1) := by decide +kernel
theorem dX11_price_1 : decode cX11_price 1 = .ok (.iload_n 1, 1) := by decide +kernel
theorem dX11_price_2 : decode cX11_price 2 = .ok (.invokevirtual 181, 3) := by decide +kernel
theorem dX11_price_5 : decode cX11_price 5 = .ok (.ifCond .ne 9, 3) := by decide +kernel
theorem dX11_price_8 : decode cX11_price 8 = .ok (.aload_n 0, 1) := by decide +kernel
theorem dX11_price_9 : decode cX11_price 9 = .ok (.iconst (-1), 1) := by decide +kernel
theorem dX11_price_10 : decode cX11_price 10 = .ok (.invokevirtual 80, 3) := by decide +kernel
theorem dX11_price_13 : decode cX11_price 13 = .ok (.ireturn, 1) := by decide +kernel
theorem dX11_price_14 : decode cX11_price 14 = .ok (.iload_n 2, 1) := by decide +kernel
theorem dX11_price_15 : decode cX11_price 15 = .ok (.invokestatic 171, 3) := by decide +kernel
theorem dX11_price_18 : decode cX11_price 18 = .ok (.ifCond .ne 10, 3) := by decide +kernel
theorem dX11_price_21 : decode cX11_price 21 = .ok (.aload_n 0, 1) := by decide +kernel
theorem dX11_price_22 : decode cX11_price 22 = .ok (.bipush (-6), 2) := by decide +kernel
theorem dX11_price_24 : decode cX11_price 24 = .ok (.invokevirtual 80, 3) := by decide +kernel
theorem dX11_price_27 : decode cX11_price 27 = .ok (.ireturn, 1) := by decide +kernel
theorem dX11_price_28 : decode cX11_price 28 = .ok (.aload_n 0, 1) := by decide +kernel
theorem dX11_price_29 : decode cX11_price 29 = .ok (.getfield 18, 3) := by decide +kernel
theorem dX11_price_32 : decode cX11_price 32 = .ok (.getfield 184, 3) := by decide +kernel
theorem dX11_price_35 : decode cX11_price 35 = .ok (.iload_n 1, 1) := by decide +kernel
theorem dX11_price_36 : decode cX11_price 36 = .ok (.aaload, 1) := by decide +kernel
theorem dX11_price_37 : decode cX11_price 37 = .ok (.getfield 188, 3) := by decide +kernel
theorem dX11_price_40 : decode cX11_price 40 = .ok (.istore_n 3, 1) := by decide +kernel
theorem dX11_price_41 : decode cX11_price 41 = .ok (.aload_n 0, 1) := by decide +kernel
theorem dX11_price_42 : decode cX11_price 42 = .ok (.getfield 18, 3) := by decide +kernel
theorem dX11_price_45 : decode cX11_price 45 = .ok (.getfield 184, 3) := by decide +kernel
theorem dX11_price_48 : decode cX11_price 48 = .ok (.iload_n 1, 1) := by decide +kernel
theorem dX11_price_49 : decode cX11_price 49 = .ok (.aaload, 1) := by decide +kernel
theorem dX11_price_50 : decode cX11_price 50 = .ok (.iload_n 2, 1) := by decide +kernel
theorem dX11_price_51 : decode cX11_price 51 = .ok (.putfield 188, 3) := by decide +kernel
theorem dX11_price_54 : decode cX11_price 54 = .ok (.aload_n 0, 1) := by decide +kernel
theorem dX11_price_55 : decode cX11_price 55 = .ok (.iconst 1, 1) := by decide +kernel
theorem dX11_price_56 : decode cX11_price 56 = .ok (.putfield 68, 3) := by decide +kernel
theorem dX11_price_59 : decode cX11_price 59 = .ok (.iload_n 3, 1) := by decide +kernel
theorem dX11_price_60 : decode cX11_price 60 = .ok (.ireturn, 1) := by decide +kernel
theorem dX11_weigh_0 : decode cX11_weigh 0 = .ok (.iload_n 1, 1) := by decide +kernel
theorem dX11_weigh_1 : decode cX11_weigh 1 = .ok (.invokestatic 191, 3) := by decide +kernel
theorem dX11_weigh_4 : decode cX11_weigh 4 = .ok (.ifCond .ne 9, 3) := by decide +kernel
theorem dX11_weigh_7 : decode cX11_weigh 7 = .ok (.aload_n 0, 1) := by decide +kernel
theorem dX11_weigh_8 : decode cX11_weigh 8 = .ok (.iconst (-1), 1) := by decide +kernel
theorem dX11_weigh_9 : decode cX11_weigh 9 = .ok (.invokevirtual 80, 3) := by decide +kernel
theorem dX11_weigh_12 : decode cX11_weigh 12 = .ok (.ireturn, 1) := by decide +kernel
theorem dX11_weigh_13 : decode cX11_weigh 13 = .ok (.iload_n 2, 1) := by decide +kernel
theorem dX11_weigh_14 : decode cX11_weigh 14 = .ok (.invokestatic 171, 3) := by decide +kernel
theorem dX11_weigh_17 : decode cX11_weigh 17 = .ok (.ifCond .ne 10, 3) := by decide +kernel
theorem dX11_weigh_20 : decode cX11_weigh 20 = .ok (.aload_n 0, 1) := by decide +kernel
theorem dX11_weigh_21 : decode cX11_weigh 21 = .ok (.bipush (-6), 2) := by decide +kernel
theorem dX11_weigh_23 : decode cX11_weigh 23 = .ok (.invokevirtual 80, 3) := by decide +kernel
theorem dX11_weigh_26 : decode cX11_weigh 26 = .ok (.ireturn, 1) := by decide +kernel
theorem dX11_weigh_27 : decode cX11_weigh 27 = .ok (.aload_n 0, 1) := by decide +kernel
theorem dX11_weigh_28 : decode cX11_weigh 28 = .ok (.getfield 18, 3) := by decide +kernel
theorem dX11_weigh_31 : decode cX11_weigh 31 = .ok (.getfield 194, 3) := by decide +kernel
theorem dX11_weigh_34 : decode cX11_weigh 34 = .ok (.iload_n 1, 1) := by decide +kernel
theorem dX11_weigh_35 : decode cX11_weigh 35 = .ok (.iaload, 1) := by decide +kernel
theorem dX11_weigh_36 : decode cX11_weigh 36 = .ok (.istore_n 3, 1) := by decide +kernel
theorem dX11_weigh_37 : decode cX11_weigh 37 = .ok (.aload_n 0, 1) := by decide +kernel
theorem dX11_weigh_38 : decode cX11_weigh 38 = .ok (.getfield 18, 3) := by decide +kernel
theorem dX11_weigh_41 : decode cX11_weigh 41 = .ok (.getfield 194, 3) := by decide +kernel
theorem dX11_weigh_44 : decode cX11_weigh 44 = .ok (.iload_n 1, 1) := by decide +kernel
theorem dX11_weigh_45 : decode cX11_weigh 45 = .ok (.iload_n 2, 1) := by decide +kernel
theorem dX11_weigh_46 : decode cX11_weigh 46 = .ok (.iastore, 1) := by decide +kernel
theorem dX11_weigh_47 : decode cX11_weigh 47 = .ok (.iload_n 3, 1) := by decide +kernel
theorem dX11_weigh_48 : decode cX11_weigh 48 = .ok (.ireturn, 1) := by decide +kernel
theorem dX11_seen_0 : decode cX11_seen 0 = .ok (.aload_n 0, 1) := by decide +kernel
theorem dX11_seen_1 : decode cX11_seen 1 = .ok (.iload_n 1, 1) := by decide +kernel
theorem dX11_seen_2 : decode cX11_seen 2 = .ok (.invokevirtual 181, 3) := by decide +kernel
theorem dX11_seen_5 : decode cX11_seen 5 = .ok (.ifCond .eq 10, 3) := by decide +kernel
theorem dX11_seen_8 : decode cX11_seen 8 = .ok (.iload_n 3, 1) := by decide +kernel
theorem dX11_seen_9 : decode cX11_seen 9 = .ok (.invokestatic 191, 3) := by decide +kernel
theorem dX11_seen_12 : decode cX11_seen 12 = .ok (.ifCond .ne 9, 3) := by decide +kernel
theorem dX11_seen_15 : decode cX11_seen 15 = .ok (.aload_n 0, 1) := by decide +kernel
theorem dX11_seen_16 : decode cX11_seen 16 = .ok (.iconst (-1), 1) := by decide +kernel
theorem dX11_seen_17 : decode cX11_seen 17 = .ok (.invokevirtual 80, 3) := by decide +kernel
theorem dX11_seen_20 : decode cX11_seen 20 = .ok (.ireturn, 1) := by decide +kernel
theorem dX11_seen_21 : decode cX11_seen 21 = .ok (.iload_n 2, 1) := by decide +kernel
theorem dX11_seen_22 : decode cX11_seen 22 = .ok (.invokestatic 197, 3) := by decide +kernel
theorem dX11_seen_25 : decode cX11_seen 25 = .ok (.ifCond .ne 10, 3) := by decide +kernel
theorem dX11_seen_28 : decode cX11_seen 28 = .ok (.aload_n 0, 1) := by decide +kernel
theorem dX11_seen_29 : decode cX11_seen 29 = .ok (.bipush (-6), 2) := by decide +kernel
theorem dX11_seen_31 : decode cX11_seen 31 = .ok (.invokevirtual 80, 3) := by decide +kernel
theorem dX11_seen_34 : decode cX11_seen 34 = .ok (.ireturn, 1) := by decide +kernel
theorem dX11_seen_35 : decode cX11_seen 35 = .ok (.aload_n 0, 1) := by decide +kernel
theorem dX11_seen_36 : decode cX11_seen 36 = .ok (.iconst 0, 1) := by decide +kernel
theorem dX11_seen_37 : decode cX11_seen 37 = .ok (.iload_n 1, 1) := by decide +kernel
theorem dX11_seen_38 : decode cX11_seen 38 = .ok (.iload_n 2, 1) := by decide +kernel
theorem dX11_seen_39 : decode cX11_seen 39 = .ok (.iload_n 2, 1) := by decide +kernel
theorem dX11_seen_40 : decode cX11_seen 40 = .ok (.iconst 0, 1) := by decide +kernel
theorem dX11_seen_41 : decode cX11_seen 41 = .ok (.iload_n 3, 1) := by decide +kernel
theorem dX11_seen_42 : decode cX11_seen 42 = .ok (.invokevirtual 200, 3) := by decide +kernel
theorem dX11_seen_45 : decode cX11_seen 45 = .ok (.ireturn, 1) := by decide +kernel
theorem dX11_span_0 : decode cX11_span 0 = .ok (.aload_n 0, 1) := by decide +kernel
theorem dX11_span_1 : decode cX11_span 1 = .ok (.iload_n 1, 1) := by decide +kernel
theorem dX11_span_2 : decode cX11_span 2 = .ok (.invokevirtual 181, 3) := by decide +kernel
theorem dX11_span_5 : decode cX11_span 5 = .ok (.ifCond .eq 11, 3) := by decide +kernel
theorem dX11_span_8 : decode cX11_span 8 = .ok (.iload 5, 2) := by decide +kernel
theorem dX11_span_10 : decode cX11_span 10 = .ok (.invokestatic 191, 3) := by decide +kernel
theorem dX11_span_13 : decode cX11_span 13 = .ok (.ifCond .ne 9, 3) := by decide +kernel
theorem dX11_span_16 : decode cX11_span 16 = .ok (.aload_n 0, 1) := by decide +kernel
theorem dX11_span_17 : decode cX11_span 17 = .ok (.iconst (-1), 1) := by decide +kernel
theorem dX11_span_18 : decode cX11_span 18 = .ok (.invokevirtual 80, 3) := by decide +kernel
theorem dX11_span_21 : decode cX11_span 21 = .ok (.ireturn, 1) := by decide +kernel
theorem dX11_span_22 : decode cX11_span 22 = .ok (.iload_n 2, 1) := by decide +kernel
theorem dX11_span_23 : decode cX11_span 23 = .ok (.iload_n 3, 1) := by decide +kernel
theorem dX11_span_24 : decode cX11_span 24 = .ok (.invokestatic 204, 3) := by decide +kernel
theorem dX11_span_27 : decode cX11_span 27 = .ok (.ifCond .ne 10, 3) := by decide +kernel
theorem dX11_span_30 : decode cX11_span 30 = .ok (.aload_n 0, 1) := by decide +kernel
theorem dX11_span_31 : decode cX11_span 31 = .ok (.bipush (-6), 2) := by decide +kernel
theorem dX11_span_33 : decode cX11_span 33 = .ok (.invokevirtual 80, 3) := by decide +kernel
theorem dX11_span_36 : decode cX11_span 36 = .ok (.ireturn, 1) := by decide +kernel
theorem dX11_span_37 : decode cX11_span 37 = .ok (.aload_n 0, 1) := by decide +kernel
theorem dX11_span_38 : decode cX11_span 38 = .ok (.iload 4, 2) := by decide +kernel
theorem dX11_span_40 : decode cX11_span 40 = .ok (.ifCond .eq 7, 3) := by decide +kernel
theorem dX11_span_43 : decode cX11_span 43 = .ok (.iconst 3, 1) := by decide +kernel
theorem dX11_span_44 : decode cX11_span 44 = .ok (.goto 4, 3) := by decide +kernel
theorem dX11_span_47 : decode cX11_span 47 = .ok (.iconst 1, 1) := by decide +kernel
theorem dX11_span_48 : decode cX11_span 48 = .ok (.iload_n 1, 1) := by decide +kernel
theorem dX11_span_49 : decode cX11_span 49 = .ok (.iload_n 2, 1) := by decide +kernel
theorem dX11_span_50 : decode cX11_span 50 = .ok (.iload_n 3, 1) := by decide +kernel
theorem dX11_span_51 : decode cX11_span 51 = .ok (.iconst 0, 1) := by decide +kernel
theorem dX11_span_52 : decode cX11_span 52 = .ok (.iload 5, 2) := by decide +kernel
theorem dX11_span_54 : decode cX11_span 54 = .ok (.invokevirtual 200, 3) := by decide +kernel
theorem dX11_span_57 : decode cX11_span 57 = .ok (.ireturn, 1) := by decide +kernel
theorem dX11_was_0 : decode cX11_was 0 = .ok (.aload_n 0, 1) := by decide +kernel
theorem dX11_was_1 : decode cX11_was 1 = .ok (.iload_n 1, 1) := by decide +kernel
theorem dX11_was_2 : decode cX11_was 2 = .ok (.invokevirtual 207, 3) := by decide +kernel
theorem dX11_was_5 : decode cX11_was 5 = .ok (.ifCond .eq 11, 3) := by decide +kernel
theorem dX11_was_8 : decode cX11_was 8 = .ok (.iload 5, 2) := by decide +kernel
theorem dX11_was_10 : decode cX11_was 10 = .ok (.invokestatic 191, 3) := by decide +kernel
theorem dX11_was_13 : decode cX11_was 13 = .ok (.ifCond .ne 9, 3) := by decide +kernel
theorem dX11_was_16 : decode cX11_was 16 = .ok (.aload_n 0, 1) := by decide +kernel
theorem dX11_was_17 : decode cX11_was 17 = .ok (.iconst (-1), 1) := by decide +kernel
theorem dX11_was_18 : decode cX11_was 18 = .ok (.invokevirtual 80, 3) := by decide +kernel
theorem dX11_was_21 : decode cX11_was 21 = .ok (.ireturn, 1) := by decide +kernel
theorem dX11_was_22 : decode cX11_was 22 = .ok (.iload_n 3, 1) := by decide +kernel
theorem dX11_was_23 : decode cX11_was 23 = .ok (.iload 4, 2) := by decide +kernel
theorem dX11_was_25 : decode cX11_was 25 = .ok (.invokestatic 204, 3) := by decide +kernel
theorem dX11_was_28 : decode cX11_was 28 = .ok (.ifCond .eq 12, 3) := by decide +kernel
theorem dX11_was_31 : decode cX11_was 31 = .ok (.aload_n 0, 1) := by decide +kernel
theorem dX11_was_32 : decode cX11_was 32 = .ok (.iload_n 1, 1) := by decide +kernel
theorem dX11_was_33 : decode cX11_was 33 = .ok (.iload_n 2, 1) := by decide +kernel
theorem dX11_was_34 : decode cX11_was 34 = .ok (.invokevirtual 210, 3) := by decide +kernel
theorem dX11_was_37 : decode cX11_was 37 = .ok (.ifCond .ne 10, 3) := by decide +kernel
theorem dX11_was_40 : decode cX11_was 40 = .ok (.aload_n 0, 1) := by decide +kernel
theorem dX11_was_41 : decode cX11_was 41 = .ok (.bipush (-6), 2) := by decide +kernel
theorem dX11_was_43 : decode cX11_was 43 = .ok (.invokevirtual 80, 3) := by decide +kernel
theorem dX11_was_46 : decode cX11_was 46 = .ok (.ireturn, 1) := by decide +kernel
theorem dX11_was_47 : decode cX11_was 47 = .ok (.aload_n 0, 1) := by decide +kernel
theorem dX11_was_48 : decode cX11_was 48 = .ok (.iconst 2, 1) := by decide +kernel
theorem dX11_was_49 : decode cX11_was 49 = .ok (.iload_n 1, 1) := by decide +kernel
theorem dX11_was_50 : decode cX11_was 50 = .ok (.iload_n 3, 1) := by decide +kernel
theorem dX11_was_51 : decode cX11_was 51 = .ok (.iload 4, 2) := by decide +kernel
theorem dX11_was_53 : decode cX11_was 53 = .ok (.iload_n 2, 1) := by decide +kernel
theorem dX11_was_54 : decode cX11_was 54 = .ok (.iload 5, 2) := by decide +kernel
theorem dX11_was_56 : decode cX11_was 56 = .ok (.invokevirtual 200, 3) := by decide +kernel
theorem dX11_was_59 : decode cX11_was 59 = .ok (.ireturn, 1) := by decide +kernel
theorem dX11_sheet_0 : decode cX11_sheet 0 = .ok (.iload 4, 2) := by decide +kernel
theorem dX11_sheet_2 : decode cX11_sheet 2 = .ok (.invokestatic 191, 3) := by decide +kernel
theorem dX11_sheet_5 : decode cX11_sheet 5 = .ok (.ifCond .eq 11, 3) := by decide +kernel
theorem dX11_sheet_8 : decode cX11_sheet 8 = .ok (.aload_n 0, 1) := by decide +kernel
theorem dX11_sheet_9 : decode cX11_sheet 9 = .ok (.iload_n 1, 1) := by decide +kernel
theorem dX11_sheet_10 : decode cX11_sheet 10 = .ok (.invokevirtual 88, 3) := by decide +kernel
theorem dX11_sheet_13 : decode cX11_sheet 13 = .ok (.goto 4, 3) := by decide +kernel
theorem dX11_sheet_16 : decode cX11_sheet 16 = .ok (.iconst (-1), 1) := by decide +kernel
theorem dX11_sheet_17 : decode cX11_sheet 17 = .ok (.istore 5, 2) := by decide +kernel
theorem dX11_sheet_19 : decode cX11_sheet 19 = .ok (.iload 5, 2) := by decide +kernel
theorem dX11_sheet_21 : decode cX11_sheet 21 = .ok (.ifCond .eq 10, 3) := by decide +kernel
theorem dX11_sheet_24 : decode cX11_sheet 24 = .ok (.aload_n 0, 1) := by decide +kernel
theorem dX11_sheet_25 : decode cX11_sheet 25 = .ok (.iload 5, 2) := by decide +kernel
theorem dX11_sheet_27 : decode cX11_sheet 27 = .ok (.invokevirtual 80, 3) := by decide +kernel
theorem dX11_sheet_30 : decode cX11_sheet 30 = .ok (.ireturn, 1) := by decide +kernel
theorem dX11_sheet_31 : decode cX11_sheet 31 = .ok (.iload_n 3, 1) := by decide +kernel
theorem dX11_sheet_32 : decode cX11_sheet 32 = .ok (.ifCond .ge 10, 3) := by decide +kernel
theorem dX11_sheet_35 : decode cX11_sheet 35 = .ok (.aload_n 0, 1) := by decide +kernel
theorem dX11_sheet_36 : decode cX11_sheet 36 = .ok (.bipush (-4), 2) := by decide +kernel
theorem dX11_sheet_38 : decode cX11_sheet 38 = .ok (.invokevirtual 80, 3) := by decide +kernel
theorem dX11_sheet_41 : decode cX11_sheet 41 = .ok (.ireturn, 1) := by decide +kernel
theorem dX11_sheet_42 : decode cX11_sheet 42 = .ok (.aload_n 0, 1) := by decide +kernel
theorem dX11_sheet_43 : decode cX11_sheet 43 = .ok (.getfield 11, 3) := by decide +kernel
theorem dX11_sheet_46 : decode cX11_sheet 46 = .ok (.iload_n 1, 1) := by decide +kernel
theorem dX11_sheet_47 : decode cX11_sheet 47 = .ok (.aaload, 1) := by decide +kernel
theorem dX11_sheet_48 : decode cX11_sheet 48 = .ok (.iload_n 2, 1) := by decide +kernel
theorem dX11_sheet_49 : decode cX11_sheet 49 = .ok (.iload_n 3, 1) := by decide +kernel
theorem dX11_sheet_50 : decode cX11_sheet 50 = .ok (.invokevirtual 108, 3) := by decide +kernel
theorem dX11_sheet_53 : decode cX11_sheet 53 = .ok (.ifCond .ne 10, 3) := by decide +kernel
theorem dX11_sheet_56 : decode cX11_sheet 56 = .ok (.aload_n 0, 1) := by decide +kernel
theorem dX11_sheet_57 : decode cX11_sheet 57 = .ok (.bipush (-5), 2) := by decide +kernel
theorem dX11_sheet_59 : decode cX11_sheet 59 = .ok (.invokevirtual 80, 3) := by decide +kernel
theorem dX11_sheet_62 : decode cX11_sheet 62 = .ok (.ireturn, 1) := by decide +kernel
theorem dX11_sheet_63 : decode cX11_sheet 63 = .ok (.iload_n 3, 1) := by decide +kernel
theorem dX11_sheet_64 : decode cX11_sheet 64 = .ok (.iconst 5, 1) := by decide +kernel
theorem dX11_sheet_65 : decode cX11_sheet 65 = .ok (.irem, 1) := by decide +kernel
theorem dX11_sheet_66 : decode cX11_sheet 66 = .ok (.ifCond .eq 10, 3) := by decide +kernel
theorem dX11_sheet_69 : decode cX11_sheet 69 = .ok (.aload_n 0, 1) := by decide +kernel
theorem dX11_sheet_70 : decode cX11_sheet 70 = .ok (.bipush (-6), 2) := by decide +kernel
theorem dX11_sheet_72 : decode cX11_sheet 72 = .ok (.invokevirtual 80, 3) := by decide +kernel
theorem dX11_sheet_75 : decode cX11_sheet 75 = .ok (.ireturn, 1) := by decide +kernel
theorem dX11_sheet_76 : decode cX11_sheet 76 = .ok (.iconst 0, 1) := by decide +kernel
theorem dX11_sheet_77 : decode cX11_sheet 77 = .ok (.istore 6, 2) := by decide +kernel
theorem dX11_sheet_79 : decode cX11_sheet 79 = .ok (.iload_n 2, 1) := by decide +kernel
theorem dX11_sheet_80 : decode cX11_sheet 80 = .ok (.istore 7, 2) := by decide +kernel
theorem dX11_sheet_82 : decode cX11_sheet 82 = .ok (.iload 7, 2) := by decide +kernel
theorem dX11_sheet_84 : decode cX11_sheet 84 = .ok (.iload_n 2, 1) := by decide +kernel
theorem dX11_sheet_85 : decode cX11_sheet 85 = .ok (.iload_n 3, 1) := by decide +kernel
theorem dX11_sheet_86 : decode cX11_sheet 86 = .ok (.iadd, 1) := by decide +kernel
theorem dX11_sheet_87 : decode cX11_sheet 87 = .ok (.if_icmp .ge 32, 3) := by decide +kernel
theorem dX11_sheet_90 : decode cX11_sheet 90 = .ok (.aload_n 0, 1) := by decide +kernel
theorem dX11_sheet_91 : decode cX11_sheet 91 = .ok (.aload_n 0, 1) := by decide +kernel
theorem dX11_sheet_92 : decode cX11_sheet 92 = .ok (.getfield 11, 3) := by decide +kernel
theorem dX11_sheet_95 : decode cX11_sheet 95 = .ok (.iload_n 1, 1) := by decide +kernel
theorem dX11_sheet_96 : decode cX11_sheet 96 = .ok (.aaload, 1) := by decide +kernel
theorem dX11_sheet_97 : decode cX11_sheet 97 = .ok (.iload 7, 2) := by decide +kernel
theorem dX11_sheet_99 : decode cX11_sheet 99 = .ok (.iload 4, 2) := by decide +kernel
theorem dX11_sheet_101 : decode cX11_sheet 101 = .ok (.invokevirtual 213, 3) := by decide +kernel
theorem dX11_sheet_104 : decode cX11_sheet 104 = .ok (.ifCond .ne 6, 3) := by decide +kernel
theorem dX11_sheet_107 : decode cX11_sheet 107 = .ok (.goto 12, 3) := by decide +kernel
theorem dX11_sheet_110 : decode cX11_sheet 110 = .ok (.iinc 6 1, 3) := by decide +kernel
theorem dX11_sheet_113 : decode cX11_sheet 113 = .ok (.iinc 7 5, 3) := by decide +kernel
theorem dX11_sheet_116 : decode cX11_sheet 116 = .ok (.goto (-34), 3) := by decide +kernel
theorem dX11_sheet_119 : decode cX11_sheet 119 = .ok (.iload 6, 2) := by decide +kernel
theorem dX11_sheet_121 : decode cX11_sheet 121 = .ok (.ireturn, 1) := by decide +kernel
theorem dX11_by_0 : decode cX11_by 0 = .ok (.aload_n 0, 1) := by decide +kernel
theorem dX11_by_1 : decode cX11_by 1 = .ok (.getfield 18, 3) := by decide +kernel
theorem dX11_by_4 : decode cX11_by 4 = .ok (.iload_n 1, 1) := by decide +kernel
theorem dX11_by_5 : decode cX11_by 5 = .ok (.invokevirtual 126, 3) := by decide +kernel
theorem dX11_by_8 : decode cX11_by 8 = .ok (.ifnonnull 9, 3) := by decide +kernel
theorem dX11_by_11 : decode cX11_by 11 = .ok (.aload_n 0, 1) := by decide +kernel
theorem dX11_by_12 : decode cX11_by 12 = .ok (.iconst (-1), 1) := by decide +kernel
theorem dX11_by_13 : decode cX11_by 13 = .ok (.invokevirtual 80, 3) := by decide +kernel
theorem dX11_by_16 : decode cX11_by 16 = .ok (.ireturn, 1) := by decide +kernel
theorem dX11_by_17 : decode cX11_by 17 = .ok (.aload_n 0, 1) := by decide +kernel
theorem dX11_by_18 : decode cX11_by 18 = .ok (.getfield 18, 3) := by decide +kernel
theorem dX11_by_21 : decode cX11_by 21 = .ok (.iload_n 1, 1) := by decide +kernel
theorem dX11_by_22 : decode cX11_by 22 = .ok (.invokevirtual 217, 3) := by decide +kernel
theorem dX11_by_25 : decode cX11_by 25 = .ok (.iload_n 2, 1) := by decide +kernel
theorem dX11_by_26 : decode cX11_by 26 = .ok (.if_icmp .ne 5, 3) := by decide +kernel
theorem dX11_by_29 : decode cX11_by 29 = .ok (.iconst 0, 1) := by decide +kernel
theorem dX11_by_30 : decode cX11_by 30 = .ok (.ireturn, 1) := by decide +kernel
theorem dX11_by_31 : decode cX11_by 31 = .ok (.aload_n 0, 1) := by decide +kernel
theorem dX11_by_32 : decode cX11_by 32 = .ok (.getfield 18, 3) := by decide +kernel
theorem dX11_by_35 : decode cX11_by 35 = .ok (.dup, 1) := by decide +kernel
theorem dX11_by_36 : decode cX11_by 36 = .ok (.getfield 220, 3) := by decide +kernel
theorem dX11_by_39 : decode cX11_by 39 = .ok (.iconst 1, 1) := by decide +kernel
theorem dX11_by_40 : decode cX11_by 40 = .ok (.iload_n 1, 1) := by decide +kernel
theorem dX11_by_41 : decode cX11_by 41 = .ok (.ishl, 1) := by decide +kernel
theorem dX11_by_42 : decode cX11_by 42 = .ok (.ixor, 1) := by decide +kernel
theorem dX11_by_43 : decode cX11_by 43 = .ok (.putfield 220, 3) := by decide +kernel
theorem dX11_by_46 : decode cX11_by 46 = .ok (.aload_n 0, 1) := by decide +kernel
theorem dX11_by_47 : decode cX11_by 47 = .ok (.iconst 1, 1) := by decide +kernel
theorem dX11_by_48 : decode cX11_by 48 = .ok (.putfield 68, 3) := by decide +kernel
theorem dX11_by_51 : decode cX11_by 51 = .ok (.iconst 1, 1) := by decide +kernel
theorem dX11_by_52 : decode cX11_by 52 = .ok (.ireturn, 1) := by decide +kernel
theorem dX11_pieceOf_0 : decode cX11_pieceOf 0 = .ok (.aload_n 0, 1) := by decide +kernel
theorem dX11_pieceOf_1 : decode cX11_pieceOf 1 = .ok (.getfield 18, 3) := by decide +kernel
theorem dX11_pieceOf_4 : decode cX11_pieceOf 4 = .ok (.iload_n 1, 1) := by decide +kernel
theorem dX11_pieceOf_5 : decode cX11_pieceOf 5 = .ok (.invokevirtual 126, 3) := by decide +kernel
theorem dX11_pieceOf_8 : decode cX11_pieceOf 8 = .ok (.astore_n 3, 1) := by decide +kernel
theorem dX11_pieceOf_9 : decode cX11_pieceOf 9 = .ok (.aload_n 3, 1) := by decide +kernel
theorem dX11_pieceOf_10 : decode cX11_pieceOf 10 = .ok (.ifnonnull 10, 3) := by decide +kernel
theorem dX11_pieceOf_13 : decode cX11_pieceOf 13 = .ok (.aload_n 0, 1) := by decide +kernel
theorem dX11_pieceOf_14 : decode cX11_pieceOf 14 = .ok (.bipush (-5), 2) := by decide +kernel
theorem dX11_pieceOf_16 : decode cX11_pieceOf 16 = .ok (.invokevirtual 80, 3) := by decide +kernel
theorem dX11_pieceOf_19 : decode cX11_pieceOf 19 = .ok (.ireturn, 1) := by decide +kernel
theorem dX11_pieceOf_20 : decode cX11_pieceOf 20 = .ok (.iload_n 2, 1) := by decide +kernel
theorem dX11_pieceOf_21 : decode cX11_pieceOf 21 = .ok (.tableswitch 90 0 6 #[43, 48, 53, 58, 63, 68, 73], 43) := by decide +kernel
theorem dX11_pieceOf_64 : decode cX11_pieceOf 64 = .ok (.aload_n 3, 1) := by decide +kernel
theorem dX11_pieceOf_65 : decode cX11_pieceOf 65 = .ok (.getfield 223, 3) := by decide +kernel
theorem dX11_pieceOf_68 : decode cX11_pieceOf 68 = .ok (.ireturn, 1) := by decide +kernel
theorem dX11_pieceOf_69 : decode cX11_pieceOf 69 = .ok (.aload_n 3, 1) := by decide +kernel
theorem dX11_pieceOf_70 : decode cX11_pieceOf 70 = .ok (.getfield 226, 3) := by decide +kernel
theorem dX11_pieceOf_73 : decode cX11_pieceOf 73 = .ok (.ireturn, 1) := by decide +kernel
theorem dX11_pieceOf_74 : decode cX11_pieceOf 74 = .ok (.aload_n 3, 1) := by decide +kernel
theorem dX11_pieceOf_75 : decode cX11_pieceOf 75 = .ok (.getfield 229, 3) := by decide +kernel
theorem dX11_pieceOf_78 : decode cX11_pieceOf 78 = .ok (.ireturn, 1) := by decide +kernel
theorem dX11_pieceOf_79 : decode cX11_pieceOf 79 = .ok (.aload_n 3, 1) := by decide +kernel
theorem dX11_pieceOf_80 : decode cX11_pieceOf 80 = .ok (.getfield 147, 3) := by decide +kernel
theorem dX11_pieceOf_83 : decode cX11_pieceOf 83 = .ok (.ireturn, 1) := by decide +kernel
theorem dX11_pieceOf_84 : decode cX11_pieceOf 84 = .ok (.aload_n 3, 1) := by decide +kernel
theorem dX11_pieceOf_85 : decode cX11_pieceOf 85 = .ok (.getfield 144, 3) := by decide +kernel
theorem dX11_pieceOf_88 : decode cX11_pieceOf 88 = .ok (.ireturn, 1) := by decide +kernel
theorem dX11_pieceOf_89 : decode cX11_pieceOf 89 = .ok (.aload_n 3, 1) := by decide +kernel
theorem dX11_pieceOf_90 : decode cX11_pieceOf 90 = .ok (.getfield 141, 3) := by decide +kernel
theorem dX11_pieceOf_93 : decode cX11_pieceOf 93 = .ok (.ireturn, 1) := by decide +kernel
theorem dX11_pieceOf_94 : decode cX11_pieceOf 94 = .ok (.aload_n 0, 1) := by decide +kernel
theorem dX11_pieceOf_95 : decode cX11_pieceOf 95 = .ok (.getfield 18, 3) := by decide +kernel
theorem dX11_pieceOf_98 : decode cX11_pieceOf 98 = .ok (.iload_n 1, 1) := by decide +kernel
theorem dX11_pieceOf_99 : decode cX11_pieceOf 99 = .ok (.invokevirtual 217, 3) := by decide +kernel
theorem dX11_pieceOf_102 : decode cX11_pieceOf 102 = .ok (.ifCond .eq 7, 3) := by decide +kernel
theorem dX11_pieceOf_105 : decode cX11_pieceOf 105 = .ok (.iconst 1, 1) := by decide +kernel
theorem dX11_pieceOf_106 : decode cX11_pieceOf 106 = .ok (.goto 4, 3) := by decide +kernel
theorem dX11_pieceOf_109 : decode cX11_pieceOf 109 = .ok (.iconst 0, 1) := by decide +kernel
theorem dX11_pieceOf_110 : decode cX11_pieceOf 110 = .ok (.ireturn, 1) := by decide +kernel
theorem dX11_pieceOf_111 : decode cX11_pieceOf 111 = .ok (.aload_n 0, 1) := by decide +kernel
theorem dX11_pieceOf_112 : decode cX11_pieceOf 112 = .ok (.bipush (-5), 2) := by decide +kernel
theorem dX11_pieceOf_114 : decode cX11_pieceOf 114 = .ok (.invokevirtual 80, 3) := by decide +kernel
theorem dX11_pieceOf_117 : decode cX11_pieceOf 117 = .ok (.ireturn, 1) := by decide +kernel
theorem dX11_least_0 : decode cX11_least 0 = .ok (.aload_n 0, 1) := by decide +kernel
theorem dX11_least_1 : decode cX11_least 1 = .ok (.invokevirtual 232, 3) := by decide +kernel
theorem dX11_least_4 : decode cX11_least 4 = .ok (.getfield 236, 3) := by decide +kernel
theorem dX11_least_7 : decode cX11_least 7 = .ok (.ireturn, 1) := by decide +kernel
theorem dX11_courses_0 : decode cX11_courses 0 = .ok (.aload_n 0, 1) := by decide +kernel
theorem dX11_courses_1 : decode cX11_courses 1 = .ok (.invokevirtual 232, 3) := by decide +kernel
theorem dX11_courses_4 : decode cX11_courses 4 = .ok (.getfield 239, 3) := by decide +kernel
theorem dX11_courses_7 : decode cX11_courses 7 = .ok (.lreturn, 1) := by decide +kernel
theorem dX11_is_0 : decode cX11_is 0 = .ok (.aload_n 0, 1) := by decide +kernel
theorem dX11_is_1 : decode cX11_is 1 = .ok (.iload_n 1, 1) := by decide +kernel
theorem dX11_is_2 : decode cX11_is 2 = .ok (.invokevirtual 207, 3) := by decide +kernel
theorem dX11_is_5 : decode cX11_is 5 = .ok (.ifCond .eq 22, 3) := by decide +kernel
theorem dX11_is_8 : decode cX11_is 8 = .ok (.iload_n 2, 1) := by decide +kernel
theorem dX11_is_9 : decode cX11_is 9 = .ok (.invokestatic 197, 3) := by decide +kernel
theorem dX11_is_12 : decode cX11_is 12 = .ok (.ifCond .eq 15, 3) := by decide +kernel
theorem dX11_is_15 : decode cX11_is 15 = .ok (.aload_n 0, 1) := by decide +kernel
theorem dX11_is_16 : decode cX11_is 16 = .ok (.invokevirtual 232, 3) := by decide +kernel
theorem dX11_is_19 : decode cX11_is 19 = .ok (.iload_n 1, 1) := by decide +kernel
theorem dX11_is_20 : decode cX11_is 20 = .ok (.iload_n 2, 1) := by decide +kernel
theorem dX11_is_21 : decode cX11_is 21 = .ok (.invokevirtual 243, 3) := by decide +kernel
theorem dX11_is_24 : decode cX11_is 24 = .ok (.goto 4, 3) := by decide +kernel
theorem dX11_is_27 : decode cX11_is 27 = .ok (.iconst (-1), 1) := by decide +kernel
theorem dX11_is_28 : decode cX11_is 28 = .ok (.ireturn, 1) := by decide +kernel
theorem dX11_value_0 : decode cX11_value 0 = .ok (.aload_n 0, 1) := by decide +kernel
theorem dX11_value_1 : decode cX11_value 1 = .ok (.iload_n 1, 1) := by decide +kernel
theorem dX11_value_2 : decode cX11_value 2 = .ok (.invokevirtual 247, 3) := by decide +kernel
theorem dX11_value_5 : decode cX11_value 5 = .ok (.ifCond .eq 10, 3) := by decide +kernel
theorem dX11_value_8 : decode cX11_value 8 = .ok (.iload_n 2, 1) := by decide +kernel
theorem dX11_value_9 : decode cX11_value 9 = .ok (.invokestatic 197, 3) := by decide +kernel
theorem dX11_value_12 : decode cX11_value 12 = .ok (.ifCond .ne 5, 3) := by decide +kernel
theorem dX11_value_15 : decode cX11_value 15 = .ok (.iconst (-1), 1) := by decide +kernel
theorem dX11_value_16 : decode cX11_value 16 = .ok (.ireturn, 1) := by decide +kernel
theorem dX11_value_17 : decode cX11_value 17 = .ok (.aload_n 0, 1) := by decide +kernel
theorem dX11_value_18 : decode cX11_value 18 = .ok (.invokevirtual 232, 3) := by decide +kernel
theorem dX11_value_21 : decode cX11_value 21 = .ok (.astore_n 3, 1) := by decide +kernel
theorem dX11_value_22 : decode cX11_value 22 = .ok (.aload_n 3, 1) := by decide +kernel
theorem dX11_value_23 : decode cX11_value 23 = .ok (.getfield 236, 3) := by decide +kernel
theorem dX11_value_26 : decode cX11_value 26 = .ok (.iconst (-1), 1) := by decide +kernel
theorem dX11_value_27 : decode cX11_value 27 = .ok (.if_icmp .ne 7, 3) := by decide +kernel
theorem dX11_value_30 : decode cX11_value 30 = .ok (.iconst (-1), 1) := by decide +kernel
theorem dX11_value_31 : decode cX11_value 31 = .ok (.goto 14, 3) := by decide +kernel
theorem dX11_value_34 : decode cX11_value 34 = .ok (.aload_n 3, 1) := by decide +kernel
theorem dX11_value_35 : decode cX11_value 35 = .ok (.getfield 250, 3) := by decide +kernel
theorem dX11_value_38 : decode cX11_value 38 = .ok (.iload_n 2, 1) := by decide +kernel
theorem dX11_value_39 : decode cX11_value 39 = .ok (.iaload, 1) := by decide +kernel
theorem dX11_value_40 : decode cX11_value 40 = .ok (.bipush 10, 2) := by decide +kernel
theorem dX11_value_42 : decode cX11_value 42 = .ok (.invokestatic 253, 3) := by decide +kernel
theorem dX11_value_45 : decode cX11_value 45 = .ok (.ireturn, 1) := by decide +kernel
theorem dX11_why_0 : decode cX11_why 0 = .ok (.aload_n 0, 1) := by decide +kernel
theorem dX11_why_1 : decode cX11_why 1 = .ok (.iload_n 1, 1) := by decide +kernel
theorem dX11_why_2 : decode cX11_why 2 = .ok (.invokevirtual 207, 3) := by decide +kernel
theorem dX11_why_5 : decode cX11_why 5 = .ok (.ifCond .eq 10, 3) := by decide +kernel
theorem dX11_why_8 : decode cX11_why 8 = .ok (.iload_n 2, 1) := by decide +kernel
theorem dX11_why_9 : decode cX11_why 9 = .ok (.invokestatic 197, 3) := by decide +kernel
theorem dX11_why_12 : decode cX11_why 12 = .ok (.ifCond .ne 5, 3) := by decide +kernel
theorem dX11_why_15 : decode cX11_why 15 = .ok (.iconst (-1), 1) := by decide +kernel
theorem dX11_why_16 : decode cX11_why 16 = .ok (.ireturn, 1) := by decide +kernel
theorem dX11_why_17 : decode cX11_why 17 = .ok (.aload_n 0, 1) := by decide +kernel
theorem dX11_why_18 : decode cX11_why 18 = .ok (.invokevirtual 232, 3) := by decide +kernel
theorem dX11_why_21 : decode cX11_why 21 = .ok (.iload_n 1, 1) := by decide +kernel
theorem dX11_why_22 : decode cX11_why 22 = .ok (.iload_n 2, 1) := by decide +kernel
theorem dX11_why_23 : decode cX11_why 23 = .ok (.invokevirtual 243, 3) := by decide +kernel
theorem dX11_why_26 : decode cX11_why 26 = .ok (.istore_n 3, 1) := by decide +kernel
theorem dX11_why_27 : decode cX11_why 27 = .ok (.iload_n 3, 1) := by decide +kernel
theorem dX11_why_28 : decode cX11_why 28 = .ok (.ifCond .eq 10, 3) := by decide +kernel
theorem dX11_why_31 : decode cX11_why 31 = .ok (.iload_n 3, 1) := by decide +kernel
theorem dX11_why_32 : decode cX11_why 32 = .ok (.iconst 1, 1) := by decide +kernel
theorem dX11_why_33 : decode cX11_why 33 = .ok (.if_icmp .eq 5, 3) := by decide +kernel
theorem dX11_why_36 : decode cX11_why 36 = .ok (.iconst (-1), 1) := by decide +kernel
theorem dX11_why_37 : decode cX11_why 37 = .ok (.ireturn, 1) := by decide +kernel
theorem dX11_why_38 : decode cX11_why 38 = .ok (.aload_n 0, 1) := by decide +kernel
theorem dX11_why_39 : decode cX11_why 39 = .ok (.getfield 18, 3) := by decide +kernel
theorem dX11_why_42 : decode cX11_why 42 = .ok (.invokevirtual 256, 3) := by decide +kernel
theorem dX11_why_45 : decode cX11_why 45 = .ok (.istore 4, 2) := by decide +kernel
theorem dX11_why_47 : decode cX11_why 47 = .ok (.iconst 0, 1) := by decide +kernel
theorem dX11_why_48 : decode cX11_why 48 = .ok (.istore 5, 2) := by decide +kernel
theorem dX11_why_50 : decode cX11_why 50 = .ok (.iload 5, 2) := by decide +kernel
theorem dX11_why_52 : decode cX11_why 52 = .ok (.aload_n 0, 1) := by decide +kernel
theorem dX11_why_53 : decode cX11_why 53 = .ok (.getfield 18, 3) := by decide +kernel
theorem dX11_why_56 : decode cX11_why 56 = .ok (.getfield 260, 3) := by decide +kernel
theorem dX11_why_59 : decode cX11_why 59 = .ok (.if_icmp .ge 43, 3) := by decide +kernel
theorem dX11_why_62 : decode cX11_why 62 = .ok (.iload 4, 2) := by decide +kernel
theorem dX11_why_64 : decode cX11_why 64 = .ok (.iconst 1, 1) := by decide +kernel
theorem dX11_why_65 : decode cX11_why 65 = .ok (.iload 5, 2) := by decide +kernel
theorem dX11_why_67 : decode cX11_why 67 = .ok (.ishl, 1) := by decide +kernel
theorem dX11_why_68 : decode cX11_why 68 = .ok (.iconst (-1), 1) := by decide +kernel
theorem dX11_why_69 : decode cX11_why 69 = .ok (.ixor, 1) := by decide +kernel
theorem dX11_why_70 : decode cX11_why 70 = .ok (.iand, 1) := by decide +kernel
theorem dX11_why_71 : decode cX11_why 71 = .ok (.istore 6, 2) := by decide +kernel
theorem dX11_why_73 : decode cX11_why 73 = .ok (.iload 6, 2) := by decide +kernel
theorem dX11_why_75 : decode cX11_why 75 = .ok (.iload 4, 2) := by decide +kernel
theorem dX11_why_77 : decode cX11_why 77 = .ok (.if_icmp .eq 19, 3) := by decide +kernel
theorem dX11_why_80 : decode cX11_why 80 = .ok (.aload_n 0, 1) := by decide +kernel
theorem dX11_why_81 : decode cX11_why 81 = .ok (.iload 6, 2) := by decide +kernel
theorem dX11_why_83 : decode cX11_why 83 = .ok (.iload_n 1, 1) := by decide +kernel
theorem dX11_why_84 : decode cX11_why 84 = .ok (.iload_n 2, 1) := by decide +kernel
theorem dX11_why_85 : decode cX11_why 85 = .ok (.invokevirtual 263, 3) := by decide +kernel
theorem dX11_why_88 : decode cX11_why 88 = .ok (.iload_n 3, 1) := by decide +kernel
theorem dX11_why_89 : decode cX11_why 89 = .ok (.if_icmp .ne 7, 3) := by decide +kernel
theorem dX11_why_92 : decode cX11_why 92 = .ok (.iload 6, 2) := by decide +kernel
theorem dX11_why_94 : decode cX11_why 94 = .ok (.istore 4, 2) := by decide +kernel
theorem dX11_why_96 : decode cX11_why 96 = .ok (.iinc 5 1, 3) := by decide +kernel
theorem dX11_why_99 : decode cX11_why 99 = .ok (.goto (-49), 3) := by decide +kernel
theorem dX11_why_102 : decode cX11_why 102 = .ok (.iload 4, 2) := by decide +kernel
theorem dX11_why_104 : decode cX11_why 104 = .ok (.ireturn, 1) := by decide +kernel
theorem dX11_quarrel_0 : decode cX11_quarrel 0 = .ok (.aload_n 0, 1) := by decide +kernel
theorem dX11_quarrel_1 : decode cX11_quarrel 1 = .ok (.invokevirtual 232, 3) := by decide +kernel
theorem dX11_quarrel_4 : decode cX11_quarrel 4 = .ok (.getfield 236, 3) := by decide +kernel
theorem dX11_quarrel_7 : decode cX11_quarrel 7 = .ok (.iconst (-1), 1) := by decide +kernel
theorem dX11_quarrel_8 : decode cX11_quarrel 8 = .ok (.if_icmp .eq 5, 3) := by decide +kernel
theorem dX11_quarrel_11 : decode cX11_quarrel 11 = .ok (.iconst 0, 1) := by decide +kernel
theorem dX11_quarrel_12 : decode cX11_quarrel 12 = .ok (.ireturn, 1) := by decide +kernel
theorem dX11_quarrel_13 : decode cX11_quarrel 13 = .ok (.aload_n 0, 1) := by decide +kernel
theorem dX11_quarrel_14 : decode cX11_quarrel 14 = .ok (.getfield 18, 3) := by decide +kernel
theorem dX11_quarrel_17 : decode cX11_quarrel 17 = .ok (.invokevirtual 256, 3) := by decide +kernel
theorem dX11_quarrel_20 : decode cX11_quarrel 20 = .ok (.istore_n 1, 1) := by decide +kernel
theorem dX11_quarrel_21 : decode cX11_quarrel 21 = .ok (.iconst 0, 1) := by decide +kernel
theorem dX11_quarrel_22 : decode cX11_quarrel 22 = .ok (.istore_n 2, 1) := by decide +kernel
theorem dX11_quarrel_23 : decode cX11_quarrel 23 = .ok (.iload_n 2, 1) := by decide +kernel
theorem dX11_quarrel_24 : decode cX11_quarrel 24 = .ok (.aload_n 0, 1) := by decide +kernel
theorem dX11_quarrel_25 : decode cX11_quarrel 25 = .ok (.getfield 18, 3) := by decide +kernel
theorem dX11_quarrel_28 : decode cX11_quarrel 28 = .ok (.getfield 260, 3) := by decide +kernel
theorem dX11_quarrel_31 : decode cX11_quarrel 31 = .ok (.if_icmp .ge 37, 3) := by decide +kernel
theorem dX11_quarrel_34 : decode cX11_quarrel 34 = .ok (.iload_n 1, 1) := by decide +kernel
theorem dX11_quarrel_35 : decode cX11_quarrel 35 = .ok (.iconst 1, 1) := by decide +kernel
theorem dX11_quarrel_36 : decode cX11_quarrel 36 = .ok (.iload_n 2, 1) := by decide +kernel
theorem dX11_quarrel_37 : decode cX11_quarrel 37 = .ok (.ishl, 1) := by decide +kernel
theorem dX11_quarrel_38 : decode cX11_quarrel 38 = .ok (.iconst (-1), 1) := by decide +kernel
theorem dX11_quarrel_39 : decode cX11_quarrel 39 = .ok (.ixor, 1) := by decide +kernel
theorem dX11_quarrel_40 : decode cX11_quarrel 40 = .ok (.iand, 1) := by decide +kernel
theorem dX11_quarrel_41 : decode cX11_quarrel 41 = .ok (.istore_n 3, 1) := by decide +kernel
theorem dX11_quarrel_42 : decode cX11_quarrel 42 = .ok (.iload_n 3, 1) := by decide +kernel
theorem dX11_quarrel_43 : decode cX11_quarrel 43 = .ok (.iload_n 1, 1) := by decide +kernel
theorem dX11_quarrel_44 : decode cX11_quarrel 44 = .ok (.if_icmp .eq 18, 3) := by decide +kernel
theorem dX11_quarrel_47 : decode cX11_quarrel 47 = .ok (.aload_n 0, 1) := by decide +kernel
theorem dX11_quarrel_48 : decode cX11_quarrel 48 = .ok (.getfield 50, 3) := by decide +kernel
theorem dX11_quarrel_51 : decode cX11_quarrel 51 = .ok (.iload_n 3, 1) := by decide +kernel
theorem dX11_quarrel_52 : decode cX11_quarrel 52 = .ok (.iconst (-1), 1) := by decide +kernel
theorem dX11_quarrel_53 : decode cX11_quarrel 53 = .ok (.iconst (-1), 1) := by decide +kernel
theorem dX11_quarrel_54 : decode cX11_quarrel 54 = .ok (.invokevirtual 267, 3) := by decide +kernel
theorem dX11_quarrel_57 : decode cX11_quarrel 57 = .ok (.ifCond .ne 5, 3) := by decide +kernel
theorem dX11_quarrel_60 : decode cX11_quarrel 60 = .ok (.iload_n 3, 1) := by decide +kernel
theorem dX11_quarrel_61 : decode cX11_quarrel 61 = .ok (.istore_n 1, 1) := by decide +kernel
theorem dX11_quarrel_62 : decode cX11_quarrel 62 = .ok (.iinc 2 1, 3) := by decide +kernel
theorem dX11_quarrel_65 : decode cX11_quarrel 65 = .ok (.goto (-42), 3) := by decide +kernel
theorem dX11_quarrel_68 : decode cX11_quarrel 68 = .ok (.iload_n 1, 1) := by decide +kernel
theorem dX11_quarrel_69 : decode cX11_quarrel 69 = .ok (.ireturn, 1) := by decide +kernel
theorem dX11_out_0 : decode cX11_out 0 = .ok (.aload_n 0, 1) := by decide +kernel
theorem dX11_out_1 : decode cX11_out 1 = .ok (.invokevirtual 232, 3) := by decide +kernel
theorem dX11_out_4 : decode cX11_out 4 = .ok (.getfield 236, 3) := by decide +kernel
theorem dX11_out_7 : decode cX11_out 7 = .ok (.iconst (-1), 1) := by decide +kernel
theorem dX11_out_8 : decode cX11_out 8 = .ok (.if_icmp .eq 5, 3) := by decide +kernel
theorem dX11_out_11 : decode cX11_out 11 = .ok (.iconst (-1), 1) := by decide +kernel
theorem dX11_out_12 : decode cX11_out 12 = .ok (.ireturn, 1) := by decide +kernel
theorem dX11_out_13 : decode cX11_out 13 = .ok (.aload_n 0, 1) := by decide +kernel
theorem dX11_out_14 : decode cX11_out 14 = .ok (.getfield 18, 3) := by decide +kernel
theorem dX11_out_17 : decode cX11_out 17 = .ok (.invokevirtual 256, 3) := by decide +kernel
theorem dX11_out_20 : decode cX11_out 20 = .ok (.istore_n 1, 1) := by decide +kernel
theorem dX11_out_21 : decode cX11_out 21 = .ok (.iconst (-1), 1) := by decide +kernel
theorem dX11_out_22 : decode cX11_out 22 = .ok (.istore_n 2, 1) := by decide +kernel
theorem dX11_out_23 : decode cX11_out 23 = .ok (.bipush 100, 2) := by decide +kernel
theorem dX11_out_25 : decode cX11_out 25 = .ok (.istore_n 3, 1) := by decide +kernel
theorem dX11_out_26 : decode cX11_out 26 = .ok (.iconst 0, 1) := by decide +kernel
theorem dX11_out_27 : decode cX11_out 27 = .ok (.istore 4, 2) := by decide +kernel
theorem dX11_out_29 : decode cX11_out 29 = .ok (.iload 4, 2) := by decide +kernel
theorem dX11_out_31 : decode cX11_out 31 = .ok (.aload_n 0, 1) := by decide +kernel
theorem dX11_out_32 : decode cX11_out 32 = .ok (.getfield 18, 3) := by decide +kernel
theorem dX11_out_35 : decode cX11_out 35 = .ok (.getfield 260, 3) := by decide +kernel
theorem dX11_out_38 : decode cX11_out 38 = .ok (.if_icmp .ge 62, 3) := by decide +kernel
theorem dX11_out_41 : decode cX11_out 41 = .ok (.aload_n 0, 1) := by decide +kernel
theorem dX11_out_42 : decode cX11_out 42 = .ok (.getfield 18, 3) := by decide +kernel
theorem dX11_out_45 : decode cX11_out 45 = .ok (.iload 4, 2) := by decide +kernel
theorem dX11_out_47 : decode cX11_out 47 = .ok (.invokevirtual 271, 3) := by decide +kernel
theorem dX11_out_50 : decode cX11_out 50 = .ok (.istore 5, 2) := by decide +kernel
theorem dX11_out_52 : decode cX11_out 52 = .ok (.iload_n 1, 1) := by decide +kernel
theorem dX11_out_53 : decode cX11_out 53 = .ok (.iconst 1, 1) := by decide +kernel
theorem dX11_out_54 : decode cX11_out 54 = .ok (.iload 4, 2) := by decide +kernel
theorem dX11_out_56 : decode cX11_out 56 = .ok (.ishl, 1) := by decide +kernel
theorem dX11_out_57 : decode cX11_out 57 = .ok (.iconst (-1), 1) := by decide +kernel
theorem dX11_out_58 : decode cX11_out 58 = .ok (.ixor, 1) := by decide +kernel
theorem dX11_out_59 : decode cX11_out 59 = .ok (.iand, 1) := by decide +kernel
theorem dX11_out_60 : decode cX11_out 60 = .ok (.istore 6, 2) := by decide +kernel
theorem dX11_out_62 : decode cX11_out 62 = .ok (.iload 6, 2) := by decide +kernel
theorem dX11_out_64 : decode cX11_out 64 = .ok (.iload_n 1, 1) := by decide +kernel
theorem dX11_out_65 : decode cX11_out 65 = .ok (.if_icmp .eq 29, 3) := by decide +kernel
theorem dX11_out_68 : decode cX11_out 68 = .ok (.iload 5, 2) := by decide +kernel
theorem dX11_out_70 : decode cX11_out 70 = .ok (.iload_n 3, 1) := by decide +kernel
theorem dX11_out_71 : decode cX11_out 71 = .ok (.if_icmp .ge 23, 3) := by decide +kernel
theorem dX11_out_74 : decode cX11_out 74 = .ok (.aload_n 0, 1) := by decide +kernel
theorem dX11_out_75 : decode cX11_out 75 = .ok (.getfield 50, 3) := by decide +kernel
theorem dX11_out_78 : decode cX11_out 78 = .ok (.iload 6, 2) := by decide +kernel
theorem dX11_out_80 : decode cX11_out 80 = .ok (.iconst (-1), 1) := by decide +kernel
theorem dX11_out_81 : decode cX11_out 81 = .ok (.iconst (-1), 1) := by decide +kernel
theorem dX11_out_82 : decode cX11_out 82 = .ok (.invokevirtual 267, 3) := by decide +kernel
theorem dX11_out_85 : decode cX11_out 85 = .ok (.ifCond .eq 9, 3) := by decide +kernel
theorem dX11_out_88 : decode cX11_out 88 = .ok (.iload 4, 2) := by decide +kernel
theorem dX11_out_90 : decode cX11_out 90 = .ok (.istore_n 2, 1) := by decide +kernel
theorem dX11_out_91 : decode cX11_out 91 = .ok (.iload 5, 2) := by decide +kernel
theorem dX11_out_93 : decode cX11_out 93 = .ok (.istore_n 3, 1) := by decide +kernel
theorem dX11_out_94 : decode cX11_out 94 = .ok (.iinc 4 1, 3) := by decide +kernel
theorem dX11_out_97 : decode cX11_out 97 = .ok (.goto (-68), 3) := by decide +kernel
theorem dX11_out_100 : decode cX11_out 100 = .ok (.iload_n 2, 1) := by decide +kernel
theorem dX11_out_101 : decode cX11_out 101 = .ok (.ireturn, 1) := by decide +kernel
theorem dX11_must_0 : decode cX11_must 0 = .ok (.aload_n 0, 1) := by decide +kernel
theorem dX11_must_1 : decode cX11_must 1 = .ok (.iload_n 1, 1) := by decide +kernel
theorem dX11_must_2 : decode cX11_must 2 = .ok (.invokevirtual 181, 3) := by decide +kernel
theorem dX11_must_5 : decode cX11_must 5 = .ok (.ifCond .eq 11, 3) := by decide +kernel
theorem dX11_must_8 : decode cX11_must 8 = .ok (.iload_n 2, 1) := by decide +kernel
theorem dX11_must_9 : decode cX11_must 9 = .ok (.iload_n 3, 1) := by decide +kernel
theorem dX11_must_10 : decode cX11_must 10 = .ok (.invokestatic 204, 3) := by decide +kernel
theorem dX11_must_13 : decode cX11_must 13 = .ok (.ifCond .ne 5, 3) := by decide +kernel
theorem dX11_must_16 : decode cX11_must 16 = .ok (.iconst (-1), 1) := by decide +kernel
theorem dX11_must_17 : decode cX11_must 17 = .ok (.ireturn, 1) := by decide +kernel
theorem dX11_must_18 : decode cX11_must 18 = .ok (.aload_n 0, 1) := by decide +kernel
theorem dX11_must_19 : decode cX11_must 19 = .ok (.invokevirtual 232, 3) := by decide +kernel
theorem dX11_must_22 : decode cX11_must 22 = .ok (.bipush 10, 2) := by decide +kernel
theorem dX11_must_24 : decode cX11_must 24 = .ok (.iload_n 1, 1) := by decide +kernel
theorem dX11_must_25 : decode cX11_must 25 = .ok (.iadd, 1) := by decide +kernel
theorem dX11_must_26 : decode cX11_must 26 = .ok (.iload_n 2, 1) := by decide +kernel
theorem dX11_must_27 : decode cX11_must 27 = .ok (.iload_n 3, 1) := by decide +kernel
theorem dX11_must_28 : decode cX11_must 28 = .ok (.invokevirtual 274, 3) := by decide +kernel
theorem dX11_must_31 : decode cX11_must 31 = .ok (.invokestatic 277, 3) := by decide +kernel
theorem dX11_must_34 : decode cX11_must 34 = .ok (.ireturn, 1) := by decide +kernel
theorem dX11_could_0 : decode cX11_could 0 = .ok (.iload_n 1, 1) := by decide +kernel
theorem dX11_could_1 : decode cX11_could 1 = .ok (.invokestatic 197, 3) := by decide +kernel
theorem dX11_could_4 : decode cX11_could 4 = .ok (.ifCond .ne 5, 3) := by decide +kernel
theorem dX11_could_7 : decode cX11_could 7 = .ok (.iconst (-1), 1) := by decide +kernel
theorem dX11_could_8 : decode cX11_could 8 = .ok (.ireturn, 1) := by decide +kernel
theorem dX11_could_9 : decode cX11_could 9 = .ok (.aload_n 0, 1) := by decide +kernel
theorem dX11_could_10 : decode cX11_could 10 = .ok (.invokevirtual 232, 3) := by decide +kernel
theorem dX11_could_13 : decode cX11_could 13 = .ok (.astore_n 2, 1) := by decide +kernel
theorem dX11_could_14 : decode cX11_could 14 = .ok (.aload_n 2, 1) := by decide +kernel
theorem dX11_could_15 : decode cX11_could 15 = .ok (.getfield 236, 3) := by decide +kernel
theorem dX11_could_18 : decode cX11_could 18 = .ok (.iconst (-1), 1) := by decide +kernel
theorem dX11_could_19 : decode cX11_could 19 = .ok (.if_icmp .ne 7, 3) := by decide +kernel
theorem dX11_could_22 : decode cX11_could 22 = .ok (.iconst (-1), 1) := by decide +kernel
theorem dX11_could_23 : decode cX11_could 23 = .ok (.goto 9, 3) := by decide +kernel
theorem dX11_could_26 : decode cX11_could 26 = .ok (.aload_n 2, 1) := by decide +kernel
theorem dX11_could_27 : decode cX11_could 27 = .ok (.getfield 280, 3) := by decide +kernel
theorem dX11_could_30 : decode cX11_could 30 = .ok (.iload_n 1, 1) := by decide +kernel
theorem dX11_could_31 : decode cX11_could 31 = .ok (.iaload, 1) := by decide +kernel
theorem dX11_could_32 : decode cX11_could 32 = .ok (.ireturn, 1) := by decide +kernel
theorem dX11_ever_0 : decode cX11_ever 0 = .ok (.aload_n 0, 1) := by decide +kernel
theorem dX11_ever_1 : decode cX11_ever 1 = .ok (.iload_n 1, 1) := by decide +kernel
theorem dX11_ever_2 : decode cX11_ever 2 = .ok (.invokevirtual 207, 3) := by decide +kernel
theorem dX11_ever_5 : decode cX11_ever 5 = .ok (.ifCond .eq 11, 3) := by decide +kernel
theorem dX11_ever_8 : decode cX11_ever 8 = .ok (.iload_n 2, 1) := by decide +kernel
theorem dX11_ever_9 : decode cX11_ever 9 = .ok (.iload_n 3, 1) := by decide +kernel
theorem dX11_ever_10 : decode cX11_ever 10 = .ok (.invokestatic 204, 3) := by decide +kernel
theorem dX11_ever_13 : decode cX11_ever 13 = .ok (.ifCond .ne 5, 3) := by decide +kernel
theorem dX11_ever_16 : decode cX11_ever 16 = .ok (.iconst (-1), 1) := by decide +kernel
theorem dX11_ever_17 : decode cX11_ever 17 = .ok (.ireturn, 1) := by decide +kernel
theorem dX11_ever_18 : decode cX11_ever 18 = .ok (.aload_n 0, 1) := by decide +kernel
theorem dX11_ever_19 : decode cX11_ever 19 = .ok (.invokevirtual 232, 3) := by decide +kernel
theorem dX11_ever_22 : decode cX11_ever 22 = .ok (.iload_n 1, 1) := by decide +kernel
theorem dX11_ever_23 : decode cX11_ever 23 = .ok (.iload_n 2, 1) := by decide +kernel
theorem dX11_ever_24 : decode cX11_ever 24 = .ok (.iload_n 3, 1) := by decide +kernel
theorem dX11_ever_25 : decode cX11_ever 25 = .ok (.invokevirtual 274, 3) := by decide +kernel
theorem dX11_ever_28 : decode cX11_ever 28 = .ok (.invokestatic 277, 3) := by decide +kernel
theorem dX11_ever_31 : decode cX11_ever 31 = .ok (.ireturn, 1) := by decide +kernel
theorem dX11_howLong_0 : decode cX11_howLong 0 = .ok (.aload_n 0, 1) := by decide +kernel
theorem dX11_howLong_1 : decode cX11_howLong 1 = .ok (.iload_n 1, 1) := by decide +kernel
theorem dX11_howLong_2 : decode cX11_howLong 2 = .ok (.invokevirtual 207, 3) := by decide +kernel
theorem dX11_howLong_5 : decode cX11_howLong 5 = .ok (.ifCond .eq 11, 3) := by decide +kernel
theorem dX11_howLong_8 : decode cX11_howLong 8 = .ok (.iload_n 2, 1) := by decide +kernel
theorem dX11_howLong_9 : decode cX11_howLong 9 = .ok (.iload_n 3, 1) := by decide +kernel
theorem dX11_howLong_10 : decode cX11_howLong 10 = .ok (.invokestatic 204, 3) := by decide +kernel
theorem dX11_howLong_13 : decode cX11_howLong 13 = .ok (.ifCond .ne 5, 3) := by decide +kernel
theorem dX11_howLong_16 : decode cX11_howLong 16 = .ok (.iconst (-1), 1) := by decide +kernel
theorem dX11_howLong_17 : decode cX11_howLong 17 = .ok (.ireturn, 1) := by decide +kernel
theorem dX11_howLong_18 : decode cX11_howLong 18 = .ok (.aload_n 0, 1) := by decide +kernel
theorem dX11_howLong_19 : decode cX11_howLong 19 = .ok (.invokevirtual 232, 3) := by decide +kernel
theorem dX11_howLong_22 : decode cX11_howLong 22 = .ok (.iload_n 1, 1) := by decide +kernel
theorem dX11_howLong_23 : decode cX11_howLong 23 = .ok (.iload_n 2, 1) := by decide +kernel
theorem dX11_howLong_24 : decode cX11_howLong 24 = .ok (.iload_n 3, 1) := by decide +kernel
theorem dX11_howLong_25 : decode cX11_howLong 25 = .ok (.invokevirtual 274, 3) := by decide +kernel
theorem dX11_howLong_28 : decode cX11_howLong 28 = .ok (.istore 4, 2) := by decide +kernel
theorem dX11_howLong_30 : decode cX11_howLong 30 = .ok (.iload 4, 2) := by decide +kernel
theorem dX11_howLong_32 : decode cX11_howLong 32 = .ok (.ifCond .ne 7, 3) := by decide +kernel
theorem dX11_howLong_35 : decode cX11_howLong 35 = .ok (.iconst (-1), 1) := by decide +kernel
theorem dX11_howLong_36 : decode cX11_howLong 36 = .ok (.goto 10, 3) := by decide +kernel
theorem dX11_howLong_39 : decode cX11_howLong 39 = .ok (.iload 4, 2) := by decide +kernel
theorem dX11_howLong_41 : decode cX11_howLong 41 = .ok (.bipush 100, 2) := by decide +kernel
theorem dX11_howLong_43 : decode cX11_howLong 43 = .ok (.invokestatic 253, 3) := by decide +kernel
theorem dX11_howLong_46 : decode cX11_howLong 46 = .ok (.ireturn, 1) := by decide +kernel
theorem dX11_since_0 : decode cX11_since 0 = .ok (.aload_n 0, 1) := by decide +kernel
theorem dX11_since_1 : decode cX11_since 1 = .ok (.iload_n 1, 1) := by decide +kernel
theorem dX11_since_2 : decode cX11_since 2 = .ok (.invokevirtual 207, 3) := by decide +kernel
theorem dX11_since_5 : decode cX11_since 5 = .ok (.ifCond .eq 23, 3) := by decide +kernel
theorem dX11_since_8 : decode cX11_since 8 = .ok (.iload_n 2, 1) := by decide +kernel
theorem dX11_since_9 : decode cX11_since 9 = .ok (.invokestatic 197, 3) := by decide +kernel
theorem dX11_since_12 : decode cX11_since 12 = .ok (.ifCond .eq 16, 3) := by decide +kernel
theorem dX11_since_15 : decode cX11_since 15 = .ok (.aload_n 0, 1) := by decide +kernel
theorem dX11_since_16 : decode cX11_since 16 = .ok (.invokevirtual 232, 3) := by decide +kernel
theorem dX11_since_19 : decode cX11_since 19 = .ok (.iload_n 1, 1) := by decide +kernel
theorem dX11_since_20 : decode cX11_since 20 = .ok (.iload_n 2, 1) := by decide +kernel
theorem dX11_since_21 : decode cX11_since 21 = .ok (.invokevirtual 243, 3) := by decide +kernel
theorem dX11_since_24 : decode cX11_since 24 = .ok (.iconst 1, 1) := by decide +kernel
theorem dX11_since_25 : decode cX11_since 25 = .ok (.if_icmp .eq 5, 3) := by decide +kernel
theorem dX11_since_28 : decode cX11_since 28 = .ok (.iconst (-1), 1) := by decide +kernel
theorem dX11_since_29 : decode cX11_since 29 = .ok (.ireturn, 1) := by decide +kernel
theorem dX11_since_30 : decode cX11_since 30 = .ok (.iload_n 2, 1) := by decide +kernel
theorem dX11_since_31 : decode cX11_since 31 = .ok (.istore_n 3, 1) := by decide +kernel
theorem dX11_since_32 : decode cX11_since 32 = .ok (.iload_n 2, 1) := by decide +kernel
theorem dX11_since_33 : decode cX11_since 33 = .ok (.istore 4, 2) := by decide +kernel
theorem dX11_since_35 : decode cX11_since 35 = .ok (.iload 4, 2) := by decide +kernel
theorem dX11_since_37 : decode cX11_since 37 = .ok (.ifCond .lt 26, 3) := by decide +kernel
theorem dX11_since_40 : decode cX11_since 40 = .ok (.aload_n 0, 1) := by decide +kernel
theorem dX11_since_41 : decode cX11_since 41 = .ok (.getfield 46, 3) := by decide +kernel
theorem dX11_since_44 : decode cX11_since 44 = .ok (.iload_n 1, 1) := by decide +kernel
theorem dX11_since_45 : decode cX11_since 45 = .ok (.iload 4, 2) := by decide +kernel
theorem dX11_since_47 : decode cX11_since 47 = .ok (.invokevirtual 243, 3) := by decide +kernel
theorem dX11_since_50 : decode cX11_since 50 = .ok (.iconst 1, 1) := by decide +kernel
theorem dX11_since_51 : decode cX11_since 51 = .ok (.if_icmp .ne 12, 3) := by decide +kernel
theorem dX11_since_54 : decode cX11_since 54 = .ok (.iload 4, 2) := by decide +kernel
theorem dX11_since_56 : decode cX11_since 56 = .ok (.istore_n 3, 1) := by decide +kernel
theorem dX11_since_57 : decode cX11_since 57 = .ok (.iinc 4 (-1), 3) := by decide +kernel
theorem dX11_since_60 : decode cX11_since 60 = .ok (.goto (-25), 3) := by decide +kernel
theorem dX11_since_63 : decode cX11_since 63 = .ok (.iload_n 3, 1) := by decide +kernel
theorem dX11_since_64 : decode cX11_since 64 = .ok (.ireturn, 1) := by decide +kernel
theorem dX11_plan_0 : decode cX11_plan 0 = .ok (.aload_n 0, 1) := by decide +kernel
theorem dX11_plan_1 : decode cX11_plan 1 = .ok (.iload_n 1, 1) := by decide +kernel
theorem dX11_plan_2 : decode cX11_plan 2 = .ok (.invokevirtual 207, 3) := by decide +kernel
theorem dX11_plan_5 : decode cX11_plan 5 = .ok (.ifCond .eq 22, 3) := by decide +kernel
theorem dX11_plan_8 : decode cX11_plan 8 = .ok (.iload_n 2, 1) := by decide +kernel
theorem dX11_plan_9 : decode cX11_plan 9 = .ok (.iload_n 3, 1) := by decide +kernel
theorem dX11_plan_10 : decode cX11_plan 10 = .ok (.invokestatic 204, 3) := by decide +kernel
theorem dX11_plan_13 : decode cX11_plan 13 = .ok (.ifCond .eq 14, 3) := by decide +kernel
theorem dX11_plan_16 : decode cX11_plan 16 = .ok (.aload_n 0, 1) := by decide +kernel
theorem dX11_plan_17 : decode cX11_plan 17 = .ok (.invokevirtual 232, 3) := by decide +kernel
theorem dX11_plan_20 : decode cX11_plan 20 = .ok (.getfield 236, 3) := by decide +kernel
theorem dX11_plan_23 : decode cX11_plan 23 = .ok (.iconst (-1), 1) := by decide +kernel
theorem dX11_plan_24 : decode cX11_plan 24 = .ok (.if_icmp .ne 5, 3) := by decide +kernel
theorem dX11_plan_27 : decode cX11_plan 27 = .ok (.iconst (-1), 1) := by decide +kernel
theorem dX11_plan_28 : decode cX11_plan 28 = .ok (.ireturn, 1) := by decide +kernel
theorem dX11_plan_29 : decode cX11_plan 29 = .ok (.iload_n 2, 1) := by decide +kernel
theorem dX11_plan_30 : decode cX11_plan 30 = .ok (.istore 4, 2) := by decide +kernel
theorem dX11_plan_32 : decode cX11_plan 32 = .ok (.iload 4, 2) := by decide +kernel
theorem dX11_plan_34 : decode cX11_plan 34 = .ok (.iload_n 3, 1) := by decide +kernel
theorem dX11_plan_35 : decode cX11_plan 35 = .ok (.if_icmp .ge 52, 3) := by decide +kernel
theorem dX11_plan_38 : decode cX11_plan 38 = .ok (.iconst 0, 1) := by decide +kernel
theorem dX11_plan_39 : decode cX11_plan 39 = .ok (.istore 5, 2) := by decide +kernel
theorem dX11_plan_41 : decode cX11_plan 41 = .ok (.iload 5, 2) := by decide +kernel
theorem dX11_plan_43 : decode cX11_plan 43 = .ok (.aload_n 0, 1) := by decide +kernel
theorem dX11_plan_44 : decode cX11_plan 44 = .ok (.getfield 18, 3) := by decide +kernel
theorem dX11_plan_47 : decode cX11_plan 47 = .ok (.getfield 174, 3) := by decide +kernel
theorem dX11_plan_50 : decode cX11_plan 50 = .ok (.if_icmp .ge 31, 3) := by decide +kernel
theorem dX11_plan_53 : decode cX11_plan 53 = .ok (.aload_n 0, 1) := by decide +kernel
theorem dX11_plan_54 : decode cX11_plan 54 = .ok (.iload 5, 2) := by decide +kernel
theorem dX11_plan_56 : decode cX11_plan 56 = .ok (.iload 4, 2) := by decide +kernel
theorem dX11_plan_58 : decode cX11_plan 58 = .ok (.iload_n 1, 1) := by decide +kernel
theorem dX11_plan_59 : decode cX11_plan 59 = .ok (.iload_n 3, 1) := by decide +kernel
theorem dX11_plan_60 : decode cX11_plan 60 = .ok (.invokevirtual 283, 3) := by decide +kernel
theorem dX11_plan_63 : decode cX11_plan 63 = .ok (.ifCond .eq 12, 3) := by decide +kernel
theorem dX11_plan_66 : decode cX11_plan 66 = .ok (.bipush 10, 2) := by decide +kernel
theorem dX11_plan_68 : decode cX11_plan 68 = .ok (.iload 4, 2) := by decide +kernel
theorem dX11_plan_70 : decode cX11_plan 70 = .ok (.imul, 1) := by decide +kernel
theorem dX11_plan_71 : decode cX11_plan 71 = .ok (.iload 5, 2) := by decide +kernel
theorem dX11_plan_73 : decode cX11_plan 73 = .ok (.iadd, 1) := by decide +kernel
theorem dX11_plan_74 : decode cX11_plan 74 = .ok (.ireturn, 1) := by decide +kernel
theorem dX11_plan_75 : decode cX11_plan 75 = .ok (.iinc 5 1, 3) := by decide +kernel
theorem dX11_plan_78 : decode cX11_plan 78 = .ok (.goto (-37), 3) := by decide +kernel
theorem dX11_plan_81 : decode cX11_plan 81 = .ok (.iinc 4 1, 3) := by decide +kernel
theorem dX11_plan_84 : decode cX11_plan 84 = .ok (.goto (-52), 3) := by decide +kernel
theorem dX11_plan_87 : decode cX11_plan 87 = .ok (.iconst (-1), 1) := by decide +kernel
theorem dX11_plan_88 : decode cX11_plan 88 = .ok (.ireturn, 1) := by decide +kernel
theorem dX11_seemed_0 : decode cX11_seemed 0 = .ok (.iload_n 1, 1) := by decide +kernel
theorem dX11_seemed_1 : decode cX11_seemed 1 = .ok (.invokestatic 191, 3) := by decide +kernel
theorem dX11_seemed_4 : decode cX11_seemed 4 = .ok (.ifCond .eq 26, 3) := by decide +kernel
theorem dX11_seemed_7 : decode cX11_seemed 7 = .ok (.iload_n 2, 1) := by decide +kernel
theorem dX11_seemed_8 : decode cX11_seemed 8 = .ok (.invokestatic 197, 3) := by decide +kernel
theorem dX11_seemed_11 : decode cX11_seemed 11 = .ok (.ifCond .eq 19, 3) := by decide +kernel
theorem dX11_seemed_14 : decode cX11_seemed 14 = .ok (.aload_n 0, 1) := by decide +kernel
theorem dX11_seemed_15 : decode cX11_seemed 15 = .ok (.iload_n 3, 1) := by decide +kernel
theorem dX11_seemed_16 : decode cX11_seemed 16 = .ok (.invokevirtual 207, 3) := by decide +kernel
theorem dX11_seemed_19 : decode cX11_seemed 19 = .ok (.ifCond .eq 11, 3) := by decide +kernel
theorem dX11_seemed_22 : decode cX11_seemed 22 = .ok (.iload 4, 2) := by decide +kernel
theorem dX11_seemed_24 : decode cX11_seemed 24 = .ok (.invokestatic 197, 3) := by decide +kernel
theorem dX11_seemed_27 : decode cX11_seemed 27 = .ok (.ifCond .ne 5, 3) := by decide +kernel
theorem dX11_seemed_30 : decode cX11_seemed 30 = .ok (.iconst (-1), 1) := by decide +kernel
theorem dX11_seemed_31 : decode cX11_seemed 31 = .ok (.ireturn, 1) := by decide +kernel
theorem dX11_seemed_32 : decode cX11_seemed 32 = .ok (.aload_n 0, 1) := by decide +kernel
theorem dX11_seemed_33 : decode cX11_seemed 33 = .ok (.aload_n 0, 1) := by decide +kernel
theorem dX11_seemed_34 : decode cX11_seemed 34 = .ok (.getfield 18, 3) := by decide +kernel
theorem dX11_seemed_37 : decode cX11_seemed 37 = .ok (.iload_n 1, 1) := by decide +kernel
theorem dX11_seemed_38 : decode cX11_seemed 38 = .ok (.iload_n 2, 1) := by decide +kernel
theorem dX11_seemed_39 : decode cX11_seemed 39 = .ok (.invokevirtual 287, 3) := by decide +kernel
theorem dX11_seemed_42 : decode cX11_seemed 42 = .ok (.iload_n 3, 1) := by decide +kernel
theorem dX11_seemed_43 : decode cX11_seemed 43 = .ok (.iload 4, 2) := by decide +kernel
theorem dX11_seemed_45 : decode cX11_seemed 45 = .ok (.invokevirtual 263, 3) := by decide +kernel
theorem dX11_seemed_48 : decode cX11_seemed 48 = .ok (.ireturn, 1) := by decide +kernel
theorem dX11_act_0 : decode cX11_act 0 = .ok (.aload_n 0, 1) := by decide +kernel
theorem dX11_act_1 : decode cX11_act 1 = .ok (.getfield 58, 3) := by decide +kernel
theorem dX11_act_4 : decode cX11_act 4 = .ok (.iconst 0, 1) := by decide +kernel
theorem dX11_act_5 : decode cX11_act 5 = .ok (.iconst 0, 1) := by decide +kernel
theorem dX11_act_6 : decode cX11_act 6 = .ok (.iastore, 1) := by decide +kernel
theorem dX11_act_7 : decode cX11_act 7 = .ok (.aload_n 0, 1) := by decide +kernel
theorem dX11_act_8 : decode cX11_act 8 = .ok (.getfield 18, 3) := by decide +kernel
theorem dX11_act_11 : decode cX11_act 11 = .ok (.iload_n 1, 1) := by decide +kernel
theorem dX11_act_12 : decode cX11_act 12 = .ok (.invokevirtual 126, 3) := by decide +kernel
theorem dX11_act_15 : decode cX11_act 15 = .ok (.astore 4, 2) := by decide +kernel
theorem dX11_act_17 : decode cX11_act 17 = .ok (.aload 4, 2) := by decide +kernel
theorem dX11_act_19 : decode cX11_act 19 = .ok (.ifnull 12, 3) := by decide +kernel
theorem dX11_act_22 : decode cX11_act 22 = .ok (.iload_n 2, 1) := by decide +kernel
theorem dX11_act_23 : decode cX11_act 23 = .ok (.ifCond .lt 8, 3) := by decide +kernel
theorem dX11_act_26 : decode cX11_act 26 = .ok (.iload_n 2, 1) := by decide +kernel
theorem dX11_act_27 : decode cX11_act 27 = .ok (.iconst 3, 1) := by decide +kernel
theorem dX11_act_28 : decode cX11_act 28 = .ok (.if_icmp .lt 5, 3) := by decide +kernel
theorem dX11_act_31 : decode cX11_act 31 = .ok (.iconst 0, 1) := by decide +kernel
theorem dX11_act_32 : decode cX11_act 32 = .ok (.ireturn, 1) := by decide +kernel
theorem dX11_act_33 : decode cX11_act 33 = .ok (.iload_n 2, 1) := by decide +kernel
theorem dX11_act_34 : decode cX11_act 34 = .ok (.ifCond .ne 14, 3) := by decide +kernel
theorem dX11_act_37 : decode cX11_act 37 = .ok (.aload 4, 2) := by decide +kernel
theorem dX11_act_39 : decode cX11_act 39 = .ok (.iload_n 3, 1) := by decide +kernel
theorem dX11_act_40 : decode cX11_act 40 = .ok (.aload_n 0, 1) := by decide +kernel
theorem dX11_act_41 : decode cX11_act 41 = .ok (.getfield 58, 3) := by decide +kernel
theorem dX11_act_44 : decode cX11_act 44 = .ok (.invokevirtual 290, 3) := by decide +kernel
theorem dX11_act_47 : decode cX11_act 47 = .ok (.ireturn, 1) := by decide +kernel
theorem dX11_act_48 : decode cX11_act 48 = .ok (.iload_n 2, 1) := by decide +kernel
theorem dX11_act_49 : decode cX11_act 49 = .ok (.iconst 1, 1) := by decide +kernel
theorem dX11_act_50 : decode cX11_act 50 = .ok (.if_icmp .ne 16, 3) := by decide +kernel
theorem dX11_act_53 : decode cX11_act 53 = .ok (.aload 4, 2) := by decide +kernel
theorem dX11_act_55 : decode cX11_act 55 = .ok (.iload_n 3, 1) := by decide +kernel
theorem dX11_act_56 : decode cX11_act 56 = .ok (.aload_n 0, 1) := by decide +kernel
theorem dX11_act_57 : decode cX11_act 57 = .ok (.getfield 58, 3) := by decide +kernel
theorem dX11_act_60 : decode cX11_act 60 = .ok (.invokevirtual 294, 3) := by decide +kernel
theorem dX11_act_63 : decode cX11_act 63 = .ok (.goto 13, 3) := by decide +kernel
theorem dX11_act_66 : decode cX11_act 66 = .ok (.aload 4, 2) := by decide +kernel
theorem dX11_act_68 : decode cX11_act 68 = .ok (.iload_n 3, 1) := by decide +kernel
theorem dX11_act_69 : decode cX11_act 69 = .ok (.aload_n 0, 1) := by decide +kernel
theorem dX11_act_70 : decode cX11_act 70 = .ok (.getfield 58, 3) := by decide +kernel
theorem dX11_act_73 : decode cX11_act 73 = .ok (.invokevirtual 297, 3) := by decide +kernel
theorem dX11_act_76 : decode cX11_act 76 = .ok (.ireturn, 1) := by decide +kernel
theorem dX11_trace_0 : decode cX11_trace 0 = .ok (.iload_n 1, 1) := by decide +kernel
theorem dX11_trace_1 : decode cX11_trace 1 = .ok (.ifCond .lt 30, 3) := by decide +kernel
theorem dX11_trace_4 : decode cX11_trace 4 = .ok (.iload_n 1, 1) := by decide +kernel
theorem dX11_trace_5 : decode cX11_trace 5 = .ok (.bipush 20, 2) := by decide +kernel
theorem dX11_trace_7 : decode cX11_trace 7 = .ok (.if_icmp .ge 24, 3) := by decide +kernel
theorem dX11_trace_10 : decode cX11_trace 10 = .ok (.iload_n 1, 1) := by decide +kernel
theorem dX11_trace_11 : decode cX11_trace 11 = .ok (.aload_n 0, 1) := by decide +kernel
theorem dX11_trace_12 : decode cX11_trace 12 = .ok (.getfield 58, 3) := by decide +kernel
theorem dX11_trace_15 : decode cX11_trace 15 = .ok (.iconst 0, 1) := by decide +kernel
theorem dX11_trace_16 : decode cX11_trace 16 = .ok (.iaload, 1) := by decide +kernel
theorem dX11_trace_17 : decode cX11_trace 17 = .ok (.if_icmp .ge 14, 3) := by decide +kernel
theorem dX11_trace_20 : decode cX11_trace 20 = .ok (.aload_n 0, 1) := by decide +kernel
theorem dX11_trace_21 : decode cX11_trace 21 = .ok (.getfield 58, 3) := by decide +kernel
theorem dX11_trace_24 : decode cX11_trace 24 = .ok (.iconst 1, 1) := by decide +kernel
theorem dX11_trace_25 : decode cX11_trace 25 = .ok (.iload_n 1, 1) := by decide +kernel
theorem dX11_trace_26 : decode cX11_trace 26 = .ok (.iadd, 1) := by decide +kernel
theorem dX11_trace_27 : decode cX11_trace 27 = .ok (.iaload, 1) := by decide +kernel
theorem dX11_trace_28 : decode cX11_trace 28 = .ok (.goto 4, 3) := by decide +kernel
theorem dX11_trace_31 : decode cX11_trace 31 = .ok (.iconst (-1), 1) := by decide +kernel
theorem dX11_trace_32 : decode cX11_trace 32 = .ok (.ireturn, 1) := by decide +kernel
theorem dX11_image_0 : decode cX11_image 0 = .ok (.aload_n 0, 1) := by decide +kernel
theorem dX11_image_1 : decode cX11_image 1 = .ok (.getfield 22, 3) := by decide +kernel
theorem dX11_image_4 : decode cX11_image 4 = .ok (.aload_n 0, 1) := by decide +kernel
theorem dX11_image_5 : decode cX11_image 5 = .ok (.getfield 18, 3) := by decide +kernel
theorem dX11_image_8 : decode cX11_image 8 = .ok (.invokevirtual 300, 3) := by decide +kernel
theorem dX11_image_11 : decode cX11_image 11 = .ok (.aload_n 0, 1) := by decide +kernel
theorem dX11_image_12 : decode cX11_image 12 = .ok (.iconst 1, 1) := by decide +kernel
theorem dX11_image_13 : decode cX11_image 13 = .ok (.putfield 61, 3) := by decide +kernel
theorem dX11_image_16 : decode cX11_image 16 = .ok (.aload_n 0, 1) := by decide +kernel
theorem dX11_image_17 : decode cX11_image 17 = .ok (.getfield 22, 3) := by decide +kernel
theorem dX11_image_20 : decode cX11_image 20 = .ok (.getfield 260, 3) := by decide +kernel
theorem dX11_image_23 : decode cX11_image 23 = .ok (.ireturn, 1) := by decide +kernel
theorem dX11_restore_0 : decode cX11_restore 0 = .ok (.aload_n 0, 1) := by decide +kernel
theorem dX11_restore_1 : decode cX11_restore 1 = .ok (.getfield 61, 3) := by decide +kernel
theorem dX11_restore_4 : decode cX11_restore 4 = .ok (.ifCond .ne 10, 3) := by decide +kernel
theorem dX11_restore_7 : decode cX11_restore 7 = .ok (.aload_n 0, 1) := by decide +kernel
theorem dX11_restore_8 : decode cX11_restore 8 = .ok (.bipush (-6), 2) := by decide +kernel
theorem dX11_restore_10 : decode cX11_restore 10 = .ok (.invokevirtual 80, 3) := by decide +kernel
theorem dX11_restore_13 : decode cX11_restore 13 = .ok (.ireturn, 1) := by decide +kernel
theorem dX11_restore_14 : decode cX11_restore 14 = .ok (.aload_n 0, 1) := by decide +kernel
theorem dX11_restore_15 : decode cX11_restore 15 = .ok (.getfield 18, 3) := by decide +kernel
theorem dX11_restore_18 : decode cX11_restore 18 = .ok (.aload_n 0, 1) := by decide +kernel
theorem dX11_restore_19 : decode cX11_restore 19 = .ok (.getfield 22, 3) := by decide +kernel
theorem dX11_restore_22 : decode cX11_restore 22 = .ok (.invokevirtual 300, 3) := by decide +kernel
theorem dX11_restore_25 : decode cX11_restore 25 = .ok (.aload_n 0, 1) := by decide +kernel
theorem dX11_restore_26 : decode cX11_restore 26 = .ok (.iconst 1, 1) := by decide +kernel
theorem dX11_restore_27 : decode cX11_restore 27 = .ok (.putfield 65, 3) := by decide +kernel
theorem dX11_restore_30 : decode cX11_restore 30 = .ok (.aload_n 0, 1) := by decide +kernel
theorem dX11_restore_31 : decode cX11_restore 31 = .ok (.iconst 1, 1) := by decide +kernel
theorem dX11_restore_32 : decode cX11_restore 32 = .ok (.putfield 68, 3) := by decide +kernel
theorem dX11_restore_35 : decode cX11_restore 35 = .ok (.iconst 0, 1) := by decide +kernel
theorem dX11_restore_36 : decode cX11_restore 36 = .ok (.istore_n 1, 1) := by decide +kernel
theorem dX11_restore_37 : decode cX11_restore 37 = .ok (.iload_n 1, 1) := by decide +kernel
theorem dX11_restore_38 : decode cX11_restore 38 = .ok (.bipush 8, 2) := by decide +kernel
theorem dX11_restore_40 : decode cX11_restore 40 = .ok (.if_icmp .ge 50, 3) := by decide +kernel
theorem dX11_restore_43 : decode cX11_restore 43 = .ok (.aload_n 0, 1) := by decide +kernel
theorem dX11_restore_44 : decode cX11_restore 44 = .ok (.getfield 11, 3) := by decide +kernel
theorem dX11_restore_47 : decode cX11_restore 47 = .ok (.iload_n 1, 1) := by decide +kernel
theorem dX11_restore_48 : decode cX11_restore 48 = .ok (.aaload, 1) := by decide +kernel
theorem dX11_restore_49 : decode cX11_restore 49 = .ok (.invokevirtual 98, 3) := by decide +kernel
theorem dX11_restore_52 : decode cX11_restore 52 = .ok (.ifCond .eq 32, 3) := by decide +kernel
theorem dX11_restore_55 : decode cX11_restore 55 = .ok (.aload_n 0, 1) := by decide +kernel
theorem dX11_restore_56 : decode cX11_restore 56 = .ok (.getfield 11, 3) := by decide +kernel
theorem dX11_restore_59 : decode cX11_restore 59 = .ok (.iload_n 1, 1) := by decide +kernel
theorem dX11_restore_60 : decode cX11_restore 60 = .ok (.aaload, 1) := by decide +kernel
theorem dX11_restore_61 : decode cX11_restore 61 = .ok (.getfield 105, 3) := by decide +kernel
theorem dX11_restore_64 : decode cX11_restore 64 = .ok (.aload_n 0, 1) := by decide +kernel
theorem dX11_restore_65 : decode cX11_restore 65 = .ok (.getfield 18, 3) := by decide +kernel
theorem dX11_restore_68 : decode cX11_restore 68 = .ok (.getfield 260, 3) := by decide +kernel
theorem dX11_restore_71 : decode cX11_restore 71 = .ok (.if_icmp .lt 13, 3) := by decide +kernel
theorem dX11_restore_74 : decode cX11_restore 74 = .ok (.aload_n 0, 1) := by decide +kernel
theorem dX11_restore_75 : decode cX11_restore 75 = .ok (.getfield 11, 3) := by decide +kernel
theorem dX11_restore_78 : decode cX11_restore 78 = .ok (.iload_n 1, 1) := by decide +kernel
theorem dX11_restore_79 : decode cX11_restore 79 = .ok (.aaload, 1) := by decide +kernel
theorem dX11_restore_80 : decode cX11_restore 80 = .ok (.iconst (-1), 1) := by decide +kernel
theorem dX11_restore_81 : decode cX11_restore 81 = .ok (.invokevirtual 130, 3) := by decide +kernel
theorem dX11_restore_84 : decode cX11_restore 84 = .ok (.iinc 1 1, 3) := by decide +kernel
theorem dX11_restore_87 : decode cX11_restore 87 = .ok (.goto (-50), 3) := by decide +kernel
theorem dX11_restore_90 : decode cX11_restore 90 = .ok (.aload_n 0, 1) := by decide +kernel
theorem dX11_restore_91 : decode cX11_restore 91 = .ok (.getfield 18, 3) := by decide +kernel
theorem dX11_restore_94 : decode cX11_restore 94 = .ok (.getfield 260, 3) := by decide +kernel
theorem dX11_restore_97 : decode cX11_restore 97 = .ok (.ireturn, 1) := by decide +kernel
theorem dX11_status_0 : decode cX11_status 0 = .ok (.iload_n 1, 1) := by decide +kernel
theorem dX11_status_1 : decode cX11_status 1 = .ok (.tableswitch 77 0 4 #[35, 43, 51, 59, 70], 35) := by decide +kernel
theorem dX11_status_36 : decode cX11_status 36 = .ok (.aload_n 0, 1) := by decide +kernel
theorem dX11_status_37 : decode cX11_status 37 = .ok (.getfield 18, 3) := by decide +kernel
theorem dX11_status_40 : decode cX11_status 40 = .ok (.getfield 303, 3) := by decide +kernel
theorem dX11_status_43 : decode cX11_status 43 = .ok (.ireturn, 1) := by decide +kernel
theorem dX11_status_44 : decode cX11_status 44 = .ok (.aload_n 0, 1) := by decide +kernel
theorem dX11_status_45 : decode cX11_status 45 = .ok (.getfield 18, 3) := by decide +kernel
theorem dX11_status_48 : decode cX11_status 48 = .ok (.getfield 174, 3) := by decide +kernel
theorem dX11_status_51 : decode cX11_status 51 = .ok (.ireturn, 1) := by decide +kernel
theorem dX11_status_52 : decode cX11_status 52 = .ok (.aload_n 0, 1) := by decide +kernel
theorem dX11_status_53 : decode cX11_status 53 = .ok (.getfield 18, 3) := by decide +kernel
theorem dX11_status_56 : decode cX11_status 56 = .ok (.getfield 260, 3) := by decide +kernel
theorem dX11_status_59 : decode cX11_status 59 = .ok (.ireturn, 1) := by decide +kernel
theorem dX11_status_60 : decode cX11_status 60 = .ok (.aload_n 0, 1) := by decide +kernel
theorem dX11_status_61 : decode cX11_status 61 = .ok (.getfield 18, 3) := by decide +kernel
theorem dX11_status_64 : decode cX11_status 64 = .ok (.getfield 220, 3) := by decide +kernel
theorem dX11_status_67 : decode cX11_status 67 = .ok (.invokestatic 306, 3) := by decide +kernel
theorem dX11_status_70 : decode cX11_status 70 = .ok (.ireturn, 1) := by decide +kernel
theorem dX11_status_71 : decode cX11_status 71 = .ok (.aload_n 0, 1) := by decide +kernel
theorem dX11_status_72 : decode cX11_status 72 = .ok (.getfield 58, 3) := by decide +kernel
theorem dX11_status_75 : decode cX11_status 75 = .ok (.iconst 0, 1) := by decide +kernel
theorem dX11_status_76 : decode cX11_status 76 = .ok (.iaload, 1) := by decide +kernel
theorem dX11_status_77 : decode cX11_status 77 = .ok (.ireturn, 1) := by decide +kernel
theorem dX11_status_78 : decode cX11_status 78 = .ok (.iload_n 1, 1) := by decide +kernel
theorem dX11_status_79 : decode cX11_status 79 = .ok (.bipush 11, 2) := by decide +kernel
theorem dX11_status_81 : decode cX11_status 81 = .ok (.if_icmp .lt 21, 3) := by decide +kernel
theorem dX11_status_84 : decode cX11_status 84 = .ok (.iload_n 1, 1) := by decide +kernel
theorem dX11_status_85 : decode cX11_status 85 = .ok (.bipush 17, 2) := by decide +kernel
theorem dX11_status_87 : decode cX11_status 87 = .ok (.if_icmp .gt 15, 3) := by decide +kernel
theorem dX11_status_90 : decode cX11_status 90 = .ok (.aload_n 0, 1) := by decide +kernel
theorem dX11_status_91 : decode cX11_status 91 = .ok (.getfield 53, 3) := by decide +kernel
theorem dX11_status_94 : decode cX11_status 94 = .ok (.iload_n 1, 1) := by decide +kernel
theorem dX11_status_95 : decode cX11_status 95 = .ok (.bipush 10, 2) := by decide +kernel
theorem dX11_status_97 : decode cX11_status 97 = .ok (.isub, 1) := by decide +kernel
theorem dX11_status_98 : decode cX11_status 98 = .ok (.iaload, 1) := by decide +kernel
theorem dX11_status_99 : decode cX11_status 99 = .ok (.goto 4, 3) := by decide +kernel
theorem dX11_status_102 : decode cX11_status 102 = .ok (.iconst (-1), 1) := by decide +kernel
theorem dX11_status_103 : decode cX11_status 103 = .ok (.ireturn, 1) := by decide +kernel
theorem dX11_refuse_0 : decode cX11_refuse 0 = .ok (.iload_n 1, 1) := by decide +kernel
theorem dX11_refuse_1 : decode cX11_refuse 1 = .ok (.ineg, 1) := by decide +kernel
theorem dX11_refuse_2 : decode cX11_refuse 2 = .ok (.istore_n 2, 1) := by decide +kernel
theorem dX11_refuse_3 : decode cX11_refuse 3 = .ok (.iload_n 2, 1) := by decide +kernel
theorem dX11_refuse_4 : decode cX11_refuse 4 = .ok (.ifCond .lt 22, 3) := by decide +kernel
theorem dX11_refuse_7 : decode cX11_refuse 7 = .ok (.iload_n 2, 1) := by decide +kernel
theorem dX11_refuse_8 : decode cX11_refuse 8 = .ok (.aload_n 0, 1) := by decide +kernel
theorem dX11_refuse_9 : decode cX11_refuse 9 = .ok (.getfield 53, 3) := by decide +kernel
theorem dX11_refuse_12 : decode cX11_refuse 12 = .ok (.arraylength, 1) := by decide +kernel
theorem dX11_refuse_13 : decode cX11_refuse 13 = .ok (.if_icmp .ge 13, 3) := by decide +kernel
theorem dX11_refuse_16 : decode cX11_refuse 16 = .ok (.aload_n 0, 1) := by decide +kernel
theorem dX11_refuse_17 : decode cX11_refuse 17 = .ok (.getfield 53, 3) := by decide +kernel
theorem dX11_refuse_20 : decode cX11_refuse 20 = .ok (.iload_n 2, 1) := by decide +kernel
theorem dX11_refuse_21 : decode cX11_refuse 21 = .ok (.dup2, 1) := by decide +kernel
theorem dX11_refuse_22 : decode cX11_refuse 22 = .ok (.iaload, 1) := by decide +kernel
theorem dX11_refuse_23 : decode cX11_refuse 23 = .ok (.iconst 1, 1) := by decide +kernel
theorem dX11_refuse_24 : decode cX11_refuse 24 = .ok (.iadd, 1) := by decide +kernel
theorem dX11_refuse_25 : decode cX11_refuse 25 = .ok (.iastore, 1) := by decide +kernel
theorem dX11_refuse_26 : decode cX11_refuse 26 = .ok (.iload_n 1, 1) := by decide +kernel
theorem dX11_refuse_27 : decode cX11_refuse 27 = .ok (.ireturn, 1) := by decide +kernel
theorem dX11_isShelf_0 : decode cX11_isShelf 0 = .ok (.iload_n 0, 1) := by decide +kernel
theorem dX11_isShelf_1 : decode cX11_isShelf 1 = .ok (.ifCond .lt 13, 3) := by decide +kernel
theorem dX11_isShelf_4 : decode cX11_isShelf 4 = .ok (.iload_n 0, 1) := by decide +kernel
theorem dX11_isShelf_5 : decode cX11_isShelf 5 = .ok (.bipush 8, 2) := by decide +kernel
theorem dX11_isShelf_7 : decode cX11_isShelf 7 = .ok (.if_icmp .ge 7, 3) := by decide +kernel
theorem dX11_isShelf_10 : decode cX11_isShelf 10 = .ok (.iconst 1, 1) := by decide +kernel
theorem dX11_isShelf_11 : decode cX11_isShelf 11 = .ok (.goto 4, 3) := by decide +kernel
theorem dX11_isShelf_14 : decode cX11_isShelf 14 = .ok (.iconst 0, 1) := by decide +kernel
theorem dX11_isShelf_15 : decode cX11_isShelf 15 = .ok (.ireturn, 1) := by decide +kernel
theorem dX11_isKind_0 : decode cX11_isKind 0 = .ok (.iload_n 0, 1) := by decide +kernel
theorem dX11_isKind_1 : decode cX11_isKind 1 = .ok (.ifCond .lt 12, 3) := by decide +kernel
theorem dX11_isKind_4 : decode cX11_isKind 4 = .ok (.iload_n 0, 1) := by decide +kernel
theorem dX11_isKind_5 : decode cX11_isKind 5 = .ok (.iconst 4, 1) := by decide +kernel
theorem dX11_isKind_6 : decode cX11_isKind 6 = .ok (.if_icmp .ge 7, 3) := by decide +kernel
theorem dX11_isKind_9 : decode cX11_isKind 9 = .ok (.iconst 1, 1) := by decide +kernel
theorem dX11_isKind_10 : decode cX11_isKind 10 = .ok (.goto 4, 3) := by decide +kernel
theorem dX11_isKind_13 : decode cX11_isKind 13 = .ok (.iconst 0, 1) := by decide +kernel
theorem dX11_isKind_14 : decode cX11_isKind 14 = .ok (.ireturn, 1) := by decide +kernel
theorem dX11_isMouth_0 : decode cX11_isMouth 0 = .ok (.iload_n 0, 1) := by decide +kernel
theorem dX11_isMouth_1 : decode cX11_isMouth 1 = .ok (.ifCond .lt 13, 3) := by decide +kernel
theorem dX11_isMouth_4 : decode cX11_isMouth 4 = .ok (.iload_n 0, 1) := by decide +kernel
theorem dX11_isMouth_5 : decode cX11_isMouth 5 = .ok (.bipush 6, 2) := by decide +kernel
theorem dX11_isMouth_7 : decode cX11_isMouth 7 = .ok (.if_icmp .ge 7, 3) := by decide +kernel
theorem dX11_isMouth_10 : decode cX11_isMouth 10 = .ok (.iconst 1, 1) := by decide +kernel
theorem dX11_isMouth_11 : decode cX11_isMouth 11 = .ok (.goto 4, 3) := by decide +kernel
theorem dX11_isMouth_14 : decode cX11_isMouth 14 = .ok (.iconst 0, 1) := by decide +kernel
theorem dX11_isMouth_15 : decode cX11_isMouth 15 = .ok (.ireturn, 1) := by decide +kernel
theorem dX11_isHour_0 : decode cX11_isHour 0 = .ok (.iload_n 0, 1) := by decide +kernel
theorem dX11_isHour_1 : decode cX11_isHour 1 = .ok (.ifCond .lt 13, 3) := by decide +kernel
theorem dX11_isHour_4 : decode cX11_isHour 4 = .ok (.iload_n 0, 1) := by decide +kernel
theorem dX11_isHour_5 : decode cX11_isHour 5 = .ok (.bipush 12, 2) := by decide +kernel
theorem dX11_isHour_7 : decode cX11_isHour 7 = .ok (.if_icmp .ge 7, 3) := by decide +kernel
theorem dX11_isHour_10 : decode cX11_isHour 10 = .ok (.iconst 1, 1) := by decide +kernel
theorem dX11_isHour_11 : decode cX11_isHour 11 = .ok (.goto 4, 3) := by decide +kernel
theorem dX11_isHour_14 : decode cX11_isHour 14 = .ok (.iconst 0, 1) := by decide +kernel
theorem dX11_isHour_15 : decode cX11_isHour 15 = .ok (.ireturn, 1) := by decide +kernel
theorem dX11_areHours_0 : decode cX11_areHours 0 = .ok (.iload_n 0, 1) := by decide +kernel
theorem dX11_areHours_1 : decode cX11_areHours 1 = .ok (.invokestatic 197, 3) := by decide +kernel
theorem dX11_areHours_4 : decode cX11_areHours 4 = .ok (.ifCond .eq 19, 3) := by decide +kernel
theorem dX11_areHours_7 : decode cX11_areHours 7 = .ok (.iload_n 1, 1) := by decide +kernel
theorem dX11_areHours_8 : decode cX11_areHours 8 = .ok (.invokestatic 197, 3) := by decide +kernel
theorem dX11_areHours_11 : decode cX11_areHours 11 = .ok (.ifCond .eq 12, 3) := by decide +kernel
theorem dX11_areHours_14 : decode cX11_areHours 14 = .ok (.iload_n 0, 1) := by decide +kernel
theorem dX11_areHours_15 : decode cX11_areHours 15 = .ok (.iload_n 1, 1) := by decide +kernel
theorem dX11_areHours_16 : decode cX11_areHours 16 = .ok (.if_icmp .gt 7, 3) := by decide +kernel
theorem dX11_areHours_19 : decode cX11_areHours 19 = .ok (.iconst 1, 1) := by decide +kernel
theorem dX11_areHours_20 : decode cX11_areHours 20 = .ok (.goto 4, 3) := by decide +kernel
theorem dX11_areHours_23 : decode cX11_areHours 23 = .ok (.iconst 0, 1) := by decide +kernel
theorem dX11_areHours_24 : decode cX11_areHours 24 = .ok (.ireturn, 1) := by decide +kernel
theorem dX11_isNumber_0 : decode cX11_isNumber 0 = .ok (.iload_n 0, 1) := by decide +kernel
theorem dX11_isNumber_1 : decode cX11_isNumber 1 = .ok (.ifCond .lt 13, 3) := by decide +kernel
theorem dX11_isNumber_4 : decode cX11_isNumber 4 = .ok (.iload_n 0, 1) := by decide +kernel
theorem dX11_isNumber_5 : decode cX11_isNumber 5 = .ok (.bipush 99, 2) := by decide +kernel
theorem dX11_isNumber_7 : decode cX11_isNumber 7 = .ok (.if_icmp .gt 7, 3) := by decide +kernel
theorem dX11_isNumber_10 : decode cX11_isNumber 10 = .ok (.iconst 1, 1) := by decide +kernel
theorem dX11_isNumber_11 : decode cX11_isNumber 11 = .ok (.goto 4, 3) := by decide +kernel
theorem dX11_isNumber_14 : decode cX11_isNumber 14 = .ok (.iconst 0, 1) := by decide +kernel
theorem dX11_isNumber_15 : decode cX11_isNumber 15 = .ok (.ireturn, 1) := by decide +kernel
theorem dX11_isThing_0 : decode cX11_isThing 0 = .ok (.iload_n 1, 1) := by decide +kernel
theorem dX11_isThing_1 : decode cX11_isThing 1 = .ok (.ifCond .lt 18, 3) := by decide +kernel
theorem dX11_isThing_4 : decode cX11_isThing 4 = .ok (.iload_n 1, 1) := by decide +kernel
theorem dX11_isThing_5 : decode cX11_isThing 5 = .ok (.aload_n 0, 1) := by decide +kernel
theorem dX11_isThing_6 : decode cX11_isThing 6 = .ok (.getfield 18, 3) := by decide +kernel
theorem dX11_isThing_9 : decode cX11_isThing 9 = .ok (.getfield 303, 3) := by decide +kernel
theorem dX11_isThing_12 : decode cX11_isThing 12 = .ok (.if_icmp .ge 7, 3) := by decide +kernel
theorem dX11_isThing_15 : decode cX11_isThing 15 = .ok (.iconst 1, 1) := by decide +kernel
theorem dX11_isThing_16 : decode cX11_isThing 16 = .ok (.goto 4, 3) := by decide +kernel
theorem dX11_isThing_19 : decode cX11_isThing 19 = .ok (.iconst 0, 1) := by decide +kernel
theorem dX11_isThing_20 : decode cX11_isThing 20 = .ok (.ireturn, 1) := by decide +kernel
theorem dX11_isHappening_0 : decode cX11_isHappening 0 = .ok (.iload_n 1, 1) := by decide +kernel
theorem dX11_isHappening_1 : decode cX11_isHappening 1 = .ok (.ifCond .lt 18, 3) := by decide +kernel
theorem dX11_isHappening_4 : decode cX11_isHappening 4 = .ok (.iload_n 1, 1) := by decide +kernel
theorem dX11_isHappening_5 : decode cX11_isHappening 5 = .ok (.aload_n 0, 1) := by decide +kernel
theorem dX11_isHappening_6 : decode cX11_isHappening 6 = .ok (.getfield 18, 3) := by decide +kernel
theorem dX11_isHappening_9 : decode cX11_isHappening 9 = .ok (.getfield 174, 3) := by decide +kernel
theorem dX11_isHappening_12 : decode cX11_isHappening 12 = .ok (.if_icmp .ge 7, 3) := by decide +kernel
theorem dX11_isHappening_15 : decode cX11_isHappening 15 = .ok (.iconst 1, 1) := by decide +kernel
theorem dX11_isHappening_16 : decode cX11_isHappening 16 = .ok (.goto 4, 3) := by decide +kernel
theorem dX11_isHappening_19 : decode cX11_isHappening 19 = .ok (.iconst 0, 1) := by decide +kernel
theorem dX11_isHappening_20 : decode cX11_isHappening 20 = .ok (.ireturn, 1) := by decide +kernel
theorem dX11_isRunning_0 : decode cX11_isRunning 0 = .ok (.aload_n 0, 1) := by decide +kernel
theorem dX11_isRunning_1 : decode cX11_isRunning 1 = .ok (.iload_n 1, 1) := by decide +kernel
theorem dX11_isRunning_2 : decode cX11_isRunning 2 = .ok (.invokevirtual 207, 3) := by decide +kernel
theorem dX11_isRunning_5 : decode cX11_isRunning 5 = .ok (.ifCond .eq 20, 3) := by decide +kernel
theorem dX11_isRunning_8 : decode cX11_isRunning 8 = .ok (.aload_n 0, 1) := by decide +kernel
theorem dX11_isRunning_9 : decode cX11_isRunning 9 = .ok (.getfield 18, 3) := by decide +kernel
theorem dX11_isRunning_12 : decode cX11_isRunning 12 = .ok (.getfield 311, 3) := by decide +kernel
theorem dX11_isRunning_15 : decode cX11_isRunning 15 = .ok (.iload_n 1, 1) := by decide +kernel
theorem dX11_isRunning_16 : decode cX11_isRunning 16 = .ok (.iaload, 1) := by decide +kernel
theorem dX11_isRunning_17 : decode cX11_isRunning 17 = .ok (.iconst 3, 1) := by decide +kernel
theorem dX11_isRunning_18 : decode cX11_isRunning 18 = .ok (.if_icmp .ne 7, 3) := by decide +kernel
theorem dX11_isRunning_21 : decode cX11_isRunning 21 = .ok (.iconst 1, 1) := by decide +kernel
theorem dX11_isRunning_22 : decode cX11_isRunning 22 = .ok (.goto 4, 3) := by decide +kernel
theorem dX11_isRunning_25 : decode cX11_isRunning 25 = .ok (.iconst 0, 1) := by decide +kernel
theorem dX11_isRunning_26 : decode cX11_isRunning 26 = .ok (.ireturn, 1) := by decide +kernel
theorem dX11_canHave_0 : decode cX11_canHave 0 = .ok (.iload_n 2, 1) := by decide +kernel
theorem dX11_canHave_1 : decode cX11_canHave 1 = .ok (.ifCond .lt 25, 3) := by decide +kernel
theorem dX11_canHave_4 : decode cX11_canHave 4 = .ok (.iload_n 2, 1) := by decide +kernel
theorem dX11_canHave_5 : decode cX11_canHave 5 = .ok (.aload_n 0, 1) := by decide +kernel
theorem dX11_canHave_6 : decode cX11_canHave 6 = .ok (.iload_n 1, 1) := by decide +kernel
theorem dX11_canHave_7 : decode cX11_canHave 7 = .ok (.invokevirtual 247, 3) := by decide +kernel
theorem dX11_canHave_10 : decode cX11_canHave 10 = .ok (.ifCond .eq 8, 3) := by decide +kernel
theorem dX11_canHave_13 : decode cX11_canHave 13 = .ok (.bipush 7, 2) := by decide +kernel
theorem dX11_canHave_15 : decode cX11_canHave 15 = .ok (.goto 4, 3) := by decide +kernel
theorem dX11_canHave_18 : decode cX11_canHave 18 = .ok (.iconst 1, 1) := by decide +kernel
theorem dX11_canHave_19 : decode cX11_canHave 19 = .ok (.if_icmp .gt 7, 3) := by decide +kernel
theorem dX11_canHave_22 : decode cX11_canHave 22 = .ok (.iconst 1, 1) := by decide +kernel
theorem dX11_canHave_23 : decode cX11_canHave 23 = .ok (.goto 4, 3) := by decide +kernel
theorem dX11_canHave_26 : decode cX11_canHave 26 = .ok (.iconst 0, 1) := by decide +kernel
theorem dX11_canHave_27 : decode cX11_canHave 27 = .ok (.ireturn, 1) := by decide +kernel
theorem dX11_isOf_0 : decode cX11_isOf 0 = .ok (.iload_n 1, 1) := by decide +kernel
theorem dX11_isOf_1 : decode cX11_isOf 1 = .ok (.tableswitch 42 1 3 #[27, 32, 37], 27) := by decide +kernel
theorem dX11_isOf_28 : decode cX11_isOf 28 = .ok (.aload_n 0, 1) := by decide +kernel
theorem dX11_isOf_29 : decode cX11_isOf 29 = .ok (.instanceof 314, 3) := by decide +kernel
theorem dX11_isOf_32 : decode cX11_isOf 32 = .ok (.ireturn, 1) := by decide +kernel
theorem dX11_isOf_33 : decode cX11_isOf 33 = .ok (.aload_n 0, 1) := by decide +kernel
theorem dX11_isOf_34 : decode cX11_isOf 34 = .ok (.instanceof 316, 3) := by decide +kernel
theorem dX11_isOf_37 : decode cX11_isOf 37 = .ok (.ireturn, 1) := by decide +kernel
theorem dX11_isOf_38 : decode cX11_isOf 38 = .ok (.aload_n 0, 1) := by decide +kernel
theorem dX11_isOf_39 : decode cX11_isOf 39 = .ok (.instanceof 318, 3) := by decide +kernel
theorem dX11_isOf_42 : decode cX11_isOf 42 = .ok (.ireturn, 1) := by decide +kernel
theorem dX11_isOf_43 : decode cX11_isOf 43 = .ok (.iconst 1, 1) := by decide +kernel
theorem dX11_isOf_44 : decode cX11_isOf 44 = .ok (.ireturn, 1) := by decide +kernel
theorem dX11_rowTrouble_0 : decode cX11_rowTrouble 0 = .ok (.iload_n 1, 1) := by decide +kernel
theorem dX11_rowTrouble_1 : decode cX11_rowTrouble 1 = .ok (.invokestatic 76, 3) := by decide +kernel
theorem dX11_rowTrouble_4 : decode cX11_rowTrouble 4 = .ok (.ifCond .ne 5, 3) := by decide +kernel
theorem dX11_rowTrouble_7 : decode cX11_rowTrouble 7 = .ok (.iconst (-1), 1) := by decide +kernel
theorem dX11_rowTrouble_8 : decode cX11_rowTrouble 8 = .ok (.ireturn, 1) := by decide +kernel
theorem dX11_rowTrouble_9 : decode cX11_rowTrouble 9 = .ok (.aload_n 0, 1) := by decide +kernel
theorem dX11_rowTrouble_10 : decode cX11_rowTrouble 10 = .ok (.getfield 11, 3) := by decide +kernel
theorem dX11_rowTrouble_13 : decode cX11_rowTrouble 13 = .ok (.iload_n 1, 1) := by decide +kernel
theorem dX11_rowTrouble_14 : decode cX11_rowTrouble 14 = .ok (.aaload, 1) := by decide +kernel
theorem dX11_rowTrouble_15 : decode cX11_rowTrouble 15 = .ok (.invokevirtual 102, 3) := by decide +kernel
theorem dX11_rowTrouble_18 : decode cX11_rowTrouble 18 = .ok (.ifCond .eq 5, 3) := by decide +kernel
theorem dX11_rowTrouble_21 : decode cX11_rowTrouble 21 = .ok (.iconst 0, 1) := by decide +kernel
theorem dX11_rowTrouble_22 : decode cX11_rowTrouble 22 = .ok (.ireturn, 1) := by decide +kernel
theorem dX11_rowTrouble_23 : decode cX11_rowTrouble 23 = .ok (.aload_n 0, 1) := by decide +kernel
theorem dX11_rowTrouble_24 : decode cX11_rowTrouble 24 = .ok (.getfield 11, 3) := by decide +kernel
theorem dX11_rowTrouble_27 : decode cX11_rowTrouble 27 = .ok (.iload_n 1, 1) := by decide +kernel
theorem dX11_rowTrouble_28 : decode cX11_rowTrouble 28 = .ok (.aaload, 1) := by decide +kernel
theorem dX11_rowTrouble_29 : decode cX11_rowTrouble 29 = .ok (.invokevirtual 98, 3) := by decide +kernel
theorem dX11_rowTrouble_32 : decode cX11_rowTrouble 32 = .ok (.ifCond .eq 8, 3) := by decide +kernel
theorem dX11_rowTrouble_35 : decode cX11_rowTrouble 35 = .ok (.bipush (-2), 2) := by decide +kernel
theorem dX11_rowTrouble_37 : decode cX11_rowTrouble 37 = .ok (.goto 5, 3) := by decide +kernel
theorem dX11_rowTrouble_40 : decode cX11_rowTrouble 40 = .ok (.bipush (-3), 2) := by decide +kernel
theorem dX11_rowTrouble_42 : decode cX11_rowTrouble 42 = .ok (.ireturn, 1) := by decide +kernel
theorem dX11_readingTrouble_0 : decode cX11_readingTrouble 0 = .ok (.aload_n 0, 1) := by decide +kernel
theorem dX11_readingTrouble_1 : decode cX11_readingTrouble 1 = .ok (.aload_n 0, 1) := by decide +kernel
theorem dX11_readingTrouble_2 : decode cX11_readingTrouble 2 = .ok (.getfield 30, 3) := by decide +kernel
theorem dX11_readingTrouble_5 : decode cX11_readingTrouble 5 = .ok (.aload_n 0, 1) := by decide +kernel
theorem dX11_readingTrouble_6 : decode cX11_readingTrouble 6 = .ok (.getfield 11, 3) := by decide +kernel
theorem dX11_readingTrouble_9 : decode cX11_readingTrouble 9 = .ok (.iload_n 1, 1) := by decide +kernel
theorem dX11_readingTrouble_10 : decode cX11_readingTrouble 10 = .ok (.aaload, 1) := by decide +kernel
theorem dX11_readingTrouble_11 : decode cX11_readingTrouble 11 = .ok (.iload_n 2, 1) := by decide +kernel
theorem dX11_readingTrouble_12 : decode cX11_readingTrouble 12 = .ok (.invokevirtual 320, 3) := by decide +kernel
theorem dX11_readingTrouble_15 : decode cX11_readingTrouble 15 = .ok (.putfield 71, 3) := by decide +kernel
theorem dX11_readingTrouble_18 : decode cX11_readingTrouble 18 = .ok (.aload_n 0, 1) := by decide +kernel
theorem dX11_readingTrouble_19 : decode cX11_readingTrouble 19 = .ok (.getfield 71, 3) := by decide +kernel
theorem dX11_readingTrouble_22 : decode cX11_readingTrouble 22 = .ok (.iconst (-1), 1) := by decide +kernel
theorem dX11_readingTrouble_23 : decode cX11_readingTrouble 23 = .ok (.if_icmp .ne 7, 3) := by decide +kernel
theorem dX11_readingTrouble_26 : decode cX11_readingTrouble 26 = .ok (.iconst 0, 1) := by decide +kernel
theorem dX11_readingTrouble_27 : decode cX11_readingTrouble 27 = .ok (.goto 5, 3) := by decide +kernel
theorem dX11_readingTrouble_30 : decode cX11_readingTrouble 30 = .ok (.bipush (-6), 2) := by decide +kernel
theorem dX11_readingTrouble_32 : decode cX11_readingTrouble 32 = .ok (.ireturn, 1) := by decide +kernel
theorem dX11_tell_0 : decode cX11_tell 0 = .ok (.aload_n 0, 1) := by decide +kernel
theorem dX11_tell_1 : decode cX11_tell 1 = .ok (.getfield 18, 3) := by decide +kernel
theorem dX11_tell_4 : decode cX11_tell 4 = .ok (.iload_n 1, 1) := by decide +kernel
theorem dX11_tell_5 : decode cX11_tell 5 = .ok (.invokevirtual 324, 3) := by decide +kernel
theorem dX11_tell_8 : decode cX11_tell 8 = .ok (.ifCond .ne 10, 3) := by decide +kernel
theorem dX11_tell_11 : decode cX11_tell 11 = .ok (.aload_n 0, 1) := by decide +kernel
theorem dX11_tell_12 : decode cX11_tell 12 = .ok (.bipush (-7), 2) := by decide +kernel
theorem dX11_tell_14 : decode cX11_tell 14 = .ok (.invokevirtual 80, 3) := by decide +kernel
theorem dX11_tell_17 : decode cX11_tell 17 = .ok (.ireturn, 1) := by decide +kernel
theorem dX11_tell_18 : decode cX11_tell 18 = .ok (.aload_n 0, 1) := by decide +kernel
theorem dX11_tell_19 : decode cX11_tell 19 = .ok (.iconst 1, 1) := by decide +kernel
theorem dX11_tell_20 : decode cX11_tell 20 = .ok (.putfield 68, 3) := by decide +kernel
theorem dX11_tell_23 : decode cX11_tell 23 = .ok (.aload_n 0, 1) := by decide +kernel
theorem dX11_tell_24 : decode cX11_tell 24 = .ok (.getfield 18, 3) := by decide +kernel
theorem dX11_tell_27 : decode cX11_tell 27 = .ok (.iload_n 1, 1) := by decide +kernel
theorem dX11_tell_28 : decode cX11_tell 28 = .ok (.iload_n 2, 1) := by decide +kernel
theorem dX11_tell_29 : decode cX11_tell 29 = .ok (.iload_n 3, 1) := by decide +kernel
theorem dX11_tell_30 : decode cX11_tell 30 = .ok (.iload 4, 2) := by decide +kernel
theorem dX11_tell_32 : decode cX11_tell 32 = .ok (.iload 5, 2) := by decide +kernel
theorem dX11_tell_34 : decode cX11_tell 34 = .ok (.iload 6, 2) := by decide +kernel
theorem dX11_tell_36 : decode cX11_tell 36 = .ok (.invokevirtual 327, 3) := by decide +kernel
theorem dX11_tell_39 : decode cX11_tell 39 = .ok (.ireturn, 1) := by decide +kernel
theorem dX11_tellFrom_0 : decode cX11_tellFrom 0 = .ok (.aload_n 1, 1) := by decide +kernel
theorem dX11_tellFrom_1 : decode cX11_tellFrom 1 = .ok (.iload_n 2, 1) := by decide +kernel
theorem dX11_tellFrom_2 : decode cX11_tellFrom 2 = .ok (.invokevirtual 330, 3) := by decide +kernel
theorem dX11_tellFrom_5 : decode cX11_tellFrom 5 = .ok (.istore 4, 2) := by decide +kernel
theorem dX11_tellFrom_7 : decode cX11_tellFrom 7 = .ok (.aload_n 1, 1) := by decide +kernel
theorem dX11_tellFrom_8 : decode cX11_tellFrom 8 = .ok (.iload_n 2, 1) := by decide +kernel
theorem dX11_tellFrom_9 : decode cX11_tellFrom 9 = .ok (.iconst 1, 1) := by decide +kernel
theorem dX11_tellFrom_10 : decode cX11_tellFrom 10 = .ok (.iadd, 1) := by decide +kernel
theorem dX11_tellFrom_11 : decode cX11_tellFrom 11 = .ok (.invokevirtual 330, 3) := by decide +kernel
theorem dX11_tellFrom_14 : decode cX11_tellFrom 14 = .ok (.istore 5, 2) := by decide +kernel
theorem dX11_tellFrom_16 : decode cX11_tellFrom 16 = .ok (.aload_n 1, 1) := by decide +kernel
theorem dX11_tellFrom_17 : decode cX11_tellFrom 17 = .ok (.iload_n 2, 1) := by decide +kernel
theorem dX11_tellFrom_18 : decode cX11_tellFrom 18 = .ok (.iconst 2, 1) := by decide +kernel
theorem dX11_tellFrom_19 : decode cX11_tellFrom 19 = .ok (.iadd, 1) := by decide +kernel
theorem dX11_tellFrom_20 : decode cX11_tellFrom 20 = .ok (.invokevirtual 330, 3) := by decide +kernel
theorem dX11_tellFrom_23 : decode cX11_tellFrom 23 = .ok (.istore 6, 2) := by decide +kernel
theorem dX11_tellFrom_25 : decode cX11_tellFrom 25 = .ok (.aload_n 1, 1) := by decide +kernel
theorem dX11_tellFrom_26 : decode cX11_tellFrom 26 = .ok (.iload_n 2, 1) := by decide +kernel
theorem dX11_tellFrom_27 : decode cX11_tellFrom 27 = .ok (.iconst 3, 1) := by decide +kernel
theorem dX11_tellFrom_28 : decode cX11_tellFrom 28 = .ok (.iadd, 1) := by decide +kernel
theorem dX11_tellFrom_29 : decode cX11_tellFrom 29 = .ok (.invokevirtual 330, 3) := by decide +kernel
theorem dX11_tellFrom_32 : decode cX11_tellFrom 32 = .ok (.istore 7, 2) := by decide +kernel
theorem dX11_tellFrom_34 : decode cX11_tellFrom 34 = .ok (.aload_n 1, 1) := by decide +kernel
theorem dX11_tellFrom_35 : decode cX11_tellFrom 35 = .ok (.iload_n 2, 1) := by decide +kernel
theorem dX11_tellFrom_36 : decode cX11_tellFrom 36 = .ok (.iconst 4, 1) := by decide +kernel
theorem dX11_tellFrom_37 : decode cX11_tellFrom 37 = .ok (.iadd, 1) := by decide +kernel
theorem dX11_tellFrom_38 : decode cX11_tellFrom 38 = .ok (.invokevirtual 330, 3) := by decide +kernel
theorem dX11_tellFrom_41 : decode cX11_tellFrom 41 = .ok (.istore 8, 2) := by decide +kernel
theorem dX11_tellFrom_43 : decode cX11_tellFrom 43 = .ok (.iload 4, 2) := by decide +kernel
theorem dX11_tellFrom_45 : decode cX11_tellFrom 45 = .ok (.invokestatic 134, 3) := by decide +kernel
theorem dX11_tellFrom_48 : decode cX11_tellFrom 48 = .ok (.ifCond .eq 25, 3) := by decide +kernel
theorem dX11_tellFrom_51 : decode cX11_tellFrom 51 = .ok (.iload 6, 2) := by decide +kernel
theorem dX11_tellFrom_53 : decode cX11_tellFrom 53 = .ok (.iload 7, 2) := by decide +kernel
theorem dX11_tellFrom_55 : decode cX11_tellFrom 55 = .ok (.invokestatic 204, 3) := by decide +kernel
theorem dX11_tellFrom_58 : decode cX11_tellFrom 58 = .ok (.ifCond .eq 15, 3) := by decide +kernel
theorem dX11_tellFrom_61 : decode cX11_tellFrom 61 = .ok (.iload 4, 2) := by decide +kernel
theorem dX11_tellFrom_63 : decode cX11_tellFrom 63 = .ok (.ifCond .ne 12, 3) := by decide +kernel
theorem dX11_tellFrom_66 : decode cX11_tellFrom 66 = .ok (.iload 6, 2) := by decide +kernel
theorem dX11_tellFrom_68 : decode cX11_tellFrom 68 = .ok (.iload 7, 2) := by decide +kernel
theorem dX11_tellFrom_70 : decode cX11_tellFrom 70 = .ok (.if_icmp .eq 5, 3) := by decide +kernel
theorem dX11_tellFrom_73 : decode cX11_tellFrom 73 = .ok (.iconst 0, 1) := by decide +kernel
theorem dX11_tellFrom_74 : decode cX11_tellFrom 74 = .ok (.ireturn, 1) := by decide +kernel
theorem dX11_tellFrom_75 : decode cX11_tellFrom 75 = .ok (.iload 4, 2) := by decide +kernel
theorem dX11_tellFrom_77 : decode cX11_tellFrom 77 = .ok (.iconst 2, 1) := by decide +kernel
theorem dX11_tellFrom_78 : decode cX11_tellFrom 78 = .ok (.if_icmp .ne 31, 3) := by decide +kernel
theorem dX11_tellFrom_81 : decode cX11_tellFrom 81 = .ok (.aload_n 0, 1) := by decide +kernel
theorem dX11_tellFrom_82 : decode cX11_tellFrom 82 = .ok (.iload 5, 2) := by decide +kernel
theorem dX11_tellFrom_84 : decode cX11_tellFrom 84 = .ok (.invokevirtual 207, 3) := by decide +kernel
theorem dX11_tellFrom_87 : decode cX11_tellFrom 87 = .ok (.ifCond .eq 18, 3) := by decide +kernel
theorem dX11_tellFrom_90 : decode cX11_tellFrom 90 = .ok (.aload_n 0, 1) := by decide +kernel
theorem dX11_tellFrom_91 : decode cX11_tellFrom 91 = .ok (.iload 5, 2) := by decide +kernel
theorem dX11_tellFrom_93 : decode cX11_tellFrom 93 = .ok (.iload 8, 2) := by decide +kernel
theorem dX11_tellFrom_95 : decode cX11_tellFrom 95 = .ok (.invokevirtual 210, 3) := by decide +kernel
theorem dX11_tellFrom_98 : decode cX11_tellFrom 98 = .ok (.ifCond .eq 7, 3) := by decide +kernel
theorem dX11_tellFrom_101 : decode cX11_tellFrom 101 = .ok (.iconst 1, 1) := by decide +kernel
theorem dX11_tellFrom_102 : decode cX11_tellFrom 102 = .ok (.goto 13, 3) := by decide +kernel
theorem dX11_tellFrom_105 : decode cX11_tellFrom 105 = .ok (.iconst 0, 1) := by decide +kernel
theorem dX11_tellFrom_106 : decode cX11_tellFrom 106 = .ok (.goto 9, 3) := by decide +kernel
theorem dX11_tellFrom_109 : decode cX11_tellFrom 109 = .ok (.aload_n 0, 1) := by decide +kernel
theorem dX11_tellFrom_110 : decode cX11_tellFrom 110 = .ok (.iload 5, 2) := by decide +kernel
theorem dX11_tellFrom_112 : decode cX11_tellFrom 112 = .ok (.invokevirtual 181, 3) := by decide +kernel
theorem dX11_tellFrom_115 : decode cX11_tellFrom 115 = .ok (.istore 9, 2) := by decide +kernel
theorem dX11_tellFrom_117 : decode cX11_tellFrom 117 = .ok (.iload 9, 2) := by decide +kernel
theorem dX11_tellFrom_119 : decode cX11_tellFrom 119 = .ok (.ifCond .eq 15, 3) := by decide +kernel
theorem dX11_tellFrom_122 : decode cX11_tellFrom 122 = .ok (.aload_n 0, 1) := by decide +kernel
theorem dX11_tellFrom_123 : decode cX11_tellFrom 123 = .ok (.getfield 18, 3) := by decide +kernel
theorem dX11_tellFrom_126 : decode cX11_tellFrom 126 = .ok (.iload 4, 2) := by decide +kernel
theorem dX11_tellFrom_128 : decode cX11_tellFrom 128 = .ok (.invokevirtual 324, 3) := by decide +kernel
theorem dX11_tellFrom_131 : decode cX11_tellFrom 131 = .ok (.ifCond .ne 5, 3) := by decide +kernel
theorem dX11_tellFrom_134 : decode cX11_tellFrom 134 = .ok (.iconst 0, 1) := by decide +kernel
theorem dX11_tellFrom_135 : decode cX11_tellFrom 135 = .ok (.ireturn, 1) := by decide +kernel
theorem dX11_tellFrom_136 : decode cX11_tellFrom 136 = .ok (.aload_n 0, 1) := by decide +kernel
theorem dX11_tellFrom_137 : decode cX11_tellFrom 137 = .ok (.iload 4, 2) := by decide +kernel
theorem dX11_tellFrom_139 : decode cX11_tellFrom 139 = .ok (.iload 5, 2) := by decide +kernel
theorem dX11_tellFrom_141 : decode cX11_tellFrom 141 = .ok (.iload 6, 2) := by decide +kernel
theorem dX11_tellFrom_143 : decode cX11_tellFrom 143 = .ok (.iload 7, 2) := by decide +kernel
theorem dX11_tellFrom_145 : decode cX11_tellFrom 145 = .ok (.iload 4, 2) := by decide +kernel
theorem dX11_tellFrom_147 : decode cX11_tellFrom 147 = .ok (.iconst 2, 1) := by decide +kernel
theorem dX11_tellFrom_148 : decode cX11_tellFrom 148 = .ok (.if_icmp .ne 8, 3) := by decide +kernel
theorem dX11_tellFrom_151 : decode cX11_tellFrom 151 = .ok (.iload 8, 2) := by decide +kernel
theorem dX11_tellFrom_153 : decode cX11_tellFrom 153 = .ok (.goto 4, 3) := by decide +kernel
theorem dX11_tellFrom_156 : decode cX11_tellFrom 156 = .ok (.iconst 0, 1) := by decide +kernel
theorem dX11_tellFrom_157 : decode cX11_tellFrom 157 = .ok (.iload_n 3, 1) := by decide +kernel
theorem dX11_tellFrom_158 : decode cX11_tellFrom 158 = .ok (.invokevirtual 200, 3) := by decide +kernel
theorem dX11_tellFrom_161 : decode cX11_tellFrom 161 = .ok (.pop, 1) := by decide +kernel
theorem dX11_tellFrom_162 : decode cX11_tellFrom 162 = .ok (.iconst 1, 1) := by decide +kernel
theorem dX11_tellFrom_163 : decode cX11_tellFrom 163 = .ok (.ireturn, 1) := by decide +kernel
theorem dX11_current_0 : decode cX11_current 0 = .ok (.aload_n 0, 1) := by decide +kernel
theorem dX11_current_1 : decode cX11_current 1 = .ok (.invokevirtual 333, 3) := by decide +kernel
theorem dX11_current_4 : decode cX11_current 4 = .ok (.aload_n 0, 1) := by decide +kernel
theorem dX11_current_5 : decode cX11_current 5 = .ok (.getfield 68, 3) := by decide +kernel
theorem dX11_current_8 : decode cX11_current 8 = .ok (.ifCond .eq 35, 3) := by decide +kernel
theorem dX11_current_11 : decode cX11_current 11 = .ok (.aload_n 0, 1) := by decide +kernel
theorem dX11_current_12 : decode cX11_current 12 = .ok (.iconst 0, 1) := by decide +kernel
theorem dX11_current_13 : decode cX11_current 13 = .ok (.putfield 68, 3) := by decide +kernel
theorem dX11_current_16 : decode cX11_current 16 = .ok (.aload_n 0, 1) := by decide +kernel
theorem dX11_current_17 : decode cX11_current 17 = .ok (.getfield 46, 3) := by decide +kernel
theorem dX11_current_20 : decode cX11_current 20 = .ok (.aload_n 0, 1) := by decide +kernel
theorem dX11_current_21 : decode cX11_current 21 = .ok (.getfield 18, 3) := by decide +kernel
theorem dX11_current_24 : decode cX11_current 24 = .ok (.invokevirtual 256, 3) := by decide +kernel
theorem dX11_current_27 : decode cX11_current 27 = .ok (.iconst (-1), 1) := by decide +kernel
theorem dX11_current_28 : decode cX11_current 28 = .ok (.iconst (-1), 1) := by decide +kernel
theorem dX11_current_29 : decode cX11_current 29 = .ok (.invokevirtual 267, 3) := by decide +kernel
theorem dX11_current_32 : decode cX11_current 32 = .ok (.ifCond .eq 11, 3) := by decide +kernel
theorem dX11_current_35 : decode cX11_current 35 = .ok (.aload_n 0, 1) := by decide +kernel
theorem dX11_current_36 : decode cX11_current 36 = .ok (.getfield 46, 3) := by decide +kernel
theorem dX11_current_39 : decode cX11_current 39 = .ok (.iconst 0, 1) := by decide +kernel
theorem dX11_current_40 : decode cX11_current 40 = .ok (.invokevirtual 336, 3) := by decide +kernel
theorem dX11_current_43 : decode cX11_current 43 = .ok (.aload_n 0, 1) := by decide +kernel
theorem dX11_current_44 : decode cX11_current 44 = .ok (.getfield 46, 3) := by decide +kernel
theorem dX11_current_47 : decode cX11_current 47 = .ok (.areturn, 1) := by decide +kernel
theorem dX11_freshenTruth_0 : decode cX11_freshenTruth 0 = .ok (.aload_n 0, 1) := by decide +kernel
theorem dX11_freshenTruth_1 : decode cX11_freshenTruth 1 = .ok (.getfield 65, 3) := by decide +kernel
theorem dX11_freshenTruth_4 : decode cX11_freshenTruth 4 = .ok (.ifCond .eq 23, 3) := by decide +kernel
theorem dX11_freshenTruth_7 : decode cX11_freshenTruth 7 = .ok (.aload_n 0, 1) := by decide +kernel
theorem dX11_freshenTruth_8 : decode cX11_freshenTruth 8 = .ok (.iconst 0, 1) := by decide +kernel
theorem dX11_freshenTruth_9 : decode cX11_freshenTruth 9 = .ok (.putfield 65, 3) := by decide +kernel
theorem dX11_freshenTruth_12 : decode cX11_freshenTruth 12 = .ok (.aload_n 0, 1) := by decide +kernel
theorem dX11_freshenTruth_13 : decode cX11_freshenTruth 13 = .ok (.getfield 18, 3) := by decide +kernel
theorem dX11_freshenTruth_16 : decode cX11_freshenTruth 16 = .ok (.aload_n 0, 1) := by decide +kernel
theorem dX11_freshenTruth_17 : decode cX11_freshenTruth 17 = .ok (.getfield 34, 3) := by decide +kernel
theorem dX11_freshenTruth_20 : decode cX11_freshenTruth 20 = .ok (.aload_n 0, 1) := by decide +kernel
theorem dX11_freshenTruth_21 : decode cX11_freshenTruth 21 = .ok (.getfield 38, 3) := by decide +kernel
theorem dX11_freshenTruth_24 : decode cX11_freshenTruth 24 = .ok (.invokevirtual 339, 3) := by decide +kernel
theorem dX11_freshenTruth_27 : decode cX11_freshenTruth 27 = .ok (.return_, 1) := by decide +kernel
theorem dX11_seems_0 : decode cX11_seems 0 = .ok (.aload_n 0, 1) := by decide +kernel
theorem dX11_seems_1 : decode cX11_seems 1 = .ok (.invokevirtual 333, 3) := by decide +kernel
theorem dX11_seems_4 : decode cX11_seems 4 = .ok (.aload_n 0, 1) := by decide +kernel
theorem dX11_seems_5 : decode cX11_seems 5 = .ok (.getfield 50, 3) := by decide +kernel
theorem dX11_seems_8 : decode cX11_seems 8 = .ok (.iload_n 1, 1) := by decide +kernel
theorem dX11_seems_9 : decode cX11_seems 9 = .ok (.iconst (-1), 1) := by decide +kernel
theorem dX11_seems_10 : decode cX11_seems 10 = .ok (.iconst (-1), 1) := by decide +kernel
theorem dX11_seems_11 : decode cX11_seems 11 = .ok (.invokevirtual 267, 3) := by decide +kernel
theorem dX11_seems_14 : decode cX11_seems 14 = .ok (.ifCond .ne 5, 3) := by decide +kernel
theorem dX11_seems_17 : decode cX11_seems 17 = .ok (.iconst (-1), 1) := by decide +kernel
theorem dX11_seems_18 : decode cX11_seems 18 = .ok (.ireturn, 1) := by decide +kernel
theorem dX11_seems_19 : decode cX11_seems 19 = .ok (.aload_n 0, 1) := by decide +kernel
theorem dX11_seems_20 : decode cX11_seems 20 = .ok (.getfield 50, 3) := by decide +kernel
theorem dX11_seems_23 : decode cX11_seems 23 = .ok (.iload_n 3, 1) := by decide +kernel
theorem dX11_seems_24 : decode cX11_seems 24 = .ok (.invokevirtual 336, 3) := by decide +kernel
theorem dX11_seems_27 : decode cX11_seems 27 = .ok (.aload_n 0, 1) := by decide +kernel
theorem dX11_seems_28 : decode cX11_seems 28 = .ok (.getfield 50, 3) := by decide +kernel
theorem dX11_seems_31 : decode cX11_seems 31 = .ok (.iload_n 2, 1) := by decide +kernel
theorem dX11_seems_32 : decode cX11_seems 32 = .ok (.iload_n 3, 1) := by decide +kernel
theorem dX11_seems_33 : decode cX11_seems 33 = .ok (.invokevirtual 243, 3) := by decide +kernel
theorem dX11_seems_36 : decode cX11_seems 36 = .ok (.ireturn, 1) := by decide +kernel
theorem dX11_wouldBring_0 : decode cX11_wouldBring 0 = .ok (.aload_n 0, 1) := by decide +kernel
theorem dX11_wouldBring_1 : decode cX11_wouldBring 1 = .ok (.getfield 18, 3) := by decide +kernel
theorem dX11_wouldBring_4 : decode cX11_wouldBring 4 = .ok (.iload_n 2, 1) := by decide +kernel
theorem dX11_wouldBring_5 : decode cX11_wouldBring 5 = .ok (.invokevirtual 343, 3) := by decide +kernel
theorem dX11_wouldBring_8 : decode cX11_wouldBring 8 = .ok (.ifCond .ne 18, 3) := by decide +kernel
theorem dX11_wouldBring_11 : decode cX11_wouldBring 11 = .ok (.aload_n 0, 1) := by decide +kernel
theorem dX11_wouldBring_12 : decode cX11_wouldBring 12 = .ok (.getfield 46, 3) := by decide +kernel
theorem dX11_wouldBring_15 : decode cX11_wouldBring 15 = .ok (.bipush 10, 2) := by decide +kernel
theorem dX11_wouldBring_17 : decode cX11_wouldBring 17 = .ok (.iload_n 1, 1) := by decide +kernel
theorem dX11_wouldBring_18 : decode cX11_wouldBring 18 = .ok (.iadd, 1) := by decide +kernel
theorem dX11_wouldBring_19 : decode cX11_wouldBring 19 = .ok (.iload_n 2, 1) := by decide +kernel
theorem dX11_wouldBring_20 : decode cX11_wouldBring 20 = .ok (.invokevirtual 346, 3) := by decide +kernel
theorem dX11_wouldBring_23 : decode cX11_wouldBring 23 = .ok (.ifCond .ne 5, 3) := by decide +kernel
theorem dX11_wouldBring_26 : decode cX11_wouldBring 26 = .ok (.iconst 0, 1) := by decide +kernel
theorem dX11_wouldBring_27 : decode cX11_wouldBring 27 = .ok (.ireturn, 1) := by decide +kernel
theorem dX11_wouldBring_28 : decode cX11_wouldBring 28 = .ok (.aload_n 0, 1) := by decide +kernel
theorem dX11_wouldBring_29 : decode cX11_wouldBring 29 = .ok (.getfield 50, 3) := by decide +kernel
theorem dX11_wouldBring_32 : decode cX11_wouldBring 32 = .ok (.aload_n 0, 1) := by decide +kernel
theorem dX11_wouldBring_33 : decode cX11_wouldBring 33 = .ok (.getfield 18, 3) := by decide +kernel
theorem dX11_wouldBring_36 : decode cX11_wouldBring 36 = .ok (.invokevirtual 256, 3) := by decide +kernel
theorem dX11_wouldBring_39 : decode cX11_wouldBring 39 = .ok (.iload_n 1, 1) := by decide +kernel
theorem dX11_wouldBring_40 : decode cX11_wouldBring 40 = .ok (.iload_n 2, 1) := by decide +kernel
theorem dX11_wouldBring_41 : decode cX11_wouldBring 41 = .ok (.invokevirtual 267, 3) := by decide +kernel
theorem dX11_wouldBring_44 : decode cX11_wouldBring 44 = .ok (.ifCond .ne 5, 3) := by decide +kernel
theorem dX11_wouldBring_47 : decode cX11_wouldBring 47 = .ok (.iconst 0, 1) := by decide +kernel
theorem dX11_wouldBring_48 : decode cX11_wouldBring 48 = .ok (.ireturn, 1) := by decide +kernel
theorem dX11_wouldBring_49 : decode cX11_wouldBring 49 = .ok (.aload_n 0, 1) := by decide +kernel
theorem dX11_wouldBring_50 : decode cX11_wouldBring 50 = .ok (.getfield 50, 3) := by decide +kernel
theorem dX11_wouldBring_53 : decode cX11_wouldBring 53 = .ok (.iload 4, 2) := by decide +kernel
theorem dX11_wouldBring_55 : decode cX11_wouldBring 55 = .ok (.invokevirtual 336, 3) := by decide +kernel
theorem dX11_wouldBring_58 : decode cX11_wouldBring 58 = .ok (.aload_n 0, 1) := by decide +kernel
theorem dX11_wouldBring_59 : decode cX11_wouldBring 59 = .ok (.getfield 50, 3) := by decide +kernel
theorem dX11_wouldBring_62 : decode cX11_wouldBring 62 = .ok (.iload_n 3, 1) := by decide +kernel
theorem dX11_wouldBring_63 : decode cX11_wouldBring 63 = .ok (.iload 4, 2) := by decide +kernel
theorem dX11_wouldBring_65 : decode cX11_wouldBring 65 = .ok (.invokevirtual 243, 3) := by decide +kernel
theorem dX11_wouldBring_68 : decode cX11_wouldBring 68 = .ok (.iconst 1, 1) := by decide +kernel
theorem dX11_wouldBring_69 : decode cX11_wouldBring 69 = .ok (.if_icmp .ne 7, 3) := by decide +kernel
theorem dX11_wouldBring_72 : decode cX11_wouldBring 72 = .ok (.iconst 1, 1) := by decide +kernel
theorem dX11_wouldBring_73 : decode cX11_wouldBring 73 = .ok (.goto 4, 3) := by decide +kernel
theorem dX11_wouldBring_76 : decode cX11_wouldBring 76 = .ok (.iconst 0, 1) := by decide +kernel
theorem dX11_wouldBring_77 : decode cX11_wouldBring 77 = .ok (.ireturn, 1) := by decide +kernel
theorem dX11_inSome_0 : decode cX11_inSome 0 = .ok (.iload_n 0, 1) := by decide +kernel
theorem dX11_inSome_1 : decode cX11_inSome 1 = .ok (.ifCond .ne 5, 3) := by decide +kernel
theorem dX11_inSome_4 : decode cX11_inSome 4 = .ok (.iconst (-1), 1) := by decide +kernel
theorem dX11_inSome_5 : decode cX11_inSome 5 = .ok (.ireturn, 1) := by decide +kernel
theorem dX11_inSome_6 : decode cX11_inSome 6 = .ok (.iload_n 0, 1) := by decide +kernel
theorem dX11_inSome_7 : decode cX11_inSome 7 = .ok (.iconst 1, 1) := by decide +kernel
theorem dX11_inSome_8 : decode cX11_inSome 8 = .ok (.iand, 1) := by decide +kernel
theorem dX11_inSome_9 : decode cX11_inSome 9 = .ok (.ifCond .ne 5, 3) := by decide +kernel
theorem dX11_inSome_12 : decode cX11_inSome 12 = .ok (.iconst 1, 1) := by decide +kernel
theorem dX11_inSome_13 : decode cX11_inSome 13 = .ok (.ireturn, 1) := by decide +kernel
theorem dX11_inSome_14 : decode cX11_inSome 14 = .ok (.iload_n 0, 1) := by decide +kernel
theorem dX11_inSome_15 : decode cX11_inSome 15 = .ok (.iconst 1, 1) := by decide +kernel
theorem dX11_inSome_16 : decode cX11_inSome 16 = .ok (.if_icmp .ne 7, 3) := by decide +kernel
theorem dX11_inSome_19 : decode cX11_inSome 19 = .ok (.iconst 0, 1) := by decide +kernel
theorem dX11_inSome_20 : decode cX11_inSome 20 = .ok (.goto 4, 3) := by decide +kernel
theorem dX11_inSome_23 : decode cX11_inSome 23 = .ok (.iconst 2, 1) := by decide +kernel
theorem dX11_inSome_24 : decode cX11_inSome 24 = .ok (.ireturn, 1) := by decide +kernel
theorem dX11_joined_0 : decode cX11_joined 0 = .ok (.iconst 0, 1) := by decide +kernel
theorem dX11_joined_1 : decode cX11_joined 1 = .ok (.istore_n 2, 1) := by decide +kernel
theorem dX11_joined_2 : decode cX11_joined 2 = .ok (.iconst 0, 1) := by decide +kernel
theorem dX11_joined_3 : decode cX11_joined 3 = .ok (.istore_n 3, 1) := by decide +kernel
theorem dX11_joined_4 : decode cX11_joined 4 = .ok (.bipush 12, 2) := by decide +kernel
theorem dX11_joined_6 : decode cX11_joined 6 = .ok (.istore 4, 2) := by decide +kernel
theorem dX11_joined_8 : decode cX11_joined 8 = .ok (.iload 4, 2) := by decide +kernel
theorem dX11_joined_10 : decode cX11_joined 10 = .ok (.ifCond .lt 28, 3) := by decide +kernel
theorem dX11_joined_13 : decode cX11_joined 13 = .ok (.iload_n 0, 1) := by decide +kernel
theorem dX11_joined_14 : decode cX11_joined 14 = .ok (.iload 4, 2) := by decide +kernel
theorem dX11_joined_16 : decode cX11_joined 16 = .ok (.ishr, 1) := by decide +kernel
theorem dX11_joined_17 : decode cX11_joined 17 = .ok (.iconst 1, 1) := by decide +kernel
theorem dX11_joined_18 : decode cX11_joined 18 = .ok (.iand, 1) := by decide +kernel
theorem dX11_joined_19 : decode cX11_joined 19 = .ok (.ifCond .eq 13, 3) := by decide +kernel
theorem dX11_joined_22 : decode cX11_joined 22 = .ok (.iload_n 2, 1) := by decide +kernel
theorem dX11_joined_23 : decode cX11_joined 23 = .ok (.iload 4, 2) := by decide +kernel
theorem dX11_joined_25 : decode cX11_joined 25 = .ok (.invokestatic 349, 3) := by decide +kernel
theorem dX11_joined_28 : decode cX11_joined 28 = .ok (.istore_n 2, 1) := by decide +kernel
theorem dX11_joined_29 : decode cX11_joined 29 = .ok (.iload 4, 2) := by decide +kernel
theorem dX11_joined_31 : decode cX11_joined 31 = .ok (.istore_n 3, 1) := by decide +kernel
theorem dX11_joined_32 : decode cX11_joined 32 = .ok (.iinc 4 (-1), 3) := by decide +kernel
theorem dX11_joined_35 : decode cX11_joined 35 = .ok (.goto (-27), 3) := by decide +kernel
theorem dX11_joined_38 : decode cX11_joined 38 = .ok (.iload_n 1, 1) := by decide +kernel
theorem dX11_joined_39 : decode cX11_joined 39 = .ok (.iload_n 2, 1) := by decide +kernel
theorem dX11_joined_40 : decode cX11_joined 40 = .ok (.imul, 1) := by decide +kernel
theorem dX11_joined_41 : decode cX11_joined 41 = .ok (.iload_n 3, 1) := by decide +kernel
theorem dX11_joined_42 : decode cX11_joined 42 = .ok (.iadd, 1) := by decide +kernel
theorem dX11_joined_43 : decode cX11_joined 43 = .ok (.ireturn, 1) := by decide +kernel
