theorem dX0_init_0 : decode cX0_init 0 = .ok (.aload_n 0, 1) := by decide +kernel
theorem dX0_init_1 : decode cX0_init 1 = .ok (.invokespecial 3, 3) := by decide +kernel
theorem dX0_init_4 : decode cX0_init 4 = .ok (.aload_n 0, 1) := by decide +kernel
theorem dX0_init_5 : decode cX0_init 5 = .ok (.bipush 12, 2) := by decide +kernel
theorem dX0_init_7 : decode cX0_init 7 = .ok (.newarray .int, 2) := by decide +kernel
theorem dX0_init_9 : decode cX0_init 9 = .ok (.putfield 9, 3) := by decide +kernel
theorem dX0_init_12 : decode cX0_init 12 = .ok (.aload_n 0, 1) := by decide +kernel
theorem dX0_init_13 : decode cX0_init 13 = .ok (.bipush 12, 2) := by decide +kernel
theorem dX0_init_15 : decode cX0_init 15 = .ok (.newarray .int, 2) := by decide +kernel
theorem dX0_init_17 : decode cX0_init 17 = .ok (.putfield 15, 3) := by decide +kernel
theorem dX0_init_20 : decode cX0_init 20 = .ok (.aload_n 0, 1) := by decide +kernel
theorem dX0_init_21 : decode cX0_init 21 = .ok (.bipush 12, 2) := by decide +kernel
theorem dX0_init_23 : decode cX0_init 23 = .ok (.newarray .int, 2) := by decide +kernel
theorem dX0_init_25 : decode cX0_init 25 = .ok (.putfield 18, 3) := by decide +kernel
theorem dX0_init_28 : decode cX0_init 28 = .ok (.aload_n 0, 1) := by decide +kernel
theorem dX0_init_29 : decode cX0_init 29 = .ok (.bipush 12, 2) := by decide +kernel
theorem dX0_init_31 : decode cX0_init 31 = .ok (.newarray .int, 2) := by decide +kernel
theorem dX0_init_33 : decode cX0_init 33 = .ok (.putfield 21, 3) := by decide +kernel
theorem dX0_init_36 : decode cX0_init 36 = .ok (.aload_n 0, 1) := by decide +kernel
theorem dX0_init_37 : decode cX0_init 37 = .ok (.bipush 12, 2) := by decide +kernel
theorem dX0_init_39 : decode cX0_init 39 = .ok (.newarray .int, 2) := by decide +kernel
theorem dX0_init_41 : decode cX0_init 41 = .ok (.putfield 24, 3) := by decide +kernel
theorem dX0_init_44 : decode cX0_init 44 = .ok (.aload_n 0, 1) := by decide +kernel
theorem dX0_init_45 : decode cX0_init 45 = .ok (.bipush 84, 2) := by decide +kernel
theorem dX0_init_47 : decode cX0_init 47 = .ok (.newarray .int, 2) := by decide +kernel
theorem dX0_init_49 : decode cX0_init 49 = .ok (.putfield 27, 3) := by decide +kernel
theorem dX0_init_52 : decode cX0_init 52 = .ok (.aload_n 0, 1) := by decide +kernel
theorem dX0_init_53 : decode cX0_init 53 = .ok (.bipush 12, 2) := by decide +kernel
theorem dX0_init_55 : decode cX0_init 55 = .ok (.newarray .int, 2) := by decide +kernel
theorem dX0_init_57 : decode cX0_init 57 = .ok (.putfield 30, 3) := by decide +kernel
theorem dX0_init_60 : decode cX0_init 60 = .ok (.aload_n 0, 1) := by decide +kernel
theorem dX0_init_61 : decode cX0_init 61 = .ok (.iconst 0, 1) := by decide +kernel
theorem dX0_init_62 : decode cX0_init 62 = .ok (.putfield 33, 3) := by decide +kernel
theorem dX0_init_65 : decode cX0_init 65 = .ok (.aload_n 0, 1) := by decide +kernel
theorem dX0_init_66 : decode cX0_init 66 = .ok (.aload_n 1, 1) := by decide +kernel
theorem dX0_init_67 : decode cX0_init 67 = .ok (.putfield 37, 3) := by decide +kernel
theorem dX0_init_70 : decode cX0_init 70 = .ok (.return_, 1) := by decide +kernel
theorem dX0_gather_0 : decode cX0_gather 0 = .ok (.aload_n 0, 1) := by decide +kernel
theorem dX0_gather_1 : decode cX0_gather 1 = .ok (.getfield 9, 3) := by decide +kernel
theorem dX0_gather_4 : decode cX0_gather 4 = .ok (.iconst 0, 1) := by decide +kernel
theorem dX0_gather_5 : decode cX0_gather 5 = .ok (.invokestatic 41, 3) := by decide +kernel
theorem dX0_gather_8 : decode cX0_gather 8 = .ok (.aload_n 0, 1) := by decide +kernel
theorem dX0_gather_9 : decode cX0_gather 9 = .ok (.getfield 15, 3) := by decide +kernel
theorem dX0_gather_12 : decode cX0_gather 12 = .ok (.iconst 0, 1) := by decide +kernel
theorem dX0_gather_13 : decode cX0_gather 13 = .ok (.invokestatic 41, 3) := by decide +kernel
theorem dX0_gather_16 : decode cX0_gather 16 = .ok (.aload_n 0, 1) := by decide +kernel
theorem dX0_gather_17 : decode cX0_gather 17 = .ok (.getfield 18, 3) := by decide +kernel
theorem dX0_gather_20 : decode cX0_gather 20 = .ok (.sipush 255, 3) := by decide +kernel
theorem dX0_gather_23 : decode cX0_gather 23 = .ok (.invokestatic 41, 3) := by decide +kernel
theorem dX0_gather_26 : decode cX0_gather 26 = .ok (.aload_n 0, 1) := by decide +kernel
theorem dX0_gather_27 : decode cX0_gather 27 = .ok (.getfield 21, 3) := by decide +kernel
theorem dX0_gather_30 : decode cX0_gather 30 = .ok (.bipush 64, 2) := by decide +kernel
theorem dX0_gather_32 : decode cX0_gather 32 = .ok (.iconst 1, 1) := by decide +kernel
theorem dX0_gather_33 : decode cX0_gather 33 = .ok (.aload_n 0, 1) := by decide +kernel
theorem dX0_gather_34 : decode cX0_gather 34 = .ok (.getfield 37, 3) := by decide +kernel
theorem dX0_gather_37 : decode cX0_gather 37 = .ok (.getfield 47, 3) := by decide +kernel
theorem dX0_gather_40 : decode cX0_gather 40 = .ok (.ishl, 1) := by decide +kernel
theorem dX0_gather_41 : decode cX0_gather 41 = .ok (.iconst 1, 1) := by decide +kernel
theorem dX0_gather_42 : decode cX0_gather 42 = .ok (.isub, 1) := by decide +kernel
theorem dX0_gather_43 : decode cX0_gather 43 = .ok (.ior, 1) := by decide +kernel
theorem dX0_gather_44 : decode cX0_gather 44 = .ok (.invokestatic 41, 3) := by decide +kernel
theorem dX0_gather_47 : decode cX0_gather 47 = .ok (.aload_n 0, 1) := by decide +kernel
theorem dX0_gather_48 : decode cX0_gather 48 = .ok (.getfield 24, 3) := by decide +kernel
theorem dX0_gather_51 : decode cX0_gather 51 = .ok (.iconst 0, 1) := by decide +kernel
theorem dX0_gather_52 : decode cX0_gather 52 = .ok (.invokestatic 41, 3) := by decide +kernel
theorem dX0_gather_55 : decode cX0_gather 55 = .ok (.aload_n 0, 1) := by decide +kernel
theorem dX0_gather_56 : decode cX0_gather 56 = .ok (.getfield 27, 3) := by decide +kernel
theorem dX0_gather_59 : decode cX0_gather 59 = .ok (.iconst 0, 1) := by decide +kernel
theorem dX0_gather_60 : decode cX0_gather 60 = .ok (.invokestatic 41, 3) := by decide +kernel
theorem dX0_gather_63 : decode cX0_gather 63 = .ok (.aload_n 0, 1) := by decide +kernel
theorem dX0_gather_64 : decode cX0_gather 64 = .ok (.getfield 30, 3) := by decide +kernel
theorem dX0_gather_67 : decode cX0_gather 67 = .ok (.iconst 0, 1) := by decide +kernel
theorem dX0_gather_68 : decode cX0_gather 68 = .ok (.invokestatic 41, 3) := by decide +kernel
theorem dX0_gather_71 : decode cX0_gather 71 = .ok (.aload_n 0, 1) := by decide +kernel
theorem dX0_gather_72 : decode cX0_gather 72 = .ok (.iconst 0, 1) := by decide +kernel
theorem dX0_gather_73 : decode cX0_gather 73 = .ok (.putfield 33, 3) := by decide +kernel
theorem dX0_gather_76 : decode cX0_gather 76 = .ok (.iconst 0, 1) := by decide +kernel
theorem dX0_gather_77 : decode cX0_gather 77 = .ok (.istore_n 2, 1) := by decide +kernel
theorem dX0_gather_78 : decode cX0_gather 78 = .ok (.iload_n 2, 1) := by decide +kernel
theorem dX0_gather_79 : decode cX0_gather 79 = .ok (.aload_n 0, 1) := by decide +kernel
theorem dX0_gather_80 : decode cX0_gather 80 = .ok (.getfield 37, 3) := by decide +kernel
theorem dX0_gather_83 : decode cX0_gather 83 = .ok (.getfield 52, 3) := by decide +kernel
theorem dX0_gather_86 : decode cX0_gather 86 = .ok (.if_icmp .ge 36, 3) := by decide +kernel
theorem dX0_gather_89 : decode cX0_gather 89 = .ok (.aload_n 0, 1) := by decide +kernel
theorem dX0_gather_90 : decode cX0_gather 90 = .ok (.getfield 37, 3) := by decide +kernel
theorem dX0_gather_93 : decode cX0_gather 93 = .ok (.getfield 55, 3) := by decide +kernel
theorem dX0_gather_96 : decode cX0_gather 96 = .ok (.iload_n 2, 1) := by decide +kernel
theorem dX0_gather_97 : decode cX0_gather 97 = .ok (.aaload, 1) := by decide +kernel
theorem dX0_gather_98 : decode cX0_gather 98 = .ok (.astore_n 3, 1) := by decide +kernel
theorem dX0_gather_99 : decode cX0_gather 99 = .ok (.aload_n 3, 1) := by decide +kernel
theorem dX0_gather_100 : decode cX0_gather 100 = .ok (.ifnull 16, 3) := by decide +kernel
theorem dX0_gather_103 : decode cX0_gather 103 = .ok (.iload_n 1, 1) := by decide +kernel
theorem dX0_gather_104 : decode cX0_gather 104 = .ok (.iload_n 2, 1) := by decide +kernel
theorem dX0_gather_105 : decode cX0_gather 105 = .ok (.ishr, 1) := by decide +kernel
theorem dX0_gather_106 : decode cX0_gather 106 = .ok (.iconst 1, 1) := by decide +kernel
theorem dX0_gather_107 : decode cX0_gather 107 = .ok (.iand, 1) := by decide +kernel
theorem dX0_gather_108 : decode cX0_gather 108 = .ok (.ifCond .eq 8, 3) := by decide +kernel
theorem dX0_gather_111 : decode cX0_gather 111 = .ok (.aload_n 0, 1) := by decide +kernel
theorem dX0_gather_112 : decode cX0_gather 112 = .ok (.aload_n 3, 1) := by decide +kernel
theorem dX0_gather_113 : decode cX0_gather 113 = .ok (.invokevirtual 58, 3) := by decide +kernel
theorem dX0_gather_116 : decode cX0_gather 116 = .ok (.iinc 2 1, 3) := by decide +kernel
theorem dX0_gather_119 : decode cX0_gather 119 = .ok (.goto (-41), 3) := by decide +kernel
theorem dX0_gather_122 : decode cX0_gather 122 = .ok (.return_, 1) := by decide +kernel
theorem dX0_add_0 : decode cX0_add 0 = .ok (.aload_n 1, 1) := by decide +kernel
theorem dX0_add_1 : decode cX0_add 1 = .ok (.getfield 62, 3) := by decide +kernel
theorem dX0_add_4 : decode cX0_add 4 = .ok (.tableswitch 83 1 3 #[28, 36, 44], 28) := by decide +kernel
theorem dX0_add_32 : decode cX0_add 32 = .ok (.aload_n 0, 1) := by decide +kernel
theorem dX0_add_33 : decode cX0_add 33 = .ok (.aload_n 1, 1) := by decide +kernel
theorem dX0_add_34 : decode cX0_add 34 = .ok (.invokevirtual 67, 3) := by decide +kernel
theorem dX0_add_37 : decode cX0_add 37 = .ok (.goto 62, 3) := by decide +kernel
theorem dX0_add_40 : decode cX0_add 40 = .ok (.aload_n 0, 1) := by decide +kernel
theorem dX0_add_41 : decode cX0_add 41 = .ok (.aload_n 1, 1) := by decide +kernel
theorem dX0_add_42 : decode cX0_add 42 = .ok (.invokevirtual 70, 3) := by decide +kernel
theorem dX0_add_45 : decode cX0_add 45 = .ok (.goto 54, 3) := by decide +kernel
theorem dX0_add_48 : decode cX0_add 48 = .ok (.aload_n 1, 1) := by decide +kernel
theorem dX0_add_49 : decode cX0_add 49 = .ok (.getfield 73, 3) := by decide +kernel
theorem dX0_add_52 : decode cX0_add 52 = .ok (.istore_n 2, 1) := by decide +kernel
theorem dX0_add_53 : decode cX0_add 53 = .ok (.iload_n 2, 1) := by decide +kernel
theorem dX0_add_54 : decode cX0_add 54 = .ok (.aload_n 1, 1) := by decide +kernel
theorem dX0_add_55 : decode cX0_add 55 = .ok (.getfield 76, 3) := by decide +kernel
theorem dX0_add_58 : decode cX0_add 58 = .ok (.if_icmp .gt 26, 3) := by decide +kernel
theorem dX0_add_61 : decode cX0_add 61 = .ok (.aload_n 0, 1) := by decide +kernel
theorem dX0_add_62 : decode cX0_add 62 = .ok (.getfield 21, 3) := by decide +kernel
theorem dX0_add_65 : decode cX0_add 65 = .ok (.iload_n 2, 1) := by decide +kernel
theorem dX0_add_66 : decode cX0_add 66 = .ok (.dup2, 1) := by decide +kernel
theorem dX0_add_67 : decode cX0_add 67 = .ok (.iaload, 1) := by decide +kernel
theorem dX0_add_68 : decode cX0_add 68 = .ok (.iconst 1, 1) := by decide +kernel
theorem dX0_add_69 : decode cX0_add 69 = .ok (.aload_n 1, 1) := by decide +kernel
theorem dX0_add_70 : decode cX0_add 70 = .ok (.getfield 79, 3) := by decide +kernel
theorem dX0_add_73 : decode cX0_add 73 = .ok (.ishl, 1) := by decide +kernel
theorem dX0_add_74 : decode cX0_add 74 = .ok (.iconst (-1), 1) := by decide +kernel
theorem dX0_add_75 : decode cX0_add 75 = .ok (.ixor, 1) := by decide +kernel
theorem dX0_add_76 : decode cX0_add 76 = .ok (.iand, 1) := by decide +kernel
theorem dX0_add_77 : decode cX0_add 77 = .ok (.iastore, 1) := by decide +kernel
theorem dX0_add_78 : decode cX0_add 78 = .ok (.iinc 2 1, 3) := by decide +kernel
theorem dX0_add_81 : decode cX0_add 81 = .ok (.goto (-28), 3) := by decide +kernel
theorem dX0_add_84 : decode cX0_add 84 = .ok (.goto 15, 3) := by decide +kernel
theorem dX0_add_87 : decode cX0_add 87 = .ok (.aload_n 0, 1) := by decide +kernel
theorem dX0_add_88 : decode cX0_add 88 = .ok (.aload_n 1, 1) := by decide +kernel
theorem dX0_add_89 : decode cX0_add 89 = .ok (.getfield 79, 3) := by decide +kernel
theorem dX0_add_92 : decode cX0_add 92 = .ok (.aload_n 1, 1) := by decide +kernel
theorem dX0_add_93 : decode cX0_add 93 = .ok (.getfield 73, 3) := by decide +kernel
theorem dX0_add_96 : decode cX0_add 96 = .ok (.invokevirtual 82, 3) := by decide +kernel
theorem dX0_add_99 : decode cX0_add 99 = .ok (.return_, 1) := by decide +kernel
theorem dX0_addSeen_0 : decode cX0_addSeen 0 = .ok (.aload_n 0, 1) := by decide +kernel
theorem dX0_addSeen_1 : decode cX0_addSeen 1 = .ok (.getfield 21, 3) := by decide +kernel
theorem dX0_addSeen_4 : decode cX0_addSeen 4 = .ok (.iload_n 2, 1) := by decide +kernel
theorem dX0_addSeen_5 : decode cX0_addSeen 5 = .ok (.dup2, 1) := by decide +kernel
theorem dX0_addSeen_6 : decode cX0_addSeen 6 = .ok (.iaload, 1) := by decide +kernel
theorem dX0_addSeen_7 : decode cX0_addSeen 7 = .ok (.iconst 1, 1) := by decide +kernel
theorem dX0_addSeen_8 : decode cX0_addSeen 8 = .ok (.iload_n 1, 1) := by decide +kernel
theorem dX0_addSeen_9 : decode cX0_addSeen 9 = .ok (.ishl, 1) := by decide +kernel
theorem dX0_addSeen_10 : decode cX0_addSeen 10 = .ok (.iand, 1) := by decide +kernel
theorem dX0_addSeen_11 : decode cX0_addSeen 11 = .ok (.iastore, 1) := by decide +kernel
theorem dX0_addSeen_12 : decode cX0_addSeen 12 = .ok (.aload_n 0, 1) := by decide +kernel
theorem dX0_addSeen_13 : decode cX0_addSeen 13 = .ok (.getfield 24, 3) := by decide +kernel
theorem dX0_addSeen_16 : decode cX0_addSeen 16 = .ok (.iload_n 2, 1) := by decide +kernel
theorem dX0_addSeen_17 : decode cX0_addSeen 17 = .ok (.dup2, 1) := by decide +kernel
theorem dX0_addSeen_18 : decode cX0_addSeen 18 = .ok (.iaload, 1) := by decide +kernel
theorem dX0_addSeen_19 : decode cX0_addSeen 19 = .ok (.iconst 1, 1) := by decide +kernel
theorem dX0_addSeen_20 : decode cX0_addSeen 20 = .ok (.iload_n 1, 1) := by decide +kernel
theorem dX0_addSeen_21 : decode cX0_addSeen 21 = .ok (.ishl, 1) := by decide +kernel
theorem dX0_addSeen_22 : decode cX0_addSeen 22 = .ok (.ior, 1) := by decide +kernel
theorem dX0_addSeen_23 : decode cX0_addSeen 23 = .ok (.iastore, 1) := by decide +kernel
theorem dX0_addSeen_24 : decode cX0_addSeen 24 = .ok (.return_, 1) := by decide +kernel
theorem dX0_addSpan_0 : decode cX0_addSpan 0 = .ok (.aload_n 0, 1) := by decide +kernel
theorem dX0_addSpan_1 : decode cX0_addSpan 1 = .ok (.getfield 33, 3) := by decide +kernel
theorem dX0_addSpan_4 : decode cX0_addSpan 4 = .ok (.iconst 2, 1) := by decide +kernel
theorem dX0_addSpan_5 : decode cX0_addSpan 5 = .ok (.if_icmp .lt 4, 3) := by decide +kernel
theorem dX0_addSpan_8 : decode cX0_addSpan 8 = .ok (.return_, 1) := by decide +kernel
theorem dX0_addSpan_9 : decode cX0_addSpan 9 = .ok (.iconst 1, 1) := by decide +kernel
theorem dX0_addSpan_10 : decode cX0_addSpan 10 = .ok (.aload_n 0, 1) := by decide +kernel
theorem dX0_addSpan_11 : decode cX0_addSpan 11 = .ok (.getfield 33, 3) := by decide +kernel
theorem dX0_addSpan_14 : decode cX0_addSpan 14 = .ok (.ishl, 1) := by decide +kernel
theorem dX0_addSpan_15 : decode cX0_addSpan 15 = .ok (.istore_n 2, 1) := by decide +kernel
theorem dX0_addSpan_16 : decode cX0_addSpan 16 = .ok (.aload_n 0, 1) := by decide +kernel
theorem dX0_addSpan_17 : decode cX0_addSpan 17 = .ok (.dup, 1) := by decide +kernel
theorem dX0_addSpan_18 : decode cX0_addSpan 18 = .ok (.getfield 33, 3) := by decide +kernel
theorem dX0_addSpan_21 : decode cX0_addSpan 21 = .ok (.iconst 1, 1) := by decide +kernel
theorem dX0_addSpan_22 : decode cX0_addSpan 22 = .ok (.iadd, 1) := by decide +kernel
theorem dX0_addSpan_23 : decode cX0_addSpan 23 = .ok (.putfield 33, 3) := by decide +kernel
theorem dX0_addSpan_26 : decode cX0_addSpan 26 = .ok (.aload_n 1, 1) := by decide +kernel
theorem dX0_addSpan_27 : decode cX0_addSpan 27 = .ok (.getfield 73, 3) := by decide +kernel
theorem dX0_addSpan_30 : decode cX0_addSpan 30 = .ok (.istore_n 3, 1) := by decide +kernel
theorem dX0_addSpan_31 : decode cX0_addSpan 31 = .ok (.iload_n 3, 1) := by decide +kernel
theorem dX0_addSpan_32 : decode cX0_addSpan 32 = .ok (.aload_n 1, 1) := by decide +kernel
theorem dX0_addSpan_33 : decode cX0_addSpan 33 = .ok (.getfield 76, 3) := by decide +kernel
theorem dX0_addSpan_36 : decode cX0_addSpan 36 = .ok (.if_icmp .gt 27, 3) := by decide +kernel
theorem dX0_addSpan_39 : decode cX0_addSpan 39 = .ok (.aload_n 0, 1) := by decide +kernel
theorem dX0_addSpan_40 : decode cX0_addSpan 40 = .ok (.getfield 27, 3) := by decide +kernel
theorem dX0_addSpan_43 : decode cX0_addSpan 43 = .ok (.iload_n 3, 1) := by decide +kernel
theorem dX0_addSpan_44 : decode cX0_addSpan 44 = .ok (.bipush 7, 2) := by decide +kernel
theorem dX0_addSpan_46 : decode cX0_addSpan 46 = .ok (.imul, 1) := by decide +kernel
theorem dX0_addSpan_47 : decode cX0_addSpan 47 = .ok (.aload_n 1, 1) := by decide +kernel
theorem dX0_addSpan_48 : decode cX0_addSpan 48 = .ok (.getfield 79, 3) := by decide +kernel
theorem dX0_addSpan_51 : decode cX0_addSpan 51 = .ok (.iadd, 1) := by decide +kernel
theorem dX0_addSpan_52 : decode cX0_addSpan 52 = .ok (.dup2, 1) := by decide +kernel
theorem dX0_addSpan_53 : decode cX0_addSpan 53 = .ok (.iaload, 1) := by decide +kernel
theorem dX0_addSpan_54 : decode cX0_addSpan 54 = .ok (.iload_n 2, 1) := by decide +kernel
theorem dX0_addSpan_55 : decode cX0_addSpan 55 = .ok (.ior, 1) := by decide +kernel
theorem dX0_addSpan_56 : decode cX0_addSpan 56 = .ok (.iastore, 1) := by decide +kernel
theorem dX0_addSpan_57 : decode cX0_addSpan 57 = .ok (.iinc 3 1, 3) := by decide +kernel
theorem dX0_addSpan_60 : decode cX0_addSpan 60 = .ok (.goto (-29), 3) := by decide +kernel
theorem dX0_addSpan_63 : decode cX0_addSpan 63 = .ok (.aload_n 0, 1) := by decide +kernel
theorem dX0_addSpan_64 : decode cX0_addSpan 64 = .ok (.getfield 30, 3) := by decide +kernel
theorem dX0_addSpan_67 : decode cX0_addSpan 67 = .ok (.aload_n 1, 1) := by decide +kernel
theorem dX0_addSpan_68 : decode cX0_addSpan 68 = .ok (.getfield 76, 3) := by decide +kernel
theorem dX0_addSpan_71 : decode cX0_addSpan 71 = .ok (.dup2, 1) := by decide +kernel
theorem dX0_addSpan_72 : decode cX0_addSpan 72 = .ok (.iaload, 1) := by decide +kernel
theorem dX0_addSpan_73 : decode cX0_addSpan 73 = .ok (.iload_n 2, 1) := by decide +kernel
theorem dX0_addSpan_74 : decode cX0_addSpan 74 = .ok (.ior, 1) := by decide +kernel
theorem dX0_addSpan_75 : decode cX0_addSpan 75 = .ok (.iastore, 1) := by decide +kernel
theorem dX0_addSpan_76 : decode cX0_addSpan 76 = .ok (.return_, 1) := by decide +kernel
theorem dX0_addWas_0 : decode cX0_addWas 0 = .ok (.aload_n 0, 1) := by decide +kernel
theorem dX0_addWas_1 : decode cX0_addWas 1 = .ok (.getfield 37, 3) := by decide +kernel
theorem dX0_addWas_4 : decode cX0_addWas 4 = .ok (.getfield 86, 3) := by decide +kernel
theorem dX0_addWas_7 : decode cX0_addWas 7 = .ok (.aload_n 1, 1) := by decide +kernel
theorem dX0_addWas_8 : decode cX0_addWas 8 = .ok (.getfield 79, 3) := by decide +kernel
theorem dX0_addWas_11 : decode cX0_addWas 11 = .ok (.iaload, 1) := by decide +kernel
theorem dX0_addWas_12 : decode cX0_addWas 12 = .ok (.iconst 3, 1) := by decide +kernel
theorem dX0_addWas_13 : decode cX0_addWas 13 = .ok (.if_icmp .ne 7, 3) := by decide +kernel
theorem dX0_addWas_16 : decode cX0_addWas 16 = .ok (.iconst 1, 1) := by decide +kernel
theorem dX0_addWas_17 : decode cX0_addWas 17 = .ok (.goto 4, 3) := by decide +kernel
theorem dX0_addWas_20 : decode cX0_addWas 20 = .ok (.iconst 0, 1) := by decide +kernel
theorem dX0_addWas_21 : decode cX0_addWas 21 = .ok (.istore_n 2, 1) := by decide +kernel
theorem dX0_addWas_22 : decode cX0_addWas 22 = .ok (.aload_n 1, 1) := by decide +kernel
theorem dX0_addWas_23 : decode cX0_addWas 23 = .ok (.getfield 73, 3) := by decide +kernel
theorem dX0_addWas_26 : decode cX0_addWas 26 = .ok (.istore_n 3, 1) := by decide +kernel
theorem dX0_addWas_27 : decode cX0_addWas 27 = .ok (.iload_n 3, 1) := by decide +kernel
theorem dX0_addWas_28 : decode cX0_addWas 28 = .ok (.aload_n 1, 1) := by decide +kernel
theorem dX0_addWas_29 : decode cX0_addWas 29 = .ok (.getfield 76, 3) := by decide +kernel
theorem dX0_addWas_32 : decode cX0_addWas 32 = .ok (.if_icmp .gt 72, 3) := by decide +kernel
theorem dX0_addWas_35 : decode cX0_addWas 35 = .ok (.iload_n 2, 1) := by decide +kernel
theorem dX0_addWas_36 : decode cX0_addWas 36 = .ok (.ifCond .eq 21, 3) := by decide +kernel
theorem dX0_addWas_39 : decode cX0_addWas 39 = .ok (.aload_n 0, 1) := by decide +kernel
theorem dX0_addWas_40 : decode cX0_addWas 40 = .ok (.getfield 18, 3) := by decide +kernel
theorem dX0_addWas_43 : decode cX0_addWas 43 = .ok (.iload_n 3, 1) := by decide +kernel
theorem dX0_addWas_44 : decode cX0_addWas 44 = .ok (.dup2, 1) := by decide +kernel
theorem dX0_addWas_45 : decode cX0_addWas 45 = .ok (.iaload, 1) := by decide +kernel
theorem dX0_addWas_46 : decode cX0_addWas 46 = .ok (.iconst 1, 1) := by decide +kernel
theorem dX0_addWas_47 : decode cX0_addWas 47 = .ok (.aload_n 1, 1) := by decide +kernel
theorem dX0_addWas_48 : decode cX0_addWas 48 = .ok (.getfield 89, 3) := by decide +kernel
theorem dX0_addWas_51 : decode cX0_addWas 51 = .ok (.ishl, 1) := by decide +kernel
theorem dX0_addWas_52 : decode cX0_addWas 52 = .ok (.iand, 1) := by decide +kernel
theorem dX0_addWas_53 : decode cX0_addWas 53 = .ok (.iastore, 1) := by decide +kernel
theorem dX0_addWas_54 : decode cX0_addWas 54 = .ok (.goto 44, 3) := by decide +kernel
theorem dX0_addWas_57 : decode cX0_addWas 57 = .ok (.aload_n 1, 1) := by decide +kernel
theorem dX0_addWas_58 : decode cX0_addWas 58 = .ok (.getfield 89, 3) := by decide +kernel
theorem dX0_addWas_61 : decode cX0_addWas 61 = .ok (.iconst 1, 1) := by decide +kernel
theorem dX0_addWas_62 : decode cX0_addWas 62 = .ok (.if_icmp .ne 21, 3) := by decide +kernel
theorem dX0_addWas_65 : decode cX0_addWas 65 = .ok (.aload_n 0, 1) := by decide +kernel
theorem dX0_addWas_66 : decode cX0_addWas 66 = .ok (.getfield 9, 3) := by decide +kernel
theorem dX0_addWas_69 : decode cX0_addWas 69 = .ok (.iload_n 3, 1) := by decide +kernel
theorem dX0_addWas_70 : decode cX0_addWas 70 = .ok (.dup2, 1) := by decide +kernel
theorem dX0_addWas_71 : decode cX0_addWas 71 = .ok (.iaload, 1) := by decide +kernel
theorem dX0_addWas_72 : decode cX0_addWas 72 = .ok (.iconst 1, 1) := by decide +kernel
theorem dX0_addWas_73 : decode cX0_addWas 73 = .ok (.aload_n 1, 1) := by decide +kernel
theorem dX0_addWas_74 : decode cX0_addWas 74 = .ok (.getfield 79, 3) := by decide +kernel
theorem dX0_addWas_77 : decode cX0_addWas 77 = .ok (.ishl, 1) := by decide +kernel
theorem dX0_addWas_78 : decode cX0_addWas 78 = .ok (.ior, 1) := by decide +kernel
theorem dX0_addWas_79 : decode cX0_addWas 79 = .ok (.iastore, 1) := by decide +kernel
theorem dX0_addWas_80 : decode cX0_addWas 80 = .ok (.goto 18, 3) := by decide +kernel
theorem dX0_addWas_83 : decode cX0_addWas 83 = .ok (.aload_n 0, 1) := by decide +kernel
theorem dX0_addWas_84 : decode cX0_addWas 84 = .ok (.getfield 15, 3) := by decide +kernel
theorem dX0_addWas_87 : decode cX0_addWas 87 = .ok (.iload_n 3, 1) := by decide +kernel
theorem dX0_addWas_88 : decode cX0_addWas 88 = .ok (.dup2, 1) := by decide +kernel
theorem dX0_addWas_89 : decode cX0_addWas 89 = .ok (.iaload, 1) := by decide +kernel
theorem dX0_addWas_90 : decode cX0_addWas 90 = .ok (.iconst 1, 1) := by decide +kernel
theorem dX0_addWas_91 : decode cX0_addWas 91 = .ok (.aload_n 1, 1) := by decide +kernel
theorem dX0_addWas_92 : decode cX0_addWas 92 = .ok (.getfield 79, 3) := by decide +kernel
theorem dX0_addWas_95 : decode cX0_addWas 95 = .ok (.ishl, 1) := by decide +kernel
theorem dX0_addWas_96 : decode cX0_addWas 96 = .ok (.ior, 1) := by decide +kernel
theorem dX0_addWas_97 : decode cX0_addWas 97 = .ok (.iastore, 1) := by decide +kernel
theorem dX0_addWas_98 : decode cX0_addWas 98 = .ok (.iinc 3 1, 3) := by decide +kernel
theorem dX0_addWas_101 : decode cX0_addWas 101 = .ok (.goto (-74), 3) := by decide +kernel
theorem dX0_addWas_104 : decode cX0_addWas 104 = .ok (.return_, 1) := by decide +kernel
theorem dX0_allows_0 : decode cX0_allows 0 = .ok (.iload_n 2, 1) := by decide +kernel
theorem dX0_allows_1 : decode cX0_allows 1 = .ok (.aload_n 0, 1) := by decide +kernel
theorem dX0_allows_2 : decode cX0_allows 2 = .ok (.getfield 9, 3) := by decide +kernel
theorem dX0_allows_5 : decode cX0_allows 5 = .ok (.iload_n 1, 1) := by decide +kernel
theorem dX0_allows_6 : decode cX0_allows 6 = .ok (.iaload, 1) := by decide +kernel
theorem dX0_allows_7 : decode cX0_allows 7 = .ok (.iand, 1) := by decide +kernel
theorem dX0_allows_8 : decode cX0_allows 8 = .ok (.aload_n 0, 1) := by decide +kernel
theorem dX0_allows_9 : decode cX0_allows 9 = .ok (.getfield 9, 3) := by decide +kernel
theorem dX0_allows_12 : decode cX0_allows 12 = .ok (.iload_n 1, 1) := by decide +kernel
theorem dX0_allows_13 : decode cX0_allows 13 = .ok (.iaload, 1) := by decide +kernel
theorem dX0_allows_14 : decode cX0_allows 14 = .ok (.if_icmp .ne 31, 3) := by decide +kernel
theorem dX0_allows_17 : decode cX0_allows 17 = .ok (.iload_n 2, 1) := by decide +kernel
theorem dX0_allows_18 : decode cX0_allows 18 = .ok (.aload_n 0, 1) := by decide +kernel
theorem dX0_allows_19 : decode cX0_allows 19 = .ok (.getfield 15, 3) := by decide +kernel
theorem dX0_allows_22 : decode cX0_allows 22 = .ok (.iload_n 1, 1) := by decide +kernel
theorem dX0_allows_23 : decode cX0_allows 23 = .ok (.iaload, 1) := by decide +kernel
theorem dX0_allows_24 : decode cX0_allows 24 = .ok (.iand, 1) := by decide +kernel
theorem dX0_allows_25 : decode cX0_allows 25 = .ok (.ifCond .ne 20, 3) := by decide +kernel
theorem dX0_allows_28 : decode cX0_allows 28 = .ok (.aload_n 0, 1) := by decide +kernel
theorem dX0_allows_29 : decode cX0_allows 29 = .ok (.getfield 18, 3) := by decide +kernel
theorem dX0_allows_32 : decode cX0_allows 32 = .ok (.iload_n 1, 1) := by decide +kernel
theorem dX0_allows_33 : decode cX0_allows 33 = .ok (.iaload, 1) := by decide +kernel
theorem dX0_allows_34 : decode cX0_allows 34 = .ok (.iload_n 3, 1) := by decide +kernel
theorem dX0_allows_35 : decode cX0_allows 35 = .ok (.ishr, 1) := by decide +kernel
theorem dX0_allows_36 : decode cX0_allows 36 = .ok (.iconst 1, 1) := by decide +kernel
theorem dX0_allows_37 : decode cX0_allows 37 = .ok (.iand, 1) := by decide +kernel
theorem dX0_allows_38 : decode cX0_allows 38 = .ok (.ifCond .eq 7, 3) := by decide +kernel
theorem dX0_allows_41 : decode cX0_allows 41 = .ok (.iconst 1, 1) := by decide +kernel
theorem dX0_allows_42 : decode cX0_allows 42 = .ok (.goto 4, 3) := by decide +kernel
theorem dX0_allows_45 : decode cX0_allows 45 = .ok (.iconst 0, 1) := by decide +kernel
theorem dX0_allows_46 : decode cX0_allows 46 = .ok (.ireturn, 1) := by decide +kernel
theorem dX0_mayChoose_0 : decode cX0_mayChoose 0 = .ok (.aload_n 0, 1) := by decide +kernel
theorem dX0_mayChoose_1 : decode cX0_mayChoose 1 = .ok (.getfield 21, 3) := by decide +kernel
theorem dX0_mayChoose_4 : decode cX0_mayChoose 4 = .ok (.iload_n 1, 1) := by decide +kernel
theorem dX0_mayChoose_5 : decode cX0_mayChoose 5 = .ok (.iaload, 1) := by decide +kernel
theorem dX0_mayChoose_6 : decode cX0_mayChoose 6 = .ok (.iload_n 2, 1) := by decide +kernel
theorem dX0_mayChoose_7 : decode cX0_mayChoose 7 = .ok (.ishr, 1) := by decide +kernel
theorem dX0_mayChoose_8 : decode cX0_mayChoose 8 = .ok (.iconst 1, 1) := by decide +kernel
theorem dX0_mayChoose_9 : decode cX0_mayChoose 9 = .ok (.iand, 1) := by decide +kernel
theorem dX0_mayChoose_10 : decode cX0_mayChoose 10 = .ok (.ifCond .eq 7, 3) := by decide +kernel
theorem dX0_mayChoose_13 : decode cX0_mayChoose 13 = .ok (.iconst 1, 1) := by decide +kernel
theorem dX0_mayChoose_14 : decode cX0_mayChoose 14 = .ok (.goto 4, 3) := by decide +kernel
theorem dX0_mayChoose_17 : decode cX0_mayChoose 17 = .ok (.iconst 0, 1) := by decide +kernel
theorem dX0_mayChoose_18 : decode cX0_mayChoose 18 = .ok (.ireturn, 1) := by decide +kernel
theorem dX0_flagsAfter_0 : decode cX0_flagsAfter 0 = .ok (.iload_n 1, 1) := by decide +kernel
theorem dX0_flagsAfter_1 : decode cX0_flagsAfter 1 = .ok (.aload_n 0, 1) := by decide +kernel
theorem dX0_flagsAfter_2 : decode cX0_flagsAfter 2 = .ok (.getfield 27, 3) := by decide +kernel
theorem dX0_flagsAfter_5 : decode cX0_flagsAfter 5 = .ok (.iload_n 2, 1) := by decide +kernel
theorem dX0_flagsAfter_6 : decode cX0_flagsAfter 6 = .ok (.bipush 7, 2) := by decide +kernel
theorem dX0_flagsAfter_8 : decode cX0_flagsAfter 8 = .ok (.imul, 1) := by decide +kernel
theorem dX0_flagsAfter_9 : decode cX0_flagsAfter 9 = .ok (.iload_n 3, 1) := by decide +kernel
theorem dX0_flagsAfter_10 : decode cX0_flagsAfter 10 = .ok (.iadd, 1) := by decide +kernel
theorem dX0_flagsAfter_11 : decode cX0_flagsAfter 11 = .ok (.iaload, 1) := by decide +kernel
theorem dX0_flagsAfter_12 : decode cX0_flagsAfter 12 = .ok (.ior, 1) := by decide +kernel
theorem dX0_flagsAfter_13 : decode cX0_flagsAfter 13 = .ok (.istore 4, 2) := by decide +kernel
theorem dX0_flagsAfter_15 : decode cX0_flagsAfter 15 = .ok (.iload 4, 2) := by decide +kernel
theorem dX0_flagsAfter_17 : decode cX0_flagsAfter 17 = .ok (.aload_n 0, 1) := by decide +kernel
theorem dX0_flagsAfter_18 : decode cX0_flagsAfter 18 = .ok (.getfield 30, 3) := by decide +kernel
theorem dX0_flagsAfter_21 : decode cX0_flagsAfter 21 = .ok (.iload_n 2, 1) := by decide +kernel
theorem dX0_flagsAfter_22 : decode cX0_flagsAfter 22 = .ok (.iaload, 1) := by decide +kernel
theorem dX0_flagsAfter_23 : decode cX0_flagsAfter 23 = .ok (.iand, 1) := by decide +kernel
theorem dX0_flagsAfter_24 : decode cX0_flagsAfter 24 = .ok (.aload_n 0, 1) := by decide +kernel
theorem dX0_flagsAfter_25 : decode cX0_flagsAfter 25 = .ok (.getfield 30, 3) := by decide +kernel
theorem dX0_flagsAfter_28 : decode cX0_flagsAfter 28 = .ok (.iload_n 2, 1) := by decide +kernel
theorem dX0_flagsAfter_29 : decode cX0_flagsAfter 29 = .ok (.iaload, 1) := by decide +kernel
theorem dX0_flagsAfter_30 : decode cX0_flagsAfter 30 = .ok (.if_icmp .ne 8, 3) := by decide +kernel
theorem dX0_flagsAfter_33 : decode cX0_flagsAfter 33 = .ok (.iload 4, 2) := by decide +kernel
theorem dX0_flagsAfter_35 : decode cX0_flagsAfter 35 = .ok (.goto 4, 3) := by decide +kernel
theorem dX0_flagsAfter_38 : decode cX0_flagsAfter 38 = .ok (.iconst (-1), 1) := by decide +kernel
theorem dX0_flagsAfter_39 : decode cX0_flagsAfter 39 = .ok (.ireturn, 1) := by decide +kernel
theorem dX0_costOf_0 : decode cX0_costOf 0 = .ok (.iload_n 2, 1) := by decide +kernel
theorem dX0_costOf_1 : decode cX0_costOf 1 = .ok (.aload_n 0, 1) := by decide +kernel
theorem dX0_costOf_2 : decode cX0_costOf 2 = .ok (.getfield 37, 3) := by decide +kernel
theorem dX0_costOf_5 : decode cX0_costOf 5 = .ok (.getfield 47, 3) := by decide +kernel
theorem dX0_costOf_8 : decode cX0_costOf 8 = .ok (.if_icmp .ge 16, 3) := by decide +kernel
theorem dX0_costOf_11 : decode cX0_costOf 11 = .ok (.aload_n 0, 1) := by decide +kernel
theorem dX0_costOf_12 : decode cX0_costOf 12 = .ok (.getfield 24, 3) := by decide +kernel
theorem dX0_costOf_15 : decode cX0_costOf 15 = .ok (.iload_n 1, 1) := by decide +kernel
theorem dX0_costOf_16 : decode cX0_costOf 16 = .ok (.iaload, 1) := by decide +kernel
theorem dX0_costOf_17 : decode cX0_costOf 17 = .ok (.iload_n 2, 1) := by decide +kernel
theorem dX0_costOf_18 : decode cX0_costOf 18 = .ok (.ishr, 1) := by decide +kernel
theorem dX0_costOf_19 : decode cX0_costOf 19 = .ok (.iconst 1, 1) := by decide +kernel
theorem dX0_costOf_20 : decode cX0_costOf 20 = .ok (.iand, 1) := by decide +kernel
theorem dX0_costOf_21 : decode cX0_costOf 21 = .ok (.ifCond .eq 7, 3) := by decide +kernel
theorem dX0_costOf_24 : decode cX0_costOf 24 = .ok (.iconst 1, 1) := by decide +kernel
theorem dX0_costOf_25 : decode cX0_costOf 25 = .ok (.goto 4, 3) := by decide +kernel
theorem dX0_costOf_28 : decode cX0_costOf 28 = .ok (.iconst 0, 1) := by decide +kernel
theorem dX0_costOf_29 : decode cX0_costOf 29 = .ok (.istore_n 3, 1) := by decide +kernel
theorem dX0_costOf_30 : decode cX0_costOf 30 = .ok (.iload_n 3, 1) := by decide +kernel
theorem dX0_costOf_31 : decode cX0_costOf 31 = .ok (.ifCond .eq 7, 3) := by decide +kernel
theorem dX0_costOf_34 : decode cX0_costOf 34 = .ok (.iconst 0, 1) := by decide +kernel
theorem dX0_costOf_35 : decode cX0_costOf 35 = .ok (.goto 15, 3) := by decide +kernel
theorem dX0_costOf_38 : decode cX0_costOf 38 = .ok (.aload_n 0, 1) := by decide +kernel
theorem dX0_costOf_39 : decode cX0_costOf 39 = .ok (.getfield 37, 3) := by decide +kernel
theorem dX0_costOf_42 : decode cX0_costOf 42 = .ok (.getfield 92, 3) := by decide +kernel
theorem dX0_costOf_45 : decode cX0_costOf 45 = .ok (.iload_n 2, 1) := by decide +kernel
theorem dX0_costOf_46 : decode cX0_costOf 46 = .ok (.aaload, 1) := by decide +kernel
theorem dX0_costOf_47 : decode cX0_costOf 47 = .ok (.getfield 96, 3) := by decide +kernel
theorem dX0_costOf_50 : decode cX0_costOf 50 = .ok (.ireturn, 1) := by decide +kernel
theorem dX1_init_0 : decode cX1_init 0 = .ok (.aload_n 0, 1) := by decide +kernel
theorem dX1_init_1 : decode cX1_init 1 = .ok (.invokespecial 3, 3) := by decide +kernel
theorem dX1_init_4 : decode cX1_init 4 = .ok (.aload_n 0, 1) := by decide +kernel
theorem dX1_init_5 : decode cX1_init 5 = .ok (.iconst 0, 1) := by decide +kernel
theorem dX1_init_6 : decode cX1_init 6 = .ok (.putfield 9, 3) := by decide +kernel
theorem dX1_init_9 : decode cX1_init 9 = .ok (.aload_n 0, 1) := by decide +kernel
theorem dX1_init_10 : decode cX1_init 10 = .ok (.bipush 30, 2) := by decide +kernel
theorem dX1_init_12 : decode cX1_init 12 = .ok (.newarray .int, 2) := by decide +kernel
theorem dX1_init_14 : decode cX1_init 14 = .ok (.putfield 15, 3) := by decide +kernel
theorem dX1_init_17 : decode cX1_init 17 = .ok (.aload_n 0, 1) := by decide +kernel
theorem dX1_init_18 : decode cX1_init 18 = .ok (.bipush 30, 2) := by decide +kernel
theorem dX1_init_20 : decode cX1_init 20 = .ok (.newarray .int, 2) := by decide +kernel
theorem dX1_init_22 : decode cX1_init 22 = .ok (.putfield 19, 3) := by decide +kernel
theorem dX1_init_25 : decode cX1_init 25 = .ok (.aload_n 0, 1) := by decide +kernel
theorem dX1_init_26 : decode cX1_init 26 = .ok (.bipush 30, 2) := by decide +kernel
theorem dX1_init_28 : decode cX1_init 28 = .ok (.newarray .int, 2) := by decide +kernel
theorem dX1_init_30 : decode cX1_init 30 = .ok (.putfield 22, 3) := by decide +kernel
theorem dX1_init_33 : decode cX1_init 33 = .ok (.aload_n 0, 1) := by decide +kernel
theorem dX1_init_34 : decode cX1_init 34 = .ok (.bipush 30, 2) := by decide +kernel
theorem dX1_init_36 : decode cX1_init 36 = .ok (.newarray .int, 2) := by decide +kernel
theorem dX1_init_38 : decode cX1_init 38 = .ok (.putfield 25, 3) := by decide +kernel
theorem dX1_init_41 : decode cX1_init 41 = .ok (.return_, 1) := by decide +kernel
theorem dX1_become_0 : decode cX1_become 0 = .ok (.aload_n 0, 1) := by decide +kernel
theorem dX1_become_1 : decode cX1_become 1 = .ok (.aload_n 1, 1) := by decide +kernel
theorem dX1_become_2 : decode cX1_become 2 = .ok (.getfield 9, 3) := by decide +kernel
theorem dX1_become_5 : decode cX1_become 5 = .ok (.putfield 9, 3) := by decide +kernel
theorem dX1_become_8 : decode cX1_become 8 = .ok (.aload_n 1, 1) := by decide +kernel
theorem dX1_become_9 : decode cX1_become 9 = .ok (.getfield 15, 3) := by decide +kernel
theorem dX1_become_12 : decode cX1_become 12 = .ok (.iconst 0, 1) := by decide +kernel
theorem dX1_become_13 : decode cX1_become 13 = .ok (.aload_n 0, 1) := by decide +kernel
theorem dX1_become_14 : decode cX1_become 14 = .ok (.getfield 15, 3) := by decide +kernel
theorem dX1_become_17 : decode cX1_become 17 = .ok (.iconst 0, 1) := by decide +kernel
theorem dX1_become_18 : decode cX1_become 18 = .ok (.bipush 30, 2) := by decide +kernel
theorem dX1_become_20 : decode cX1_become 20 = .ok (.invokestatic 28, 3) := by decide +kernel
theorem dX1_become_23 : decode cX1_become 23 = .ok (.aload_n 1, 1) := by decide +kernel
theorem dX1_become_24 : decode cX1_become 24 = .ok (.getfield 19, 3) := by decide +kernel
theorem dX1_become_27 : decode cX1_become 27 = .ok (.iconst 0, 1) := by decide +kernel
theorem dX1_become_28 : decode cX1_become 28 = .ok (.aload_n 0, 1) := by decide +kernel
theorem dX1_become_29 : decode cX1_become 29 = .ok (.getfield 19, 3) := by decide +kernel
theorem dX1_become_32 : decode cX1_become 32 = .ok (.iconst 0, 1) := by decide +kernel
theorem dX1_become_33 : decode cX1_become 33 = .ok (.bipush 30, 2) := by decide +kernel
theorem dX1_become_35 : decode cX1_become 35 = .ok (.invokestatic 28, 3) := by decide +kernel
theorem dX1_become_38 : decode cX1_become 38 = .ok (.aload_n 1, 1) := by decide +kernel
theorem dX1_become_39 : decode cX1_become 39 = .ok (.getfield 22, 3) := by decide +kernel
theorem dX1_become_42 : decode cX1_become 42 = .ok (.iconst 0, 1) := by decide +kernel
theorem dX1_become_43 : decode cX1_become 43 = .ok (.aload_n 0, 1) := by decide +kernel
theorem dX1_become_44 : decode cX1_become 44 = .ok (.getfield 22, 3) := by decide +kernel
theorem dX1_become_47 : decode cX1_become 47 = .ok (.iconst 0, 1) := by decide +kernel
theorem dX1_become_48 : decode cX1_become 48 = .ok (.bipush 30, 2) := by decide +kernel
theorem dX1_become_50 : decode cX1_become 50 = .ok (.invokestatic 28, 3) := by decide +kernel
theorem dX1_become_53 : decode cX1_become 53 = .ok (.aload_n 1, 1) := by decide +kernel
theorem dX1_become_54 : decode cX1_become 54 = .ok (.getfield 25, 3) := by decide +kernel
theorem dX1_become_57 : decode cX1_become 57 = .ok (.iconst 0, 1) := by decide +kernel
theorem dX1_become_58 : decode cX1_become 58 = .ok (.aload_n 0, 1) := by decide +kernel
theorem dX1_become_59 : decode cX1_become 59 = .ok (.getfield 25, 3) := by decide +kernel
theorem dX1_become_62 : decode cX1_become 62 = .ok (.iconst 0, 1) := by decide +kernel
theorem dX1_become_63 : decode cX1_become 63 = .ok (.bipush 30, 2) := by decide +kernel
theorem dX1_become_65 : decode cX1_become 65 = .ok (.invokestatic 28, 3) := by decide +kernel
theorem dX1_become_68 : decode cX1_become 68 = .ok (.return_, 1) := by decide +kernel
theorem dX1_openAll_0 : decode cX1_openAll 0 = .ok (.aload_n 0, 1) := by decide +kernel
theorem dX1_openAll_1 : decode cX1_openAll 1 = .ok (.getfield 9, 3) := by decide +kernel
theorem dX1_openAll_4 : decode cX1_openAll 4 = .ok (.bipush 30, 2) := by decide +kernel
theorem dX1_openAll_6 : decode cX1_openAll 6 = .ok (.if_icmp .ge 54, 3) := by decide +kernel
theorem dX1_openAll_9 : decode cX1_openAll 9 = .ok (.aload_n 0, 1) := by decide +kernel
theorem dX1_openAll_10 : decode cX1_openAll 10 = .ok (.getfield 15, 3) := by decide +kernel
theorem dX1_openAll_13 : decode cX1_openAll 13 = .ok (.aload_n 0, 1) := by decide +kernel
theorem dX1_openAll_14 : decode cX1_openAll 14 = .ok (.getfield 9, 3) := by decide +kernel
theorem dX1_openAll_17 : decode cX1_openAll 17 = .ok (.iconst 0, 1) := by decide +kernel
theorem dX1_openAll_18 : decode cX1_openAll 18 = .ok (.iastore, 1) := by decide +kernel
theorem dX1_openAll_19 : decode cX1_openAll 19 = .ok (.aload_n 0, 1) := by decide +kernel
theorem dX1_openAll_20 : decode cX1_openAll 20 = .ok (.getfield 19, 3) := by decide +kernel
theorem dX1_openAll_23 : decode cX1_openAll 23 = .ok (.aload_n 0, 1) := by decide +kernel
theorem dX1_openAll_24 : decode cX1_openAll 24 = .ok (.getfield 9, 3) := by decide +kernel
theorem dX1_openAll_27 : decode cX1_openAll 27 = .ok (.iconst 0, 1) := by decide +kernel
theorem dX1_openAll_28 : decode cX1_openAll 28 = .ok (.iastore, 1) := by decide +kernel
theorem dX1_openAll_29 : decode cX1_openAll 29 = .ok (.aload_n 0, 1) := by decide +kernel
theorem dX1_openAll_30 : decode cX1_openAll 30 = .ok (.getfield 22, 3) := by decide +kernel
theorem dX1_openAll_33 : decode cX1_openAll 33 = .ok (.aload_n 0, 1) := by decide +kernel
theorem dX1_openAll_34 : decode cX1_openAll 34 = .ok (.getfield 9, 3) := by decide +kernel
theorem dX1_openAll_37 : decode cX1_openAll 37 = .ok (.iconst (-1), 1) := by decide +kernel
theorem dX1_openAll_38 : decode cX1_openAll 38 = .ok (.iastore, 1) := by decide +kernel
theorem dX1_openAll_39 : decode cX1_openAll 39 = .ok (.aload_n 0, 1) := by decide +kernel
theorem dX1_openAll_40 : decode cX1_openAll 40 = .ok (.getfield 25, 3) := by decide +kernel
theorem dX1_openAll_43 : decode cX1_openAll 43 = .ok (.aload_n 0, 1) := by decide +kernel
theorem dX1_openAll_44 : decode cX1_openAll 44 = .ok (.getfield 9, 3) := by decide +kernel
theorem dX1_openAll_47 : decode cX1_openAll 47 = .ok (.bipush 7, 2) := by decide +kernel
theorem dX1_openAll_49 : decode cX1_openAll 49 = .ok (.iastore, 1) := by decide +kernel
theorem dX1_openAll_50 : decode cX1_openAll 50 = .ok (.aload_n 0, 1) := by decide +kernel
theorem dX1_openAll_51 : decode cX1_openAll 51 = .ok (.dup, 1) := by decide +kernel
theorem dX1_openAll_52 : decode cX1_openAll 52 = .ok (.getfield 9, 3) := by decide +kernel
theorem dX1_openAll_55 : decode cX1_openAll 55 = .ok (.iconst 1, 1) := by decide +kernel
theorem dX1_openAll_56 : decode cX1_openAll 56 = .ok (.iadd, 1) := by decide +kernel
theorem dX1_openAll_57 : decode cX1_openAll 57 = .ok (.putfield 9, 3) := by decide +kernel
theorem dX1_openAll_60 : decode cX1_openAll 60 = .ok (.return_, 1) := by decide +kernel
theorem dX1_addSo_0 : decode cX1_addSo 0 = .ok (.aload_n 0, 1) := by decide +kernel
theorem dX1_addSo_1 : decode cX1_addSo 1 = .ok (.getfield 9, 3) := by decide +kernel
theorem dX1_addSo_4 : decode cX1_addSo 4 = .ok (.iconst 1, 1) := by decide +kernel
theorem dX1_addSo_5 : decode cX1_addSo 5 = .ok (.isub, 1) := by decide +kernel
theorem dX1_addSo_6 : decode cX1_addSo 6 = .ok (.istore_n 3, 1) := by decide +kernel
theorem dX1_addSo_7 : decode cX1_addSo 7 = .ok (.iload_n 3, 1) := by decide +kernel
theorem dX1_addSo_8 : decode cX1_addSo 8 = .ok (.ifCond .ge 4, 3) := by decide +kernel
theorem dX1_addSo_11 : decode cX1_addSo 11 = .ok (.return_, 1) := by decide +kernel
theorem dX1_addSo_12 : decode cX1_addSo 12 = .ok (.iload_n 2, 1) := by decide +kernel
theorem dX1_addSo_13 : decode cX1_addSo 13 = .ok (.ifCond .eq 18, 3) := by decide +kernel
theorem dX1_addSo_16 : decode cX1_addSo 16 = .ok (.aload_n 0, 1) := by decide +kernel
theorem dX1_addSo_17 : decode cX1_addSo 17 = .ok (.getfield 19, 3) := by decide +kernel
theorem dX1_addSo_20 : decode cX1_addSo 20 = .ok (.iload_n 3, 1) := by decide +kernel
theorem dX1_addSo_21 : decode cX1_addSo 21 = .ok (.dup2, 1) := by decide +kernel
theorem dX1_addSo_22 : decode cX1_addSo 22 = .ok (.iaload, 1) := by decide +kernel
theorem dX1_addSo_23 : decode cX1_addSo 23 = .ok (.iconst 1, 1) := by decide +kernel
theorem dX1_addSo_24 : decode cX1_addSo 24 = .ok (.iload_n 1, 1) := by decide +kernel
theorem dX1_addSo_25 : decode cX1_addSo 25 = .ok (.ishl, 1) := by decide +kernel
theorem dX1_addSo_26 : decode cX1_addSo 26 = .ok (.ior, 1) := by decide +kernel
theorem dX1_addSo_27 : decode cX1_addSo 27 = .ok (.iastore, 1) := by decide +kernel
theorem dX1_addSo_28 : decode cX1_addSo 28 = .ok (.goto 15, 3) := by decide +kernel
theorem dX1_addSo_31 : decode cX1_addSo 31 = .ok (.aload_n 0, 1) := by decide +kernel
theorem dX1_addSo_32 : decode cX1_addSo 32 = .ok (.getfield 15, 3) := by decide +kernel
theorem dX1_addSo_35 : decode cX1_addSo 35 = .ok (.iload_n 3, 1) := by decide +kernel
theorem dX1_addSo_36 : decode cX1_addSo 36 = .ok (.dup2, 1) := by decide +kernel
theorem dX1_addSo_37 : decode cX1_addSo 37 = .ok (.iaload, 1) := by decide +kernel
theorem dX1_addSo_38 : decode cX1_addSo 38 = .ok (.iconst 1, 1) := by decide +kernel
theorem dX1_addSo_39 : decode cX1_addSo 39 = .ok (.iload_n 1, 1) := by decide +kernel
theorem dX1_addSo_40 : decode cX1_addSo 40 = .ok (.ishl, 1) := by decide +kernel
theorem dX1_addSo_41 : decode cX1_addSo 41 = .ok (.ior, 1) := by decide +kernel
theorem dX1_addSo_42 : decode cX1_addSo 42 = .ok (.iastore, 1) := by decide +kernel
theorem dX1_addSo_43 : decode cX1_addSo 43 = .ok (.return_, 1) := by decide +kernel
theorem dX1_addAbove_0 : decode cX1_addAbove 0 = .ok (.aload_n 0, 1) := by decide +kernel
theorem dX1_addAbove_1 : decode cX1_addAbove 1 = .ok (.getfield 9, 3) := by decide +kernel
theorem dX1_addAbove_4 : decode cX1_addAbove 4 = .ok (.iconst 1, 1) := by decide +kernel
theorem dX1_addAbove_5 : decode cX1_addAbove 5 = .ok (.isub, 1) := by decide +kernel
theorem dX1_addAbove_6 : decode cX1_addAbove 6 = .ok (.istore_n 3, 1) := by decide +kernel
theorem dX1_addAbove_7 : decode cX1_addAbove 7 = .ok (.iload_n 3, 1) := by decide +kernel
theorem dX1_addAbove_8 : decode cX1_addAbove 8 = .ok (.ifCond .ge 4, 3) := by decide +kernel
theorem dX1_addAbove_11 : decode cX1_addAbove 11 = .ok (.return_, 1) := by decide +kernel
theorem dX1_addAbove_12 : decode cX1_addAbove 12 = .ok (.iload_n 2, 1) := by decide +kernel
theorem dX1_addAbove_13 : decode cX1_addAbove 13 = .ok (.ifCond .eq 22, 3) := by decide +kernel
theorem dX1_addAbove_16 : decode cX1_addAbove 16 = .ok (.aload_n 0, 1) := by decide +kernel
theorem dX1_addAbove_17 : decode cX1_addAbove 17 = .ok (.getfield 25, 3) := by decide +kernel
theorem dX1_addAbove_20 : decode cX1_addAbove 20 = .ok (.iload_n 3, 1) := by decide +kernel
theorem dX1_addAbove_21 : decode cX1_addAbove 21 = .ok (.aload_n 0, 1) := by decide +kernel
theorem dX1_addAbove_22 : decode cX1_addAbove 22 = .ok (.getfield 25, 3) := by decide +kernel
theorem dX1_addAbove_25 : decode cX1_addAbove 25 = .ok (.iload_n 3, 1) := by decide +kernel
theorem dX1_addAbove_26 : decode cX1_addAbove 26 = .ok (.iaload, 1) := by decide +kernel
theorem dX1_addAbove_27 : decode cX1_addAbove 27 = .ok (.iload_n 1, 1) := by decide +kernel
theorem dX1_addAbove_28 : decode cX1_addAbove 28 = .ok (.invokestatic 34, 3) := by decide +kernel
theorem dX1_addAbove_31 : decode cX1_addAbove 31 = .ok (.iastore, 1) := by decide +kernel
theorem dX1_addAbove_32 : decode cX1_addAbove 32 = .ok (.goto 19, 3) := by decide +kernel
theorem dX1_addAbove_35 : decode cX1_addAbove 35 = .ok (.aload_n 0, 1) := by decide +kernel
theorem dX1_addAbove_36 : decode cX1_addAbove 36 = .ok (.getfield 22, 3) := by decide +kernel
theorem dX1_addAbove_39 : decode cX1_addAbove 39 = .ok (.iload_n 3, 1) := by decide +kernel
theorem dX1_addAbove_40 : decode cX1_addAbove 40 = .ok (.aload_n 0, 1) := by decide +kernel
theorem dX1_addAbove_41 : decode cX1_addAbove 41 = .ok (.getfield 22, 3) := by decide +kernel
theorem dX1_addAbove_44 : decode cX1_addAbove 44 = .ok (.iload_n 3, 1) := by decide +kernel
theorem dX1_addAbove_45 : decode cX1_addAbove 45 = .ok (.iaload, 1) := by decide +kernel
theorem dX1_addAbove_46 : decode cX1_addAbove 46 = .ok (.iload_n 1, 1) := by decide +kernel
theorem dX1_addAbove_47 : decode cX1_addAbove 47 = .ok (.invokestatic 40, 3) := by decide +kernel
theorem dX1_addAbove_50 : decode cX1_addAbove 50 = .ok (.iastore, 1) := by decide +kernel
theorem dX1_addAbove_51 : decode cX1_addAbove 51 = .ok (.return_, 1) := by decide +kernel
theorem dX1_isMet_0 : decode cX1_isMet 0 = .ok (.iconst 0, 1) := by decide +kernel
theorem dX1_isMet_1 : decode cX1_isMet 1 = .ok (.istore_n 3, 1) := by decide +kernel
theorem dX1_isMet_2 : decode cX1_isMet 2 = .ok (.iload_n 3, 1) := by decide +kernel
theorem dX1_isMet_3 : decode cX1_isMet 3 = .ok (.aload_n 0, 1) := by decide +kernel
theorem dX1_isMet_4 : decode cX1_isMet 4 = .ok (.getfield 9, 3) := by decide +kernel
theorem dX1_isMet_7 : decode cX1_isMet 7 = .ok (.if_icmp .ge 71, 3) := by decide +kernel
theorem dX1_isMet_10 : decode cX1_isMet 10 = .ok (.iload_n 1, 1) := by decide +kernel
theorem dX1_isMet_11 : decode cX1_isMet 11 = .ok (.aload_n 0, 1) := by decide +kernel
theorem dX1_isMet_12 : decode cX1_isMet 12 = .ok (.getfield 15, 3) := by decide +kernel
theorem dX1_isMet_15 : decode cX1_isMet 15 = .ok (.iload_n 3, 1) := by decide +kernel
theorem dX1_isMet_16 : decode cX1_isMet 16 = .ok (.iaload, 1) := by decide +kernel
theorem dX1_isMet_17 : decode cX1_isMet 17 = .ok (.iand, 1) := by decide +kernel
theorem dX1_isMet_18 : decode cX1_isMet 18 = .ok (.aload_n 0, 1) := by decide +kernel
theorem dX1_isMet_19 : decode cX1_isMet 19 = .ok (.getfield 15, 3) := by decide +kernel
theorem dX1_isMet_22 : decode cX1_isMet 22 = .ok (.iload_n 3, 1) := by decide +kernel
theorem dX1_isMet_23 : decode cX1_isMet 23 = .ok (.iaload, 1) := by decide +kernel
theorem dX1_isMet_24 : decode cX1_isMet 24 = .ok (.if_icmp .ne 18, 3) := by decide +kernel
theorem dX1_isMet_27 : decode cX1_isMet 27 = .ok (.iload_n 1, 1) := by decide +kernel
theorem dX1_isMet_28 : decode cX1_isMet 28 = .ok (.aload_n 0, 1) := by decide +kernel
theorem dX1_isMet_29 : decode cX1_isMet 29 = .ok (.getfield 19, 3) := by decide +kernel
theorem dX1_isMet_32 : decode cX1_isMet 32 = .ok (.iload_n 3, 1) := by decide +kernel
theorem dX1_isMet_33 : decode cX1_isMet 33 = .ok (.iaload, 1) := by decide +kernel
theorem dX1_isMet_34 : decode cX1_isMet 34 = .ok (.iand, 1) := by decide +kernel
theorem dX1_isMet_35 : decode cX1_isMet 35 = .ok (.ifCond .ne 7, 3) := by decide +kernel
theorem dX1_isMet_38 : decode cX1_isMet 38 = .ok (.iconst 1, 1) := by decide +kernel
theorem dX1_isMet_39 : decode cX1_isMet 39 = .ok (.goto 4, 3) := by decide +kernel
theorem dX1_isMet_42 : decode cX1_isMet 42 = .ok (.iconst 0, 1) := by decide +kernel
theorem dX1_isMet_43 : decode cX1_isMet 43 = .ok (.istore 4, 2) := by decide +kernel
theorem dX1_isMet_45 : decode cX1_isMet 45 = .ok (.iload 4, 2) := by decide +kernel
theorem dX1_isMet_47 : decode cX1_isMet 47 = .ok (.ifCond .eq 25, 3) := by decide +kernel
theorem dX1_isMet_50 : decode cX1_isMet 50 = .ok (.iload_n 2, 1) := by decide +kernel
theorem dX1_isMet_51 : decode cX1_isMet 51 = .ok (.aload_n 0, 1) := by decide +kernel
theorem dX1_isMet_52 : decode cX1_isMet 52 = .ok (.getfield 22, 3) := by decide +kernel
theorem dX1_isMet_55 : decode cX1_isMet 55 = .ok (.iload_n 3, 1) := by decide +kernel
theorem dX1_isMet_56 : decode cX1_isMet 56 = .ok (.iaload, 1) := by decide +kernel
theorem dX1_isMet_57 : decode cX1_isMet 57 = .ok (.if_icmp .le 15, 3) := by decide +kernel
theorem dX1_isMet_60 : decode cX1_isMet 60 = .ok (.iload_n 2, 1) := by decide +kernel
theorem dX1_isMet_61 : decode cX1_isMet 61 = .ok (.aload_n 0, 1) := by decide +kernel
theorem dX1_isMet_62 : decode cX1_isMet 62 = .ok (.getfield 25, 3) := by decide +kernel
theorem dX1_isMet_65 : decode cX1_isMet 65 = .ok (.iload_n 3, 1) := by decide +kernel
theorem dX1_isMet_66 : decode cX1_isMet 66 = .ok (.iaload, 1) := by decide +kernel
theorem dX1_isMet_67 : decode cX1_isMet 67 = .ok (.if_icmp .gt 5, 3) := by decide +kernel
theorem dX1_isMet_70 : decode cX1_isMet 70 = .ok (.iconst 1, 1) := by decide +kernel
theorem dX1_isMet_71 : decode cX1_isMet 71 = .ok (.ireturn, 1) := by decide +kernel
theorem dX1_isMet_72 : decode cX1_isMet 72 = .ok (.iinc 3 1, 3) := by decide +kernel
theorem dX1_isMet_75 : decode cX1_isMet 75 = .ok (.goto (-73), 3) := by decide +kernel
theorem dX1_isMet_78 : decode cX1_isMet 78 = .ok (.aload_n 0, 1) := by decide +kernel
theorem dX1_isMet_79 : decode cX1_isMet 79 = .ok (.getfield 9, 3) := by decide +kernel
theorem dX1_isMet_82 : decode cX1_isMet 82 = .ok (.ifCond .ne 7, 3) := by decide +kernel
theorem dX1_isMet_85 : decode cX1_isMet 85 = .ok (.iconst 1, 1) := by decide +kernel
theorem dX1_isMet_86 : decode cX1_isMet 86 = .ok (.goto 4, 3) := by decide +kernel
theorem dX1_isMet_89 : decode cX1_isMet 89 = .ok (.iconst 0, 1) := by decide +kernel
theorem dX1_isMet_90 : decode cX1_isMet 90 = .ok (.ireturn, 1) := by decide +kernel
theorem dX2_init_0 : decode cX2_init 0 = .ok (.aload_n 0, 1) := by decide +kernel
theorem dX2_init_1 : decode cX2_init 1 = .ok (.invokespecial 3, 3) := by decide +kernel
theorem dX2_init_4 : decode cX2_init 4 = .ok (.aload_n 0, 1) := by decide +kernel
theorem dX2_init_5 : decode cX2_init 5 = .ok (.sipush 13312, 3) := by decide +kernel
theorem dX2_init_8 : decode cX2_init 8 = .ok (.newarray .int, 2) := by decide +kernel
theorem dX2_init_10 : decode cX2_init 10 = .ok (.putfield 9, 3) := by decide +kernel
theorem dX2_init_13 : decode cX2_init 13 = .ok (.aload_n 0, 1) := by decide +kernel
theorem dX2_init_14 : decode cX2_init 14 = .ok (.sipush 2048, 3) := by decide +kernel
theorem dX2_init_17 : decode cX2_init 17 = .ok (.newarray .long, 2) := by decide +kernel
theorem dX2_init_19 : decode cX2_init 19 = .ok (.putfield 15, 3) := by decide +kernel
theorem dX2_init_22 : decode cX2_init 22 = .ok (.aload_n 0, 1) := by decide +kernel
theorem dX2_init_23 : decode cX2_init 23 = .ok (.sipush 1024, 3) := by decide +kernel
theorem dX2_init_26 : decode cX2_init 26 = .ok (.newarray .int, 2) := by decide +kernel
theorem dX2_init_28 : decode cX2_init 28 = .ok (.putfield 19, 3) := by decide +kernel
theorem dX2_init_31 : decode cX2_init 31 = .ok (.aload_n 0, 1) := by decide +kernel
theorem dX2_init_32 : decode cX2_init 32 = .ok (.iconst 0, 1) := by decide +kernel
theorem dX2_init_33 : decode cX2_init 33 = .ok (.putfield 22, 3) := by decide +kernel
theorem dX2_init_36 : decode cX2_init 36 = .ok (.aload_n 0, 1) := by decide +kernel
theorem dX2_init_37 : decode cX2_init 37 = .ok (.iconst 1, 1) := by decide +kernel
theorem dX2_init_38 : decode cX2_init 38 = .ok (.putfield 26, 3) := by decide +kernel
theorem dX2_init_41 : decode cX2_init 41 = .ok (.aload_n 0, 1) := by decide +kernel
theorem dX2_init_42 : decode cX2_init 42 = .ok (.iconst 1, 1) := by decide +kernel
theorem dX2_init_43 : decode cX2_init 43 = .ok (.putfield 29, 3) := by decide +kernel
theorem dX2_init_46 : decode cX2_init 46 = .ok (.aload_n 0, 1) := by decide +kernel
theorem dX2_init_47 : decode cX2_init 47 = .ok (.iconst 1, 1) := by decide +kernel
theorem dX2_init_48 : decode cX2_init 48 = .ok (.putfield 32, 3) := by decide +kernel
theorem dX2_init_51 : decode cX2_init 51 = .ok (.aload_n 0, 1) := by decide +kernel
theorem dX2_init_52 : decode cX2_init 52 = .ok (.iconst 0, 1) := by decide +kernel
theorem dX2_init_53 : decode cX2_init 53 = .ok (.putfield 35, 3) := by decide +kernel
theorem dX2_init_56 : decode cX2_init 56 = .ok (.aload_n 0, 1) := by decide +kernel
theorem dX2_init_57 : decode cX2_init 57 = .ok (.iconst (-1), 1) := by decide +kernel
theorem dX2_init_58 : decode cX2_init 58 = .ok (.putfield 38, 3) := by decide +kernel
theorem dX2_init_61 : decode cX2_init 61 = .ok (.aload_n 0, 1) := by decide +kernel
theorem dX2_init_62 : decode cX2_init 62 = .ok (.lconst 0, 1) := by decide +kernel
theorem dX2_init_63 : decode cX2_init 63 = .ok (.putfield 41, 3) := by decide +kernel
theorem dX2_init_66 : decode cX2_init 66 = .ok (.aload_n 0, 1) := by decide +kernel
theorem dX2_init_67 : decode cX2_init 67 = .ok (.bipush 12, 2) := by decide +kernel
theorem dX2_init_69 : decode cX2_init 69 = .ok (.newarray .int, 2) := by decide +kernel
theorem dX2_init_71 : decode cX2_init 71 = .ok (.putfield 45, 3) := by decide +kernel
theorem dX2_init_74 : decode cX2_init 74 = .ok (.aload_n 0, 1) := by decide +kernel
theorem dX2_init_75 : decode cX2_init 75 = .ok (.bipush 12, 2) := by decide +kernel
theorem dX2_init_77 : decode cX2_init 77 = .ok (.newarray .int, 2) := by decide +kernel
theorem dX2_init_79 : decode cX2_init 79 = .ok (.putfield 48, 3) := by decide +kernel
theorem dX2_init_82 : decode cX2_init 82 = .ok (.aload_n 0, 1) := by decide +kernel
theorem dX2_init_83 : decode cX2_init 83 = .ok (.bipush 12, 2) := by decide +kernel
theorem dX2_init_85 : decode cX2_init 85 = .ok (.newarray .int, 2) := by decide +kernel
theorem dX2_init_87 : decode cX2_init 87 = .ok (.putfield 51, 3) := by decide +kernel
theorem dX2_init_90 : decode cX2_init 90 = .ok (.aload_n 0, 1) := by decide +kernel
theorem dX2_init_91 : decode cX2_init 91 = .ok (.bipush 12, 2) := by decide +kernel
theorem dX2_init_93 : decode cX2_init 93 = .ok (.newarray .int, 2) := by decide +kernel
theorem dX2_init_95 : decode cX2_init 95 = .ok (.putfield 54, 3) := by decide +kernel
theorem dX2_init_98 : decode cX2_init 98 = .ok (.aload_n 0, 1) := by decide +kernel
theorem dX2_init_99 : decode cX2_init 99 = .ok (.aload_n 1, 1) := by decide +kernel
theorem dX2_init_100 : decode cX2_init 100 = .ok (.putfield 57, 3) := by decide +kernel
theorem dX2_init_103 : decode cX2_init 103 = .ok (.aload_n 0, 1) := by decide +kernel
theorem dX2_init_104 : decode cX2_init 104 = .ok (.aload_n 2, 1) := by decide +kernel
theorem dX2_init_105 : decode cX2_init 105 = .ok (.putfield 61, 3) := by decide +kernel
theorem dX2_init_108 : decode cX2_init 108 = .ok (.aload_n 0, 1) := by decide +kernel
theorem dX2_init_109 : decode cX2_init 109 = .ok (.aload_n 3, 1) := by decide +kernel
theorem dX2_init_110 : decode cX2_init 110 = .ok (.putfield 64, 3) := by decide +kernel
theorem dX2_init_113 : decode cX2_init 113 = .ok (.aload_n 0, 1) := by decide +kernel
theorem dX2_init_114 : decode cX2_init 114 = .ok (.new 67, 3) := by decide +kernel
theorem dX2_init_117 : decode cX2_init 117 = .ok (.dup, 1) := by decide +kernel
theorem dX2_init_118 : decode cX2_init 118 = .ok (.aload_n 1, 1) := by decide +kernel
theorem dX2_init_119 : decode cX2_init 119 = .ok (.invokespecial 69, 3) := by decide +kernel
theorem dX2_init_122 : decode cX2_init 122 = .ok (.putfield 72, 3) := by decide +kernel
theorem dX2_init_125 : decode cX2_init 125 = .ok (.return_, 1) := by decide +kernel
theorem dX2_find_0 : decode cX2_find 0 = .ok (.aload_n 0, 1) := by decide +kernel
theorem dX2_find_1 : decode cX2_find 1 = .ok (.getfield 72, 3) := by decide +kernel
theorem dX2_find_4 : decode cX2_find 4 = .ok (.iload_n 1, 1) := by decide +kernel
theorem dX2_find_5 : decode cX2_find 5 = .ok (.invokevirtual 76, 3) := by decide +kernel
theorem dX2_find_8 : decode cX2_find 8 = .ok (.iload_n 2, 1) := by decide +kernel
theorem dX2_find_9 : decode cX2_find 9 = .ok (.iconst (-1), 1) := by decide +kernel
theorem dX2_find_10 : decode cX2_find 10 = .ok (.if_icmp .eq 12, 3) := by decide +kernel
theorem dX2_find_13 : decode cX2_find 13 = .ok (.aload_n 0, 1) := by decide +kernel
theorem dX2_find_14 : decode cX2_find 14 = .ok (.getfield 72, 3) := by decide +kernel
theorem dX2_find_17 : decode cX2_find 17 = .ok (.iload_n 2, 1) := by decide +kernel
theorem dX2_find_18 : decode cX2_find 18 = .ok (.iload_n 3, 1) := by decide +kernel
theorem dX2_find_19 : decode cX2_find 19 = .ok (.invokevirtual 80, 3) := by decide +kernel
theorem dX2_find_22 : decode cX2_find 22 = .ok (.aload_n 0, 1) := by decide +kernel
theorem dX2_find_23 : decode cX2_find 23 = .ok (.invokevirtual 84, 3) := by decide +kernel
theorem dX2_find_26 : decode cX2_find 26 = .ok (.aload_n 0, 1) := by decide +kernel
theorem dX2_find_27 : decode cX2_find 27 = .ok (.iconst 0, 1) := by decide +kernel
theorem dX2_find_28 : decode cX2_find 28 = .ok (.invokevirtual 87, 3) := by decide +kernel
theorem dX2_find_31 : decode cX2_find 31 = .ok (.iconst 0, 1) := by decide +kernel
theorem dX2_find_32 : decode cX2_find 32 = .ok (.istore 4, 2) := by decide +kernel
theorem dX2_find_34 : decode cX2_find 34 = .ok (.iload 4, 2) := by decide +kernel
theorem dX2_find_36 : decode cX2_find 36 = .ok (.iconst 1, 1) := by decide +kernel
theorem dX2_find_37 : decode cX2_find 37 = .ok (.aload_n 0, 1) := by decide +kernel
theorem dX2_find_38 : decode cX2_find 38 = .ok (.getfield 22, 3) := by decide +kernel
theorem dX2_find_41 : decode cX2_find 41 = .ok (.ishl, 1) := by decide +kernel
theorem dX2_find_42 : decode cX2_find 42 = .ok (.if_icmp .ge 17, 3) := by decide +kernel
theorem dX2_find_45 : decode cX2_find 45 = .ok (.aload_n 0, 1) := by decide +kernel
theorem dX2_find_46 : decode cX2_find 46 = .ok (.getfield 9, 3) := by decide +kernel
theorem dX2_find_49 : decode cX2_find 49 = .ok (.iload 4, 2) := by decide +kernel
theorem dX2_find_51 : decode cX2_find 51 = .ok (.iconst 0, 1) := by decide +kernel
theorem dX2_find_52 : decode cX2_find 52 = .ok (.iastore, 1) := by decide +kernel
theorem dX2_find_53 : decode cX2_find 53 = .ok (.iinc 4 1, 3) := by decide +kernel
theorem dX2_find_56 : decode cX2_find 56 = .ok (.goto (-22), 3) := by decide +kernel
theorem dX2_find_59 : decode cX2_find 59 = .ok (.iconst 0, 1) := by decide +kernel
theorem dX2_find_60 : decode cX2_find 60 = .ok (.istore 4, 2) := by decide +kernel
theorem dX2_find_62 : decode cX2_find 62 = .ok (.iload 4, 2) := by decide +kernel
theorem dX2_find_64 : decode cX2_find 64 = .ok (.bipush 12, 2) := by decide +kernel
theorem dX2_find_66 : decode cX2_find 66 = .ok (.if_icmp .ge 24, 3) := by decide +kernel
theorem dX2_find_69 : decode cX2_find 69 = .ok (.aload_n 0, 1) := by decide +kernel
theorem dX2_find_70 : decode cX2_find 70 = .ok (.iload 4, 2) := by decide +kernel
theorem dX2_find_72 : decode cX2_find 72 = .ok (.iconst 1, 1) := by decide +kernel
theorem dX2_find_73 : decode cX2_find 73 = .ok (.iadd, 1) := by decide +kernel
theorem dX2_find_74 : decode cX2_find 74 = .ok (.invokevirtual 87, 3) := by decide +kernel
theorem dX2_find_77 : decode cX2_find 77 = .ok (.aload_n 0, 1) := by decide +kernel
theorem dX2_find_78 : decode cX2_find 78 = .ok (.iconst 0, 1) := by decide +kernel
theorem dX2_find_79 : decode cX2_find 79 = .ok (.iload 4, 2) := by decide +kernel
theorem dX2_find_81 : decode cX2_find 81 = .ok (.invokevirtual 90, 3) := by decide +kernel
theorem dX2_find_84 : decode cX2_find 84 = .ok (.iinc 4 1, 3) := by decide +kernel
theorem dX2_find_87 : decode cX2_find 87 = .ok (.goto (-25), 3) := by decide +kernel
theorem dX2_find_90 : decode cX2_find 90 = .ok (.ldc 93, 2) := by decide +kernel
theorem dX2_find_92 : decode cX2_find 92 = .ok (.istore 4, 2) := by decide +kernel
theorem dX2_find_94 : decode cX2_find 94 = .ok (.iconst 0, 1) := by decide +kernel
theorem dX2_find_95 : decode cX2_find 95 = .ok (.istore 5, 2) := by decide +kernel
theorem dX2_find_97 : decode cX2_find 97 = .ok (.iload 5, 2) := by decide +kernel
theorem dX2_find_99 : decode cX2_find 99 = .ok (.aload_n 0, 1) := by decide +kernel
theorem dX2_find_100 : decode cX2_find 100 = .ok (.getfield 32, 3) := by decide +kernel
theorem dX2_find_103 : decode cX2_find 103 = .ok (.if_icmp .ge 27, 3) := by decide +kernel
theorem dX2_find_106 : decode cX2_find 106 = .ok (.iload 4, 2) := by decide +kernel
theorem dX2_find_108 : decode cX2_find 108 = .ok (.aload_n 0, 1) := by decide +kernel
theorem dX2_find_109 : decode cX2_find 109 = .ok (.getfield 9, 3) := by decide +kernel
theorem dX2_find_112 : decode cX2_find 112 = .ok (.sipush 12288, 3) := by decide +kernel
theorem dX2_find_115 : decode cX2_find 115 = .ok (.iload 5, 2) := by decide +kernel
theorem dX2_find_117 : decode cX2_find 117 = .ok (.iadd, 1) := by decide +kernel
theorem dX2_find_118 : decode cX2_find 118 = .ok (.iaload, 1) := by decide +kernel
theorem dX2_find_119 : decode cX2_find 119 = .ok (.invokestatic 94, 3) := by decide +kernel
theorem dX2_find_122 : decode cX2_find 122 = .ok (.istore 4, 2) := by decide +kernel
theorem dX2_find_124 : decode cX2_find 124 = .ok (.iinc 5 1, 3) := by decide +kernel
theorem dX2_find_127 : decode cX2_find 127 = .ok (.goto (-30), 3) := by decide +kernel
theorem dX2_find_130 : decode cX2_find 130 = .ok (.aload_n 0, 1) := by decide +kernel
theorem dX2_find_131 : decode cX2_find 131 = .ok (.iload 4, 2) := by decide +kernel
theorem dX2_find_133 : decode cX2_find 133 = .ok (.ldc 93, 2) := by decide +kernel
theorem dX2_find_135 : decode cX2_find 135 = .ok (.if_icmp .ge 8, 3) := by decide +kernel
theorem dX2_find_138 : decode cX2_find 138 = .ok (.iload 4, 2) := by decide +kernel
theorem dX2_find_140 : decode cX2_find 140 = .ok (.goto 4, 3) := by decide +kernel
theorem dX2_find_143 : decode cX2_find 143 = .ok (.iconst (-1), 1) := by decide +kernel
theorem dX2_find_144 : decode cX2_find 144 = .ok (.putfield 38, 3) := by decide +kernel
theorem dX2_find_147 : decode cX2_find 147 = .ok (.aload_n 0, 1) := by decide +kernel
theorem dX2_find_148 : decode cX2_find 148 = .ok (.lconst 0, 1) := by decide +kernel
theorem dX2_find_149 : decode cX2_find 149 = .ok (.putfield 41, 3) := by decide +kernel
theorem dX2_find_152 : decode cX2_find 152 = .ok (.iload 4, 2) := by decide +kernel
theorem dX2_find_154 : decode cX2_find 154 = .ok (.ldc 93, 2) := by decide +kernel
theorem dX2_find_156 : decode cX2_find 156 = .ok (.if_icmp .ge 7, 3) := by decide +kernel
theorem dX2_find_159 : decode cX2_find 159 = .ok (.iconst 1, 1) := by decide +kernel
theorem dX2_find_160 : decode cX2_find 160 = .ok (.goto 4, 3) := by decide +kernel
theorem dX2_find_163 : decode cX2_find 163 = .ok (.iconst 0, 1) := by decide +kernel
theorem dX2_find_164 : decode cX2_find 164 = .ok (.ireturn, 1) := by decide +kernel
theorem dX2_sizeUp_0 : decode cX2_sizeUp 0 = .ok (.aload_n 0, 1) := by decide +kernel
theorem dX2_sizeUp_1 : decode cX2_sizeUp 1 = .ok (.aload_n 0, 1) := by decide +kernel
theorem dX2_sizeUp_2 : decode cX2_sizeUp 2 = .ok (.getfield 57, 3) := by decide +kernel
theorem dX2_sizeUp_5 : decode cX2_sizeUp 5 = .ok (.iconst 1, 1) := by decide +kernel
theorem dX2_sizeUp_6 : decode cX2_sizeUp 6 = .ok (.invokevirtual 100, 3) := by decide +kernel
theorem dX2_sizeUp_9 : decode cX2_sizeUp 9 = .ok (.putfield 22, 3) := by decide +kernel
theorem dX2_sizeUp_12 : decode cX2_sizeUp 12 = .ok (.aload_n 0, 1) := by decide +kernel
theorem dX2_sizeUp_13 : decode cX2_sizeUp 13 = .ok (.aload_n 0, 1) := by decide +kernel
theorem dX2_sizeUp_14 : decode cX2_sizeUp 14 = .ok (.getfield 57, 3) := by decide +kernel
theorem dX2_sizeUp_17 : decode cX2_sizeUp 17 = .ok (.invokevirtual 106, 3) := by decide +kernel
theorem dX2_sizeUp_20 : decode cX2_sizeUp 20 = .ok (.putfield 26, 3) := by decide +kernel
theorem dX2_sizeUp_23 : decode cX2_sizeUp 23 = .ok (.aload_n 0, 1) := by decide +kernel
theorem dX2_sizeUp_24 : decode cX2_sizeUp 24 = .ok (.iconst 1, 1) := by decide +kernel
theorem dX2_sizeUp_25 : decode cX2_sizeUp 25 = .ok (.aload_n 0, 1) := by decide +kernel
theorem dX2_sizeUp_26 : decode cX2_sizeUp 26 = .ok (.getfield 72, 3) := by decide +kernel
theorem dX2_sizeUp_29 : decode cX2_sizeUp 29 = .ok (.getfield 110, 3) := by decide +kernel
theorem dX2_sizeUp_32 : decode cX2_sizeUp 32 = .ok (.ishl, 1) := by decide +kernel
theorem dX2_sizeUp_33 : decode cX2_sizeUp 33 = .ok (.putfield 29, 3) := by decide +kernel
theorem dX2_sizeUp_36 : decode cX2_sizeUp 36 = .ok (.aload_n 0, 1) := by decide +kernel
theorem dX2_sizeUp_37 : decode cX2_sizeUp 37 = .ok (.aload_n 0, 1) := by decide +kernel
theorem dX2_sizeUp_38 : decode cX2_sizeUp 38 = .ok (.getfield 29, 3) := by decide +kernel
theorem dX2_sizeUp_41 : decode cX2_sizeUp 41 = .ok (.iconst 1, 1) := by decide +kernel
theorem dX2_sizeUp_42 : decode cX2_sizeUp 42 = .ok (.isub, 1) := by decide +kernel
theorem dX2_sizeUp_43 : decode cX2_sizeUp 43 = .ok (.bipush 8, 2) := by decide +kernel
theorem dX2_sizeUp_45 : decode cX2_sizeUp 45 = .ok (.ishl, 1) := by decide +kernel
theorem dX2_sizeUp_46 : decode cX2_sizeUp 46 = .ok (.aload_n 0, 1) := by decide +kernel
theorem dX2_sizeUp_47 : decode cX2_sizeUp 47 = .ok (.getfield 26, 3) := by decide +kernel
theorem dX2_sizeUp_50 : decode cX2_sizeUp 50 = .ok (.iadd, 1) := by decide +kernel
theorem dX2_sizeUp_51 : decode cX2_sizeUp 51 = .ok (.putfield 32, 3) := by decide +kernel
theorem dX2_sizeUp_54 : decode cX2_sizeUp 54 = .ok (.return_, 1) := by decide +kernel
theorem dX2_keepBest_0 : decode cX2_keepBest 0 = .ok (.iconst 0, 1) := by decide +kernel
theorem dX2_keepBest_1 : decode cX2_keepBest 1 = .ok (.istore_n 2, 1) := by decide +kernel
theorem dX2_keepBest_2 : decode cX2_keepBest 2 = .ok (.iload_n 2, 1) := by decide +kernel
theorem dX2_keepBest_3 : decode cX2_keepBest 3 = .ok (.aload_n 0, 1) := by decide +kernel
theorem dX2_keepBest_4 : decode cX2_keepBest 4 = .ok (.getfield 32, 3) := by decide +kernel
theorem dX2_keepBest_7 : decode cX2_keepBest 7 = .ok (.if_icmp .ge 79, 3) := by decide +kernel
theorem dX2_keepBest_10 : decode cX2_keepBest 10 = .ok (.sipush 12288, 3) := by decide +kernel
theorem dX2_keepBest_13 : decode cX2_keepBest 13 = .ok (.iload_n 2, 1) := by decide +kernel
theorem dX2_keepBest_14 : decode cX2_keepBest 14 = .ok (.iadd, 1) := by decide +kernel
theorem dX2_keepBest_15 : decode cX2_keepBest 15 = .ok (.istore_n 3, 1) := by decide +kernel
theorem dX2_keepBest_16 : decode cX2_keepBest 16 = .ok (.aload_n 0, 1) := by decide +kernel
theorem dX2_keepBest_17 : decode cX2_keepBest 17 = .ok (.getfield 9, 3) := by decide +kernel
theorem dX2_keepBest_20 : decode cX2_keepBest 20 = .ok (.iload_n 3, 1) := by decide +kernel
theorem dX2_keepBest_21 : decode cX2_keepBest 21 = .ok (.iaload, 1) := by decide +kernel
theorem dX2_keepBest_22 : decode cX2_keepBest 22 = .ok (.aload_n 0, 1) := by decide +kernel
theorem dX2_keepBest_23 : decode cX2_keepBest 23 = .ok (.getfield 38, 3) := by decide +kernel
theorem dX2_keepBest_26 : decode cX2_keepBest 26 = .ok (.if_icmp .ne 7, 3) := by decide +kernel
theorem dX2_keepBest_29 : decode cX2_keepBest 29 = .ok (.iconst 1, 1) := by decide +kernel
theorem dX2_keepBest_30 : decode cX2_keepBest 30 = .ok (.goto 4, 3) := by decide +kernel
theorem dX2_keepBest_33 : decode cX2_keepBest 33 = .ok (.iconst 0, 1) := by decide +kernel
theorem dX2_keepBest_34 : decode cX2_keepBest 34 = .ok (.istore 4, 2) := by decide +kernel
theorem dX2_keepBest_36 : decode cX2_keepBest 36 = .ok (.aload_n 0, 1) := by decide +kernel
theorem dX2_keepBest_37 : decode cX2_keepBest 37 = .ok (.getfield 9, 3) := by decide +kernel
theorem dX2_keepBest_40 : decode cX2_keepBest 40 = .ok (.iload_n 3, 1) := by decide +kernel
theorem dX2_keepBest_41 : decode cX2_keepBest 41 = .ok (.iload 4, 2) := by decide +kernel
theorem dX2_keepBest_43 : decode cX2_keepBest 43 = .ok (.ifCond .eq 12, 3) := by decide +kernel
theorem dX2_keepBest_46 : decode cX2_keepBest 46 = .ok (.aload_n 0, 1) := by decide +kernel
theorem dX2_keepBest_47 : decode cX2_keepBest 47 = .ok (.getfield 9, 3) := by decide +kernel
theorem dX2_keepBest_50 : decode cX2_keepBest 50 = .ok (.iload_n 3, 1) := by decide +kernel
theorem dX2_keepBest_51 : decode cX2_keepBest 51 = .ok (.iaload, 1) := by decide +kernel
theorem dX2_keepBest_52 : decode cX2_keepBest 52 = .ok (.goto 5, 3) := by decide +kernel
theorem dX2_keepBest_55 : decode cX2_keepBest 55 = .ok (.ldc 93, 2) := by decide +kernel
theorem dX2_keepBest_57 : decode cX2_keepBest 57 = .ok (.iastore, 1) := by decide +kernel
theorem dX2_keepBest_58 : decode cX2_keepBest 58 = .ok (.aload_n 0, 1) := by decide +kernel
theorem dX2_keepBest_59 : decode cX2_keepBest 59 = .ok (.getfield 15, 3) := by decide +kernel
theorem dX2_keepBest_62 : decode cX2_keepBest 62 = .ok (.bipush 12, 2) := by decide +kernel
theorem dX2_keepBest_64 : decode cX2_keepBest 64 = .ok (.invokestatic 113, 3) := by decide +kernel
theorem dX2_keepBest_67 : decode cX2_keepBest 67 = .ok (.iload_n 2, 1) := by decide +kernel
theorem dX2_keepBest_68 : decode cX2_keepBest 68 = .ok (.iadd, 1) := by decide +kernel
theorem dX2_keepBest_69 : decode cX2_keepBest 69 = .ok (.iload 4, 2) := by decide +kernel
theorem dX2_keepBest_71 : decode cX2_keepBest 71 = .ok (.ifCond .eq 7, 3) := by decide +kernel
theorem dX2_keepBest_74 : decode cX2_keepBest 74 = .ok (.lconst 1, 1) := by decide +kernel
theorem dX2_keepBest_75 : decode cX2_keepBest 75 = .ok (.goto 4, 3) := by decide +kernel
theorem dX2_keepBest_78 : decode cX2_keepBest 78 = .ok (.lconst 0, 1) := by decide +kernel
theorem dX2_keepBest_79 : decode cX2_keepBest 79 = .ok (.lastore, 1) := by decide +kernel
theorem dX2_keepBest_80 : decode cX2_keepBest 80 = .ok (.iinc 2 1, 3) := by decide +kernel
theorem dX2_keepBest_83 : decode cX2_keepBest 83 = .ok (.goto (-81), 3) := by decide +kernel
theorem dX2_keepBest_86 : decode cX2_keepBest 86 = .ok (.bipush 11, 2) := by decide +kernel
theorem dX2_keepBest_88 : decode cX2_keepBest 88 = .ok (.istore_n 2, 1) := by decide +kernel
theorem dX2_keepBest_89 : decode cX2_keepBest 89 = .ok (.iload_n 2, 1) := by decide +kernel
theorem dX2_keepBest_90 : decode cX2_keepBest 90 = .ok (.iload_n 1, 1) := by decide +kernel
theorem dX2_keepBest_91 : decode cX2_keepBest 91 = .ok (.if_icmp .lt 53, 3) := by decide +kernel
theorem dX2_keepBest_94 : decode cX2_keepBest 94 = .ok (.aload_n 0, 1) := by decide +kernel
theorem dX2_keepBest_95 : decode cX2_keepBest 95 = .ok (.getfield 45, 3) := by decide +kernel
theorem dX2_keepBest_98 : decode cX2_keepBest 98 = .ok (.iload_n 2, 1) := by decide +kernel
theorem dX2_keepBest_99 : decode cX2_keepBest 99 = .ok (.iconst (-1), 1) := by decide +kernel
theorem dX2_keepBest_100 : decode cX2_keepBest 100 = .ok (.iastore, 1) := by decide +kernel
theorem dX2_keepBest_101 : decode cX2_keepBest 101 = .ok (.aload_n 0, 1) := by decide +kernel
theorem dX2_keepBest_102 : decode cX2_keepBest 102 = .ok (.getfield 48, 3) := by decide +kernel
theorem dX2_keepBest_105 : decode cX2_keepBest 105 = .ok (.iload_n 2, 1) := by decide +kernel
theorem dX2_keepBest_106 : decode cX2_keepBest 106 = .ok (.iconst 0, 1) := by decide +kernel
theorem dX2_keepBest_107 : decode cX2_keepBest 107 = .ok (.iastore, 1) := by decide +kernel
theorem dX2_keepBest_108 : decode cX2_keepBest 108 = .ok (.aload_n 0, 1) := by decide +kernel
theorem dX2_keepBest_109 : decode cX2_keepBest 109 = .ok (.getfield 51, 3) := by decide +kernel
theorem dX2_keepBest_112 : decode cX2_keepBest 112 = .ok (.iload_n 2, 1) := by decide +kernel
theorem dX2_keepBest_113 : decode cX2_keepBest 113 = .ok (.iconst 0, 1) := by decide +kernel
theorem dX2_keepBest_114 : decode cX2_keepBest 114 = .ok (.iastore, 1) := by decide +kernel
theorem dX2_keepBest_115 : decode cX2_keepBest 115 = .ok (.aload_n 0, 1) := by decide +kernel
theorem dX2_keepBest_116 : decode cX2_keepBest 116 = .ok (.getfield 54, 3) := by decide +kernel
theorem dX2_keepBest_119 : decode cX2_keepBest 119 = .ok (.iload_n 2, 1) := by decide +kernel
theorem dX2_keepBest_120 : decode cX2_keepBest 120 = .ok (.iconst 0, 1) := by decide +kernel
theorem dX2_keepBest_121 : decode cX2_keepBest 121 = .ok (.iastore, 1) := by decide +kernel
theorem dX2_keepBest_122 : decode cX2_keepBest 122 = .ok (.aload_n 0, 1) := by decide +kernel
theorem dX2_keepBest_123 : decode cX2_keepBest 123 = .ok (.iload_n 2, 1) := by decide +kernel
theorem dX2_keepBest_124 : decode cX2_keepBest 124 = .ok (.invokevirtual 116, 3) := by decide +kernel
theorem dX2_keepBest_127 : decode cX2_keepBest 127 = .ok (.aload_n 0, 1) := by decide +kernel
theorem dX2_keepBest_128 : decode cX2_keepBest 128 = .ok (.iconst 1, 1) := by decide +kernel
theorem dX2_keepBest_129 : decode cX2_keepBest 129 = .ok (.iload_n 2, 1) := by decide +kernel
theorem dX2_keepBest_130 : decode cX2_keepBest 130 = .ok (.invokevirtual 90, 3) := by decide +kernel
theorem dX2_keepBest_133 : decode cX2_keepBest 133 = .ok (.aload_n 0, 1) := by decide +kernel
theorem dX2_keepBest_134 : decode cX2_keepBest 134 = .ok (.iload_n 2, 1) := by decide +kernel
theorem dX2_keepBest_135 : decode cX2_keepBest 135 = .ok (.invokevirtual 119, 3) := by decide +kernel
theorem dX2_keepBest_138 : decode cX2_keepBest 138 = .ok (.iinc 2 (-1), 3) := by decide +kernel
theorem dX2_keepBest_141 : decode cX2_keepBest 141 = .ok (.goto (-52), 3) := by decide +kernel
theorem dX2_keepBest_144 : decode cX2_keepBest 144 = .ok (.iconst 0, 1) := by decide +kernel
theorem dX2_keepBest_145 : decode cX2_keepBest 145 = .ok (.istore_n 2, 1) := by decide +kernel
theorem dX2_keepBest_146 : decode cX2_keepBest 146 = .ok (.iload_n 1, 1) := by decide +kernel
theorem dX2_keepBest_147 : decode cX2_keepBest 147 = .ok (.ifCond .ne 43, 3) := by decide +kernel
theorem dX2_keepBest_150 : decode cX2_keepBest 150 = .ok (.iload_n 2, 1) := by decide +kernel
theorem dX2_keepBest_151 : decode cX2_keepBest 151 = .ok (.aload_n 0, 1) := by decide +kernel
theorem dX2_keepBest_152 : decode cX2_keepBest 152 = .ok (.getfield 32, 3) := by decide +kernel
theorem dX2_keepBest_155 : decode cX2_keepBest 155 = .ok (.if_icmp .ge 35, 3) := by decide +kernel
theorem dX2_keepBest_158 : decode cX2_keepBest 158 = .ok (.aload_n 0, 1) := by decide +kernel
theorem dX2_keepBest_159 : decode cX2_keepBest 159 = .ok (.aload_n 0, 1) := by decide +kernel
theorem dX2_keepBest_160 : decode cX2_keepBest 160 = .ok (.getfield 41, 3) := by decide +kernel
theorem dX2_keepBest_163 : decode cX2_keepBest 163 = .ok (.aload_n 0, 1) := by decide +kernel
theorem dX2_keepBest_164 : decode cX2_keepBest 164 = .ok (.getfield 15, 3) := by decide +kernel
theorem dX2_keepBest_167 : decode cX2_keepBest 167 = .ok (.iconst 0, 1) := by decide +kernel
theorem dX2_keepBest_168 : decode cX2_keepBest 168 = .ok (.invokestatic 113, 3) := by decide +kernel
theorem dX2_keepBest_171 : decode cX2_keepBest 171 = .ok (.iload_n 2, 1) := by decide +kernel
theorem dX2_keepBest_172 : decode cX2_keepBest 172 = .ok (.iadd, 1) := by decide +kernel
theorem dX2_keepBest_173 : decode cX2_keepBest 173 = .ok (.laload, 1) := by decide +kernel
theorem dX2_keepBest_174 : decode cX2_keepBest 174 = .ok (.ladd, 1) := by decide +kernel
theorem dX2_keepBest_175 : decode cX2_keepBest 175 = .ok (.ldc2_w 122, 3) := by decide +kernel
theorem dX2_keepBest_178 : decode cX2_keepBest 178 = .ok (.invokestatic 124, 3) := by decide +kernel
theorem dX2_keepBest_181 : decode cX2_keepBest 181 = .ok (.putfield 41, 3) := by decide +kernel
theorem dX2_keepBest_184 : decode cX2_keepBest 184 = .ok (.iinc 2 1, 3) := by decide +kernel
theorem dX2_keepBest_187 : decode cX2_keepBest 187 = .ok (.goto (-41), 3) := by decide +kernel
theorem dX2_keepBest_190 : decode cX2_keepBest 190 = .ok (.return_, 1) := by decide +kernel
theorem dX2_clearCosts_0 : decode cX2_clearCosts 0 = .ok (.iconst 0, 1) := by decide +kernel
theorem dX2_clearCosts_1 : decode cX2_clearCosts 1 = .ok (.istore_n 2, 1) := by decide +kernel
theorem dX2_clearCosts_2 : decode cX2_clearCosts 2 = .ok (.iload_n 2, 1) := by decide +kernel
theorem dX2_clearCosts_3 : decode cX2_clearCosts 3 = .ok (.aload_n 0, 1) := by decide +kernel
theorem dX2_clearCosts_4 : decode cX2_clearCosts 4 = .ok (.getfield 32, 3) := by decide +kernel
theorem dX2_clearCosts_7 : decode cX2_clearCosts 7 = .ok (.if_icmp .ge 23, 3) := by decide +kernel
theorem dX2_clearCosts_10 : decode cX2_clearCosts 10 = .ok (.aload_n 0, 1) := by decide +kernel
theorem dX2_clearCosts_11 : decode cX2_clearCosts 11 = .ok (.getfield 9, 3) := by decide +kernel
theorem dX2_clearCosts_14 : decode cX2_clearCosts 14 = .ok (.iload_n 1, 1) := by decide +kernel
theorem dX2_clearCosts_15 : decode cX2_clearCosts 15 = .ok (.sipush 1024, 3) := by decide +kernel
theorem dX2_clearCosts_18 : decode cX2_clearCosts 18 = .ok (.imul, 1) := by decide +kernel
theorem dX2_clearCosts_19 : decode cX2_clearCosts 19 = .ok (.iload_n 2, 1) := by decide +kernel
theorem dX2_clearCosts_20 : decode cX2_clearCosts 20 = .ok (.iadd, 1) := by decide +kernel
theorem dX2_clearCosts_21 : decode cX2_clearCosts 21 = .ok (.ldc 93, 2) := by decide +kernel
theorem dX2_clearCosts_23 : decode cX2_clearCosts 23 = .ok (.iastore, 1) := by decide +kernel
theorem dX2_clearCosts_24 : decode cX2_clearCosts 24 = .ok (.iinc 2 1, 3) := by decide +kernel
theorem dX2_clearCosts_27 : decode cX2_clearCosts 27 = .ok (.goto (-25), 3) := by decide +kernel
theorem dX2_clearCosts_30 : decode cX2_clearCosts 30 = .ok (.return_, 1) := by decide +kernel
theorem dX2_clearWays_0 : decode cX2_clearWays 0 = .ok (.iload_n 1, 1) := by decide +kernel
theorem dX2_clearWays_1 : decode cX2_clearWays 1 = .ok (.invokestatic 113, 3) := by decide +kernel
theorem dX2_clearWays_4 : decode cX2_clearWays 4 = .ok (.istore_n 2, 1) := by decide +kernel
theorem dX2_clearWays_5 : decode cX2_clearWays 5 = .ok (.iconst 0, 1) := by decide +kernel
theorem dX2_clearWays_6 : decode cX2_clearWays 6 = .ok (.istore_n 3, 1) := by decide +kernel
theorem dX2_clearWays_7 : decode cX2_clearWays 7 = .ok (.iload_n 3, 1) := by decide +kernel
theorem dX2_clearWays_8 : decode cX2_clearWays 8 = .ok (.aload_n 0, 1) := by decide +kernel
theorem dX2_clearWays_9 : decode cX2_clearWays 9 = .ok (.getfield 32, 3) := by decide +kernel
theorem dX2_clearWays_12 : decode cX2_clearWays 12 = .ok (.if_icmp .ge 18, 3) := by decide +kernel
theorem dX2_clearWays_15 : decode cX2_clearWays 15 = .ok (.aload_n 0, 1) := by decide +kernel
theorem dX2_clearWays_16 : decode cX2_clearWays 16 = .ok (.getfield 15, 3) := by decide +kernel
theorem dX2_clearWays_19 : decode cX2_clearWays 19 = .ok (.iload_n 2, 1) := by decide +kernel
theorem dX2_clearWays_20 : decode cX2_clearWays 20 = .ok (.iload_n 3, 1) := by decide +kernel
theorem dX2_clearWays_21 : decode cX2_clearWays 21 = .ok (.iadd, 1) := by decide +kernel
theorem dX2_clearWays_22 : decode cX2_clearWays 22 = .ok (.lconst 0, 1) := by decide +kernel
theorem dX2_clearWays_23 : decode cX2_clearWays 23 = .ok (.lastore, 1) := by decide +kernel
theorem dX2_clearWays_24 : decode cX2_clearWays 24 = .ok (.iinc 3 1, 3) := by decide +kernel
theorem dX2_clearWays_27 : decode cX2_clearWays 27 = .ok (.goto (-20), 3) := by decide +kernel
theorem dX2_clearWays_30 : decode cX2_clearWays 30 = .ok (.return_, 1) := by decide +kernel
theorem dX2_dropUnkept_0 : decode cX2_dropUnkept 0 = .ok (.iload_n 1, 1) := by decide +kernel
theorem dX2_dropUnkept_1 : decode cX2_dropUnkept 1 = .ok (.invokestatic 113, 3) := by decide +kernel
theorem dX2_dropUnkept_4 : decode cX2_dropUnkept 4 = .ok (.istore_n 2, 1) := by decide +kernel
theorem dX2_dropUnkept_5 : decode cX2_dropUnkept 5 = .ok (.iconst 0, 1) := by decide +kernel
theorem dX2_dropUnkept_6 : decode cX2_dropUnkept 6 = .ok (.istore_n 3, 1) := by decide +kernel
theorem dX2_dropUnkept_7 : decode cX2_dropUnkept 7 = .ok (.iload_n 3, 1) := by decide +kernel
theorem dX2_dropUnkept_8 : decode cX2_dropUnkept 8 = .ok (.aload_n 0, 1) := by decide +kernel
theorem dX2_dropUnkept_9 : decode cX2_dropUnkept 9 = .ok (.getfield 32, 3) := by decide +kernel
theorem dX2_dropUnkept_12 : decode cX2_dropUnkept 12 = .ok (.if_icmp .ge 36, 3) := by decide +kernel
theorem dX2_dropUnkept_15 : decode cX2_dropUnkept 15 = .ok (.aload_n 0, 1) := by decide +kernel
theorem dX2_dropUnkept_16 : decode cX2_dropUnkept 16 = .ok (.getfield 15, 3) := by decide +kernel
theorem dX2_dropUnkept_19 : decode cX2_dropUnkept 19 = .ok (.iload_n 2, 1) := by decide +kernel
theorem dX2_dropUnkept_20 : decode cX2_dropUnkept 20 = .ok (.iload_n 3, 1) := by decide +kernel
theorem dX2_dropUnkept_21 : decode cX2_dropUnkept 21 = .ok (.iadd, 1) := by decide +kernel
theorem dX2_dropUnkept_22 : decode cX2_dropUnkept 22 = .ok (.laload, 1) := by decide +kernel
theorem dX2_dropUnkept_23 : decode cX2_dropUnkept 23 = .ok (.lconst 0, 1) := by decide +kernel
theorem dX2_dropUnkept_24 : decode cX2_dropUnkept 24 = .ok (.lcmp, 1) := by decide +kernel
theorem dX2_dropUnkept_25 : decode cX2_dropUnkept 25 = .ok (.ifCond .ne 17, 3) := by decide +kernel
theorem dX2_dropUnkept_28 : decode cX2_dropUnkept 28 = .ok (.aload_n 0, 1) := by decide +kernel
theorem dX2_dropUnkept_29 : decode cX2_dropUnkept 29 = .ok (.getfield 9, 3) := by decide +kernel
theorem dX2_dropUnkept_32 : decode cX2_dropUnkept 32 = .ok (.iload_n 1, 1) := by decide +kernel
theorem dX2_dropUnkept_33 : decode cX2_dropUnkept 33 = .ok (.sipush 1024, 3) := by decide +kernel
theorem dX2_dropUnkept_36 : decode cX2_dropUnkept 36 = .ok (.imul, 1) := by decide +kernel
theorem dX2_dropUnkept_37 : decode cX2_dropUnkept 37 = .ok (.iload_n 3, 1) := by decide +kernel
theorem dX2_dropUnkept_38 : decode cX2_dropUnkept 38 = .ok (.iadd, 1) := by decide +kernel
theorem dX2_dropUnkept_39 : decode cX2_dropUnkept 39 = .ok (.ldc 93, 2) := by decide +kernel
theorem dX2_dropUnkept_41 : decode cX2_dropUnkept 41 = .ok (.iastore, 1) := by decide +kernel
theorem dX2_dropUnkept_42 : decode cX2_dropUnkept 42 = .ok (.iinc 3 1, 3) := by decide +kernel
theorem dX2_dropUnkept_45 : decode cX2_dropUnkept 45 = .ok (.goto (-38), 3) := by decide +kernel
theorem dX2_dropUnkept_48 : decode cX2_dropUnkept 48 = .ok (.return_, 1) := by decide +kernel
theorem dX2_tally_0 : decode cX2_tally 0 = .ok (.aload_n 0, 1) := by decide +kernel
theorem dX2_tally_1 : decode cX2_tally 1 = .ok (.getfield 38, 3) := by decide +kernel
theorem dX2_tally_4 : decode cX2_tally 4 = .ok (.iconst (-1), 1) := by decide +kernel
theorem dX2_tally_5 : decode cX2_tally 5 = .ok (.if_icmp .ne 5, 3) := by decide +kernel
theorem dX2_tally_8 : decode cX2_tally 8 = .ok (.iconst 0, 1) := by decide +kernel
theorem dX2_tally_9 : decode cX2_tally 9 = .ok (.ireturn, 1) := by decide +kernel
theorem dX2_tally_10 : decode cX2_tally 10 = .ok (.aload_n 0, 1) := by decide +kernel
theorem dX2_tally_11 : decode cX2_tally 11 = .ok (.iload_n 1, 1) := by decide +kernel
theorem dX2_tally_12 : decode cX2_tally 12 = .ok (.putfield 35, 3) := by decide +kernel
theorem dX2_tally_15 : decode cX2_tally 15 = .ok (.iconst 0, 1) := by decide +kernel
theorem dX2_tally_16 : decode cX2_tally 16 = .ok (.istore 4, 2) := by decide +kernel
theorem dX2_tally_18 : decode cX2_tally 18 = .ok (.iload 4, 2) := by decide +kernel
theorem dX2_tally_20 : decode cX2_tally 20 = .ok (.aload_n 0, 1) := by decide +kernel
theorem dX2_tally_21 : decode cX2_tally 21 = .ok (.getfield 32, 3) := by decide +kernel
theorem dX2_tally_24 : decode cX2_tally 24 = .ok (.if_icmp .ge 44, 3) := by decide +kernel
theorem dX2_tally_27 : decode cX2_tally 27 = .ok (.aload_n 0, 1) := by decide +kernel
theorem dX2_tally_28 : decode cX2_tally 28 = .ok (.getfield 15, 3) := by decide +kernel
theorem dX2_tally_31 : decode cX2_tally 31 = .ok (.iload_n 2, 1) := by decide +kernel
theorem dX2_tally_32 : decode cX2_tally 32 = .ok (.invokestatic 113, 3) := by decide +kernel
theorem dX2_tally_35 : decode cX2_tally 35 = .ok (.iload 4, 2) := by decide +kernel
theorem dX2_tally_37 : decode cX2_tally 37 = .ok (.iadd, 1) := by decide +kernel
theorem dX2_tally_38 : decode cX2_tally 38 = .ok (.aload_n 0, 1) := by decide +kernel
theorem dX2_tally_39 : decode cX2_tally 39 = .ok (.getfield 9, 3) := by decide +kernel
theorem dX2_tally_42 : decode cX2_tally 42 = .ok (.iload_n 2, 1) := by decide +kernel
theorem dX2_tally_43 : decode cX2_tally 43 = .ok (.sipush 1024, 3) := by decide +kernel
theorem dX2_tally_46 : decode cX2_tally 46 = .ok (.imul, 1) := by decide +kernel
theorem dX2_tally_47 : decode cX2_tally 47 = .ok (.iload 4, 2) := by decide +kernel
theorem dX2_tally_49 : decode cX2_tally 49 = .ok (.iadd, 1) := by decide +kernel
theorem dX2_tally_50 : decode cX2_tally 50 = .ok (.iaload, 1) := by decide +kernel
theorem dX2_tally_51 : decode cX2_tally 51 = .ok (.ldc 93, 2) := by decide +kernel
theorem dX2_tally_53 : decode cX2_tally 53 = .ok (.if_icmp .ge 7, 3) := by decide +kernel
theorem dX2_tally_56 : decode cX2_tally 56 = .ok (.lconst 1, 1) := by decide +kernel
theorem dX2_tally_57 : decode cX2_tally 57 = .ok (.goto 4, 3) := by decide +kernel
theorem dX2_tally_60 : decode cX2_tally 60 = .ok (.lconst 0, 1) := by decide +kernel
theorem dX2_tally_61 : decode cX2_tally 61 = .ok (.lastore, 1) := by decide +kernel
theorem dX2_tally_62 : decode cX2_tally 62 = .ok (.iinc 4 1, 3) := by decide +kernel
theorem dX2_tally_65 : decode cX2_tally 65 = .ok (.goto (-47), 3) := by decide +kernel
theorem dX2_tally_68 : decode cX2_tally 68 = .ok (.iload_n 2, 1) := by decide +kernel
theorem dX2_tally_69 : decode cX2_tally 69 = .ok (.istore 4, 2) := by decide +kernel
theorem dX2_tally_71 : decode cX2_tally 71 = .ok (.iload 4, 2) := by decide +kernel
theorem dX2_tally_73 : decode cX2_tally 73 = .ok (.iload_n 3, 1) := by decide +kernel
theorem dX2_tally_74 : decode cX2_tally 74 = .ok (.if_icmp .gt 24, 3) := by decide +kernel
theorem dX2_tally_77 : decode cX2_tally 77 = .ok (.aload_n 0, 1) := by decide +kernel
theorem dX2_tally_78 : decode cX2_tally 78 = .ok (.iload 4, 2) := by decide +kernel
theorem dX2_tally_80 : decode cX2_tally 80 = .ok (.iconst 1, 1) := by decide +kernel
theorem dX2_tally_81 : decode cX2_tally 81 = .ok (.iadd, 1) := by decide +kernel
theorem dX2_tally_82 : decode cX2_tally 82 = .ok (.invokevirtual 116, 3) := by decide +kernel
theorem dX2_tally_85 : decode cX2_tally 85 = .ok (.aload_n 0, 1) := by decide +kernel
theorem dX2_tally_86 : decode cX2_tally 86 = .ok (.iconst 2, 1) := by decide +kernel
theorem dX2_tally_87 : decode cX2_tally 87 = .ok (.iload 4, 2) := by decide +kernel
theorem dX2_tally_89 : decode cX2_tally 89 = .ok (.invokevirtual 90, 3) := by decide +kernel
theorem dX2_tally_92 : decode cX2_tally 92 = .ok (.iinc 4 1, 3) := by decide +kernel
theorem dX2_tally_95 : decode cX2_tally 95 = .ok (.goto (-24), 3) := by decide +kernel
theorem dX2_tally_98 : decode cX2_tally 98 = .ok (.lconst 0, 1) := by decide +kernel
theorem dX2_tally_99 : decode cX2_tally 99 = .ok (.lstore 4, 2) := by decide +kernel
theorem dX2_tally_101 : decode cX2_tally 101 = .ok (.iconst 0, 1) := by decide +kernel
theorem dX2_tally_102 : decode cX2_tally 102 = .ok (.istore 6, 2) := by decide +kernel
theorem dX2_tally_104 : decode cX2_tally 104 = .ok (.iload 6, 2) := by decide +kernel
theorem dX2_tally_106 : decode cX2_tally 106 = .ok (.aload_n 0, 1) := by decide +kernel
theorem dX2_tally_107 : decode cX2_tally 107 = .ok (.getfield 32, 3) := by decide +kernel
theorem dX2_tally_110 : decode cX2_tally 110 = .ok (.if_icmp .ge 28, 3) := by decide +kernel
theorem dX2_tally_113 : decode cX2_tally 113 = .ok (.lload 4, 2) := by decide +kernel
theorem dX2_tally_115 : decode cX2_tally 115 = .ok (.aload_n 0, 1) := by decide +kernel
theorem dX2_tally_116 : decode cX2_tally 116 = .ok (.getfield 15, 3) := by decide +kernel
theorem dX2_tally_119 : decode cX2_tally 119 = .ok (.iload_n 3, 1) := by decide +kernel
theorem dX2_tally_120 : decode cX2_tally 120 = .ok (.iconst 1, 1) := by decide +kernel
theorem dX2_tally_121 : decode cX2_tally 121 = .ok (.iadd, 1) := by decide +kernel
theorem dX2_tally_122 : decode cX2_tally 122 = .ok (.invokestatic 113, 3) := by decide +kernel
theorem dX2_tally_125 : decode cX2_tally 125 = .ok (.iload 6, 2) := by decide +kernel
theorem dX2_tally_127 : decode cX2_tally 127 = .ok (.iadd, 1) := by decide +kernel
theorem dX2_tally_128 : decode cX2_tally 128 = .ok (.laload, 1) := by decide +kernel
theorem dX2_tally_129 : decode cX2_tally 129 = .ok (.lor, 1) := by decide +kernel
theorem dX2_tally_130 : decode cX2_tally 130 = .ok (.lstore 4, 2) := by decide +kernel
theorem dX2_tally_132 : decode cX2_tally 132 = .ok (.iinc 6 1, 3) := by decide +kernel
theorem dX2_tally_135 : decode cX2_tally 135 = .ok (.goto (-31), 3) := by decide +kernel
theorem dX2_tally_138 : decode cX2_tally 138 = .ok (.lload 4, 2) := by decide +kernel
theorem dX2_tally_140 : decode cX2_tally 140 = .ok (.l2i, 1) := by decide +kernel
theorem dX2_tally_141 : decode cX2_tally 141 = .ok (.ireturn, 1) := by decide +kernel
theorem dX2_soOf_0 : decode cX2_soOf 0 = .ok (.aload_n 0, 1) := by decide +kernel
theorem dX2_soOf_1 : decode cX2_soOf 1 = .ok (.getfield 38, 3) := by decide +kernel
theorem dX2_soOf_4 : decode cX2_soOf 4 = .ok (.iconst (-1), 1) := by decide +kernel
theorem dX2_soOf_5 : decode cX2_soOf 5 = .ok (.if_icmp .ne 5, 3) := by decide +kernel
theorem dX2_soOf_8 : decode cX2_soOf 8 = .ok (.iconst (-1), 1) := by decide +kernel
theorem dX2_soOf_9 : decode cX2_soOf 9 = .ok (.ireturn, 1) := by decide +kernel
theorem dX2_soOf_10 : decode cX2_soOf 10 = .ok (.aload_n 0, 1) := by decide +kernel
theorem dX2_soOf_11 : decode cX2_soOf 11 = .ok (.iload_n 1, 1) := by decide +kernel
theorem dX2_soOf_12 : decode cX2_soOf 12 = .ok (.iload_n 2, 1) := by decide +kernel
theorem dX2_soOf_13 : decode cX2_soOf 13 = .ok (.invokevirtual 127, 3) := by decide +kernel
theorem dX2_soOf_16 : decode cX2_soOf 16 = .ok (.ifCond .eq 5, 3) := by decide +kernel
theorem dX2_soOf_19 : decode cX2_soOf 19 = .ok (.iconst 1, 1) := by decide +kernel
theorem dX2_soOf_20 : decode cX2_soOf 20 = .ok (.ireturn, 1) := by decide +kernel
theorem dX2_soOf_21 : decode cX2_soOf 21 = .ok (.aload_n 0, 1) := by decide +kernel
theorem dX2_soOf_22 : decode cX2_soOf 22 = .ok (.getfield 48, 3) := by decide +kernel
theorem dX2_soOf_25 : decode cX2_soOf 25 = .ok (.iload_n 2, 1) := by decide +kernel
theorem dX2_soOf_26 : decode cX2_soOf 26 = .ok (.iaload, 1) := by decide +kernel
theorem dX2_soOf_27 : decode cX2_soOf 27 = .ok (.iload_n 1, 1) := by decide +kernel
theorem dX2_soOf_28 : decode cX2_soOf 28 = .ok (.ishr, 1) := by decide +kernel
theorem dX2_soOf_29 : decode cX2_soOf 29 = .ok (.iconst 1, 1) := by decide +kernel
theorem dX2_soOf_30 : decode cX2_soOf 30 = .ok (.iand, 1) := by decide +kernel
theorem dX2_soOf_31 : decode cX2_soOf 31 = .ok (.ifCond .ne 7, 3) := by decide +kernel
theorem dX2_soOf_34 : decode cX2_soOf 34 = .ok (.iconst 0, 1) := by decide +kernel
theorem dX2_soOf_35 : decode cX2_soOf 35 = .ok (.goto 4, 3) := by decide +kernel
theorem dX2_soOf_38 : decode cX2_soOf 38 = .ok (.iconst 2, 1) := by decide +kernel
theorem dX2_soOf_39 : decode cX2_soOf 39 = .ok (.ireturn, 1) := by decide +kernel
theorem dX2_surely_0 : decode cX2_surely 0 = .ok (.aload_n 0, 1) := by decide +kernel
theorem dX2_surely_1 : decode cX2_surely 1 = .ok (.getfield 45, 3) := by decide +kernel
theorem dX2_surely_4 : decode cX2_surely 4 = .ok (.iload_n 2, 1) := by decide +kernel
theorem dX2_surely_5 : decode cX2_surely 5 = .ok (.iaload, 1) := by decide +kernel
theorem dX2_surely_6 : decode cX2_surely 6 = .ok (.iload_n 1, 1) := by decide +kernel
theorem dX2_surely_7 : decode cX2_surely 7 = .ok (.ishr, 1) := by decide +kernel
theorem dX2_surely_8 : decode cX2_surely 8 = .ok (.iconst 1, 1) := by decide +kernel
theorem dX2_surely_9 : decode cX2_surely 9 = .ok (.iand, 1) := by decide +kernel
theorem dX2_surely_10 : decode cX2_surely 10 = .ok (.ifCond .eq 7, 3) := by decide +kernel
theorem dX2_surely_13 : decode cX2_surely 13 = .ok (.iconst 1, 1) := by decide +kernel
theorem dX2_surely_14 : decode cX2_surely 14 = .ok (.goto 4, 3) := by decide +kernel
theorem dX2_surely_17 : decode cX2_surely 17 = .ok (.iconst 0, 1) := by decide +kernel
theorem dX2_surely_18 : decode cX2_surely 18 = .ok (.ireturn, 1) := by decide +kernel
theorem dX2_layerOf_0 : decode cX2_layerOf 0 = .ok (.iload_n 0, 1) := by decide +kernel
theorem dX2_layerOf_1 : decode cX2_layerOf 1 = .ok (.iconst 1, 1) := by decide +kernel
theorem dX2_layerOf_2 : decode cX2_layerOf 2 = .ok (.iand, 1) := by decide +kernel
theorem dX2_layerOf_3 : decode cX2_layerOf 3 = .ok (.sipush 1024, 3) := by decide +kernel
theorem dX2_layerOf_6 : decode cX2_layerOf 6 = .ok (.imul, 1) := by decide +kernel
theorem dX2_layerOf_7 : decode cX2_layerOf 7 = .ok (.ireturn, 1) := by decide +kernel
theorem dX2_walk_0 : decode cX2_walk 0 = .ok (.aload_n 0, 1) := by decide +kernel
theorem dX2_walk_1 : decode cX2_walk 1 = .ok (.iload_n 1, 1) := by decide +kernel
theorem dX2_walk_2 : decode cX2_walk 2 = .ok (.iload_n 2, 1) := by decide +kernel
theorem dX2_walk_3 : decode cX2_walk 3 = .ok (.invokevirtual 131, 3) := by decide +kernel
theorem dX2_walk_6 : decode cX2_walk 6 = .ok (.istore_n 3, 1) := by decide +kernel
theorem dX2_walk_7 : decode cX2_walk 7 = .ok (.iconst 0, 1) := by decide +kernel
theorem dX2_walk_8 : decode cX2_walk 8 = .ok (.istore 4, 2) := by decide +kernel
theorem dX2_walk_10 : decode cX2_walk 10 = .ok (.iload 4, 2) := by decide +kernel
theorem dX2_walk_12 : decode cX2_walk 12 = .ok (.bipush 7, 2) := by decide +kernel
theorem dX2_walk_14 : decode cX2_walk 14 = .ok (.if_icmp .ge 97, 3) := by decide +kernel
theorem dX2_walk_17 : decode cX2_walk 17 = .ok (.aload_n 0, 1) := by decide +kernel
theorem dX2_walk_18 : decode cX2_walk 18 = .ok (.getfield 72, 3) := by decide +kernel
theorem dX2_walk_21 : decode cX2_walk 21 = .ok (.iload_n 2, 1) := by decide +kernel
theorem dX2_walk_22 : decode cX2_walk 22 = .ok (.iload 4, 2) := by decide +kernel
theorem dX2_walk_24 : decode cX2_walk 24 = .ok (.invokevirtual 134, 3) := by decide +kernel
theorem dX2_walk_27 : decode cX2_walk 27 = .ok (.ifCond .ne 6, 3) := by decide +kernel
theorem dX2_walk_30 : decode cX2_walk 30 = .ok (.goto 75, 3) := by decide +kernel
theorem dX2_walk_33 : decode cX2_walk 33 = .ok (.aload_n 0, 1) := by decide +kernel
theorem dX2_walk_34 : decode cX2_walk 34 = .ok (.getfield 72, 3) := by decide +kernel
theorem dX2_walk_37 : decode cX2_walk 37 = .ok (.iload_n 2, 1) := by decide +kernel
theorem dX2_walk_38 : decode cX2_walk 38 = .ok (.iload 4, 2) := by decide +kernel
theorem dX2_walk_40 : decode cX2_walk 40 = .ok (.invokevirtual 137, 3) := by decide +kernel
theorem dX2_walk_43 : decode cX2_walk 43 = .ok (.istore 5, 2) := by decide +kernel
theorem dX2_walk_45 : decode cX2_walk 45 = .ok (.iconst 0, 1) := by decide +kernel
theorem dX2_walk_46 : decode cX2_walk 46 = .ok (.istore 6, 2) := by decide +kernel
theorem dX2_walk_48 : decode cX2_walk 48 = .ok (.iload 6, 2) := by decide +kernel
theorem dX2_walk_50 : decode cX2_walk 50 = .ok (.iload_n 3, 1) := by decide +kernel
theorem dX2_walk_51 : decode cX2_walk 51 = .ok (.if_icmp .ge 54, 3) := by decide +kernel
theorem dX2_walk_54 : decode cX2_walk 54 = .ok (.aload_n 0, 1) := by decide +kernel
theorem dX2_walk_55 : decode cX2_walk 55 = .ok (.getfield 64, 3) := by decide +kernel
theorem dX2_walk_58 : decode cX2_walk 58 = .ok (.aload_n 0, 1) := by decide +kernel
theorem dX2_walk_59 : decode cX2_walk 59 = .ok (.getfield 19, 3) := by decide +kernel
theorem dX2_walk_62 : decode cX2_walk 62 = .ok (.iload 6, 2) := by decide +kernel
theorem dX2_walk_64 : decode cX2_walk 64 = .ok (.iaload, 1) := by decide +kernel
theorem dX2_walk_65 : decode cX2_walk 65 = .ok (.bipush 7, 2) := by decide +kernel
theorem dX2_walk_67 : decode cX2_walk 67 = .ok (.imul, 1) := by decide +kernel
theorem dX2_walk_68 : decode cX2_walk 68 = .ok (.iload 4, 2) := by decide +kernel
theorem dX2_walk_70 : decode cX2_walk 70 = .ok (.iadd, 1) := by decide +kernel
theorem dX2_walk_71 : decode cX2_walk 71 = .ok (.iaload, 1) := by decide +kernel
theorem dX2_walk_72 : decode cX2_walk 72 = .ok (.istore 7, 2) := by decide +kernel
theorem dX2_walk_74 : decode cX2_walk 74 = .ok (.iload 7, 2) := by decide +kernel
theorem dX2_walk_76 : decode cX2_walk 76 = .ok (.iconst (-1), 1) := by decide +kernel
theorem dX2_walk_77 : decode cX2_walk 77 = .ok (.if_icmp .eq 22, 3) := by decide +kernel
theorem dX2_walk_80 : decode cX2_walk 80 = .ok (.aload_n 0, 1) := by decide +kernel
theorem dX2_walk_81 : decode cX2_walk 81 = .ok (.iload_n 1, 1) := by decide +kernel
theorem dX2_walk_82 : decode cX2_walk 82 = .ok (.iload_n 2, 1) := by decide +kernel
theorem dX2_walk_83 : decode cX2_walk 83 = .ok (.aload_n 0, 1) := by decide +kernel
theorem dX2_walk_84 : decode cX2_walk 84 = .ok (.getfield 19, 3) := by decide +kernel
theorem dX2_walk_87 : decode cX2_walk 87 = .ok (.iload 6, 2) := by decide +kernel
theorem dX2_walk_89 : decode cX2_walk 89 = .ok (.iaload, 1) := by decide +kernel
theorem dX2_walk_90 : decode cX2_walk 90 = .ok (.iload 7, 2) := by decide +kernel
theorem dX2_walk_92 : decode cX2_walk 92 = .ok (.iload 4, 2) := by decide +kernel
theorem dX2_walk_94 : decode cX2_walk 94 = .ok (.iload 5, 2) := by decide +kernel
theorem dX2_walk_96 : decode cX2_walk 96 = .ok (.invokevirtual 140, 3) := by decide +kernel
theorem dX2_walk_99 : decode cX2_walk 99 = .ok (.iinc 6 1, 3) := by decide +kernel
theorem dX2_walk_102 : decode cX2_walk 102 = .ok (.goto (-54), 3) := by decide +kernel
theorem dX2_walk_105 : decode cX2_walk 105 = .ok (.iinc 4 1, 3) := by decide +kernel
theorem dX2_walk_108 : decode cX2_walk 108 = .ok (.goto (-98), 3) := by decide +kernel
theorem dX2_walk_111 : decode cX2_walk 111 = .ok (.return_, 1) := by decide +kernel
theorem dX2_gatherLooks_0 : decode cX2_gatherLooks 0 = .ok (.aload_n 0, 1) := by decide +kernel
theorem dX2_gatherLooks_1 : decode cX2_gatherLooks 1 = .ok (.getfield 57, 3) := by decide +kernel
theorem dX2_gatherLooks_4 : decode cX2_gatherLooks 4 = .ok (.invokevirtual 144, 3) := by decide +kernel
theorem dX2_gatherLooks_7 : decode cX2_gatherLooks 7 = .ok (.istore_n 3, 1) := by decide +kernel
theorem dX2_gatherLooks_8 : decode cX2_gatherLooks 8 = .ok (.iconst 0, 1) := by decide +kernel
theorem dX2_gatherLooks_9 : decode cX2_gatherLooks 9 = .ok (.istore 4, 2) := by decide +kernel
theorem dX2_gatherLooks_11 : decode cX2_gatherLooks 11 = .ok (.iconst 0, 1) := by decide +kernel
theorem dX2_gatherLooks_12 : decode cX2_gatherLooks 12 = .ok (.istore 5, 2) := by decide +kernel
theorem dX2_gatherLooks_14 : decode cX2_gatherLooks 14 = .ok (.iload 5, 2) := by decide +kernel
theorem dX2_gatherLooks_16 : decode cX2_gatherLooks 16 = .ok (.aload_n 0, 1) := by decide +kernel
theorem dX2_gatherLooks_17 : decode cX2_gatherLooks 17 = .ok (.getfield 26, 3) := by decide +kernel
theorem dX2_gatherLooks_20 : decode cX2_gatherLooks 20 = .ok (.if_icmp .ge 105, 3) := by decide +kernel
theorem dX2_gatherLooks_23 : decode cX2_gatherLooks 23 = .ok (.aload_n 0, 1) := by decide +kernel
theorem dX2_gatherLooks_24 : decode cX2_gatherLooks 24 = .ok (.iload_n 2, 1) := by decide +kernel
theorem dX2_gatherLooks_25 : decode cX2_gatherLooks 25 = .ok (.iload 5, 2) := by decide +kernel
theorem dX2_gatherLooks_27 : decode cX2_gatherLooks 27 = .ok (.invokevirtual 147, 3) := by decide +kernel
theorem dX2_gatherLooks_30 : decode cX2_gatherLooks 30 = .ok (.ifCond .ne 6, 3) := by decide +kernel
theorem dX2_gatherLooks_33 : decode cX2_gatherLooks 33 = .ok (.goto 86, 3) := by decide +kernel
theorem dX2_gatherLooks_36 : decode cX2_gatherLooks 36 = .ok (.iload 4, 2) := by decide +kernel
theorem dX2_gatherLooks_38 : decode cX2_gatherLooks 38 = .ok (.istore 6, 2) := by decide +kernel
theorem dX2_gatherLooks_40 : decode cX2_gatherLooks 40 = .ok (.iconst 0, 1) := by decide +kernel
theorem dX2_gatherLooks_41 : decode cX2_gatherLooks 41 = .ok (.istore 7, 2) := by decide +kernel
theorem dX2_gatherLooks_43 : decode cX2_gatherLooks 43 = .ok (.iload 7, 2) := by decide +kernel
theorem dX2_gatherLooks_45 : decode cX2_gatherLooks 45 = .ok (.iload_n 3, 1) := by decide +kernel
theorem dX2_gatherLooks_46 : decode cX2_gatherLooks 46 = .ok (.if_icmp .ge 73, 3) := by decide +kernel
theorem dX2_gatherLooks_49 : decode cX2_gatherLooks 49 = .ok (.iload 7, 2) := by decide +kernel
theorem dX2_gatherLooks_51 : decode cX2_gatherLooks 51 = .ok (.bipush 8, 2) := by decide +kernel
theorem dX2_gatherLooks_53 : decode cX2_gatherLooks 53 = .ok (.ishl, 1) := by decide +kernel
theorem dX2_gatherLooks_54 : decode cX2_gatherLooks 54 = .ok (.iload 5, 2) := by decide +kernel
theorem dX2_gatherLooks_56 : decode cX2_gatherLooks 56 = .ok (.ior, 1) := by decide +kernel
theorem dX2_gatherLooks_57 : decode cX2_gatherLooks 57 = .ok (.istore 8, 2) := by decide +kernel
theorem dX2_gatherLooks_59 : decode cX2_gatherLooks 59 = .ok (.aload_n 0, 1) := by decide +kernel
theorem dX2_gatherLooks_60 : decode cX2_gatherLooks 60 = .ok (.getfield 72, 3) := by decide +kernel
theorem dX2_gatherLooks_63 : decode cX2_gatherLooks 63 = .ok (.iload_n 2, 1) := by decide +kernel
theorem dX2_gatherLooks_64 : decode cX2_gatherLooks 64 = .ok (.aload_n 0, 1) := by decide +kernel
theorem dX2_gatherLooks_65 : decode cX2_gatherLooks 65 = .ok (.getfield 61, 3) := by decide +kernel
theorem dX2_gatherLooks_68 : decode cX2_gatherLooks 68 = .ok (.iload 8, 2) := by decide +kernel
theorem dX2_gatherLooks_70 : decode cX2_gatherLooks 70 = .ok (.iaload, 1) := by decide +kernel
theorem dX2_gatherLooks_71 : decode cX2_gatherLooks 71 = .ok (.iload 5, 2) := by decide +kernel
theorem dX2_gatherLooks_73 : decode cX2_gatherLooks 73 = .ok (.aload_n 0, 1) := by decide +kernel
theorem dX2_gatherLooks_74 : decode cX2_gatherLooks 74 = .ok (.getfield 22, 3) := by decide +kernel
theorem dX2_gatherLooks_77 : decode cX2_gatherLooks 77 = .ok (.ishr, 1) := by decide +kernel
theorem dX2_gatherLooks_78 : decode cX2_gatherLooks 78 = .ok (.invokevirtual 150, 3) := by decide +kernel
theorem dX2_gatherLooks_81 : decode cX2_gatherLooks 81 = .ok (.ifCond .eq 32, 3) := by decide +kernel
theorem dX2_gatherLooks_84 : decode cX2_gatherLooks 84 = .ok (.iload_n 1, 1) := by decide +kernel
theorem dX2_gatherLooks_85 : decode cX2_gatherLooks 85 = .ok (.ifCond .ne 16, 3) := by decide +kernel
theorem dX2_gatherLooks_88 : decode cX2_gatherLooks 88 = .ok (.aload_n 0, 1) := by decide +kernel
theorem dX2_gatherLooks_89 : decode cX2_gatherLooks 89 = .ok (.iload 8, 2) := by decide +kernel
theorem dX2_gatherLooks_91 : decode cX2_gatherLooks 91 = .ok (.iload 6, 2) := by decide +kernel
theorem dX2_gatherLooks_93 : decode cX2_gatherLooks 93 = .ok (.iload 4, 2) := by decide +kernel
theorem dX2_gatherLooks_95 : decode cX2_gatherLooks 95 = .ok (.invokevirtual 154, 3) := by decide +kernel
theorem dX2_gatherLooks_98 : decode cX2_gatherLooks 98 = .ok (.ifCond .ne 15, 3) := by decide +kernel
theorem dX2_gatherLooks_101 : decode cX2_gatherLooks 101 = .ok (.aload_n 0, 1) := by decide +kernel
theorem dX2_gatherLooks_102 : decode cX2_gatherLooks 102 = .ok (.getfield 19, 3) := by decide +kernel
theorem dX2_gatherLooks_105 : decode cX2_gatherLooks 105 = .ok (.iload 4, 2) := by decide +kernel
theorem dX2_gatherLooks_107 : decode cX2_gatherLooks 107 = .ok (.iload 8, 2) := by decide +kernel
theorem dX2_gatherLooks_109 : decode cX2_gatherLooks 109 = .ok (.iastore, 1) := by decide +kernel
theorem dX2_gatherLooks_110 : decode cX2_gatherLooks 110 = .ok (.iinc 4 1, 3) := by decide +kernel
theorem dX2_gatherLooks_113 : decode cX2_gatherLooks 113 = .ok (.iinc 7 1, 3) := by decide +kernel
theorem dX2_gatherLooks_116 : decode cX2_gatherLooks 116 = .ok (.goto (-73), 3) := by decide +kernel
theorem dX2_gatherLooks_119 : decode cX2_gatherLooks 119 = .ok (.iinc 5 1, 3) := by decide +kernel
theorem dX2_gatherLooks_122 : decode cX2_gatherLooks 122 = .ok (.goto (-108), 3) := by decide +kernel
theorem dX2_gatherLooks_125 : decode cX2_gatherLooks 125 = .ok (.iload 4, 2) := by decide +kernel
theorem dX2_gatherLooks_127 : decode cX2_gatherLooks 127 = .ok (.ireturn, 1) := by decide +kernel
theorem dX2_goesOnAsOne_0 : decode cX2_goesOnAsOne 0 = .ok (.iload_n 2, 1) := by decide +kernel
theorem dX2_goesOnAsOne_1 : decode cX2_goesOnAsOne 1 = .ok (.istore 4, 2) := by decide +kernel
theorem dX2_goesOnAsOne_3 : decode cX2_goesOnAsOne 3 = .ok (.iload 4, 2) := by decide +kernel
theorem dX2_goesOnAsOne_5 : decode cX2_goesOnAsOne 5 = .ok (.iload_n 3, 1) := by decide +kernel
theorem dX2_goesOnAsOne_6 : decode cX2_goesOnAsOne 6 = .ok (.if_icmp .ge 38, 3) := by decide +kernel
theorem dX2_goesOnAsOne_9 : decode cX2_goesOnAsOne 9 = .ok (.aload_n 0, 1) := by decide +kernel
theorem dX2_goesOnAsOne_10 : decode cX2_goesOnAsOne 10 = .ok (.getfield 61, 3) := by decide +kernel
theorem dX2_goesOnAsOne_13 : decode cX2_goesOnAsOne 13 = .ok (.aload_n 0, 1) := by decide +kernel
theorem dX2_goesOnAsOne_14 : decode cX2_goesOnAsOne 14 = .ok (.getfield 19, 3) := by decide +kernel
theorem dX2_goesOnAsOne_17 : decode cX2_goesOnAsOne 17 = .ok (.iload 4, 2) := by decide +kernel
theorem dX2_goesOnAsOne_19 : decode cX2_goesOnAsOne 19 = .ok (.iaload, 1) := by decide +kernel
theorem dX2_goesOnAsOne_20 : decode cX2_goesOnAsOne 20 = .ok (.iaload, 1) := by decide +kernel
theorem dX2_goesOnAsOne_21 : decode cX2_goesOnAsOne 21 = .ok (.bipush 10, 2) := by decide +kernel
theorem dX2_goesOnAsOne_23 : decode cX2_goesOnAsOne 23 = .ok (.ishr, 1) := by decide +kernel
theorem dX2_goesOnAsOne_24 : decode cX2_goesOnAsOne 24 = .ok (.aload_n 0, 1) := by decide +kernel
theorem dX2_goesOnAsOne_25 : decode cX2_goesOnAsOne 25 = .ok (.getfield 61, 3) := by decide +kernel
theorem dX2_goesOnAsOne_28 : decode cX2_goesOnAsOne 28 = .ok (.iload_n 1, 1) := by decide +kernel
theorem dX2_goesOnAsOne_29 : decode cX2_goesOnAsOne 29 = .ok (.iaload, 1) := by decide +kernel
theorem dX2_goesOnAsOne_30 : decode cX2_goesOnAsOne 30 = .ok (.bipush 10, 2) := by decide +kernel
theorem dX2_goesOnAsOne_32 : decode cX2_goesOnAsOne 32 = .ok (.ishr, 1) := by decide +kernel
theorem dX2_goesOnAsOne_33 : decode cX2_goesOnAsOne 33 = .ok (.if_icmp .ne 5, 3) := by decide +kernel
theorem dX2_goesOnAsOne_36 : decode cX2_goesOnAsOne 36 = .ok (.iconst 1, 1) := by decide +kernel
theorem dX2_goesOnAsOne_37 : decode cX2_goesOnAsOne 37 = .ok (.ireturn, 1) := by decide +kernel
theorem dX2_goesOnAsOne_38 : decode cX2_goesOnAsOne 38 = .ok (.iinc 4 1, 3) := by decide +kernel
theorem dX2_goesOnAsOne_41 : decode cX2_goesOnAsOne 41 = .ok (.goto (-38), 3) := by decide +kernel
theorem dX2_goesOnAsOne_44 : decode cX2_goesOnAsOne 44 = .ok (.iconst 0, 1) := by decide +kernel
theorem dX2_goesOnAsOne_45 : decode cX2_goesOnAsOne 45 = .ok (.ireturn, 1) := by decide +kernel
theorem dX2_isReached_0 : decode cX2_isReached 0 = .ok (.iconst 0, 1) := by decide +kernel
theorem dX2_isReached_1 : decode cX2_isReached 1 = .ok (.istore_n 3, 1) := by decide +kernel
theorem dX2_isReached_2 : decode cX2_isReached 2 = .ok (.iload_n 3, 1) := by decide +kernel
theorem dX2_isReached_3 : decode cX2_isReached 3 = .ok (.aload_n 0, 1) := by decide +kernel
theorem dX2_isReached_4 : decode cX2_isReached 4 = .ok (.getfield 29, 3) := by decide +kernel
theorem dX2_isReached_7 : decode cX2_isReached 7 = .ok (.if_icmp .ge 33, 3) := by decide +kernel
theorem dX2_isReached_10 : decode cX2_isReached 10 = .ok (.aload_n 0, 1) := by decide +kernel
theorem dX2_isReached_11 : decode cX2_isReached 11 = .ok (.getfield 9, 3) := by decide +kernel
theorem dX2_isReached_14 : decode cX2_isReached 14 = .ok (.iload_n 1, 1) := by decide +kernel
theorem dX2_isReached_15 : decode cX2_isReached 15 = .ok (.sipush 1024, 3) := by decide +kernel
theorem dX2_isReached_18 : decode cX2_isReached 18 = .ok (.imul, 1) := by decide +kernel
theorem dX2_isReached_19 : decode cX2_isReached 19 = .ok (.iload_n 3, 1) := by decide +kernel
theorem dX2_isReached_20 : decode cX2_isReached 20 = .ok (.bipush 8, 2) := by decide +kernel
theorem dX2_isReached_22 : decode cX2_isReached 22 = .ok (.ishl, 1) := by decide +kernel
theorem dX2_isReached_23 : decode cX2_isReached 23 = .ok (.iload_n 2, 1) := by decide +kernel
theorem dX2_isReached_24 : decode cX2_isReached 24 = .ok (.ior, 1) := by decide +kernel
theorem dX2_isReached_25 : decode cX2_isReached 25 = .ok (.iadd, 1) := by decide +kernel
theorem dX2_isReached_26 : decode cX2_isReached 26 = .ok (.iaload, 1) := by decide +kernel
theorem dX2_isReached_27 : decode cX2_isReached 27 = .ok (.ldc 93, 2) := by decide +kernel
theorem dX2_isReached_29 : decode cX2_isReached 29 = .ok (.if_icmp .ge 5, 3) := by decide +kernel
theorem dX2_isReached_32 : decode cX2_isReached 32 = .ok (.iconst 1, 1) := by decide +kernel
theorem dX2_isReached_33 : decode cX2_isReached 33 = .ok (.ireturn, 1) := by decide +kernel
theorem dX2_isReached_34 : decode cX2_isReached 34 = .ok (.iinc 3 1, 3) := by decide +kernel
theorem dX2_isReached_37 : decode cX2_isReached 37 = .ok (.goto (-35), 3) := by decide +kernel
theorem dX2_isReached_40 : decode cX2_isReached 40 = .ok (.iconst 0, 1) := by decide +kernel
theorem dX2_isReached_41 : decode cX2_isReached 41 = .ok (.ireturn, 1) := by decide +kernel
theorem dX2_meet_0 : decode cX2_meet 0 = .ok (.iload_n 3, 1) := by decide +kernel
theorem dX2_meet_1 : decode cX2_meet 1 = .ok (.sipush 255, 3) := by decide +kernel
theorem dX2_meet_4 : decode cX2_meet 4 = .ok (.iand, 1) := by decide +kernel
theorem dX2_meet_5 : decode cX2_meet 5 = .ok (.istore 7, 2) := by decide +kernel
theorem dX2_meet_7 : decode cX2_meet 7 = .ok (.iconst 0, 1) := by decide +kernel
theorem dX2_meet_8 : decode cX2_meet 8 = .ok (.istore 8, 2) := by decide +kernel
theorem dX2_meet_10 : decode cX2_meet 10 = .ok (.iload 8, 2) := by decide +kernel
theorem dX2_meet_12 : decode cX2_meet 12 = .ok (.aload_n 0, 1) := by decide +kernel
theorem dX2_meet_13 : decode cX2_meet 13 = .ok (.getfield 29, 3) := by decide +kernel
theorem dX2_meet_16 : decode cX2_meet 16 = .ok (.if_icmp .ge 173, 3) := by decide +kernel
theorem dX2_meet_19 : decode cX2_meet 19 = .ok (.iload 8, 2) := by decide +kernel
theorem dX2_meet_21 : decode cX2_meet 21 = .ok (.bipush 8, 2) := by decide +kernel
theorem dX2_meet_23 : decode cX2_meet 23 = .ok (.ishl, 1) := by decide +kernel
theorem dX2_meet_24 : decode cX2_meet 24 = .ok (.iload 7, 2) := by decide +kernel
theorem dX2_meet_26 : decode cX2_meet 26 = .ok (.ior, 1) := by decide +kernel
theorem dX2_meet_27 : decode cX2_meet 27 = .ok (.istore 9, 2) := by decide +kernel
theorem dX2_meet_29 : decode cX2_meet 29 = .ok (.aload_n 0, 1) := by decide +kernel
theorem dX2_meet_30 : decode cX2_meet 30 = .ok (.getfield 9, 3) := by decide +kernel
theorem dX2_meet_33 : decode cX2_meet 33 = .ok (.iload_n 2, 1) := by decide +kernel
theorem dX2_meet_34 : decode cX2_meet 34 = .ok (.sipush 1024, 3) := by decide +kernel
theorem dX2_meet_37 : decode cX2_meet 37 = .ok (.imul, 1) := by decide +kernel
theorem dX2_meet_38 : decode cX2_meet 38 = .ok (.iload 9, 2) := by decide +kernel
theorem dX2_meet_40 : decode cX2_meet 40 = .ok (.iadd, 1) := by decide +kernel
theorem dX2_meet_41 : decode cX2_meet 41 = .ok (.iaload, 1) := by decide +kernel
theorem dX2_meet_42 : decode cX2_meet 42 = .ok (.iload 6, 2) := by decide +kernel
theorem dX2_meet_44 : decode cX2_meet 44 = .ok (.iadd, 1) := by decide +kernel
theorem dX2_meet_45 : decode cX2_meet 45 = .ok (.istore 10, 2) := by decide +kernel
theorem dX2_meet_47 : decode cX2_meet 47 = .ok (.iload 10, 2) := by decide +kernel
theorem dX2_meet_49 : decode cX2_meet 49 = .ok (.ldc 93, 2) := by decide +kernel
theorem dX2_meet_51 : decode cX2_meet 51 = .ok (.if_icmp .ge 18, 3) := by decide +kernel
theorem dX2_meet_54 : decode cX2_meet 54 = .ok (.aload_n 0, 1) := by decide +kernel
theorem dX2_meet_55 : decode cX2_meet 55 = .ok (.getfield 72, 3) := by decide +kernel
theorem dX2_meet_58 : decode cX2_meet 58 = .ok (.iload 8, 2) := by decide +kernel
theorem dX2_meet_60 : decode cX2_meet 60 = .ok (.iload_n 2, 1) := by decide +kernel
theorem dX2_meet_61 : decode cX2_meet 61 = .ok (.iload 5, 2) := by decide +kernel
theorem dX2_meet_63 : decode cX2_meet 63 = .ok (.invokevirtual 157, 3) := by decide +kernel
theorem dX2_meet_66 : decode cX2_meet 66 = .ok (.goto 4, 3) := by decide +kernel
theorem dX2_meet_69 : decode cX2_meet 69 = .ok (.iconst (-1), 1) := by decide +kernel
theorem dX2_meet_70 : decode cX2_meet 70 = .ok (.istore 11, 2) := by decide +kernel
theorem dX2_meet_72 : decode cX2_meet 72 = .ok (.iload 11, 2) := by decide +kernel
theorem dX2_meet_74 : decode cX2_meet 74 = .ok (.iconst (-1), 1) := by decide +kernel
theorem dX2_meet_75 : decode cX2_meet 75 = .ok (.if_icmp .ne 6, 3) := by decide +kernel
theorem dX2_meet_78 : decode cX2_meet 78 = .ok (.goto 105, 3) := by decide +kernel
theorem dX2_meet_81 : decode cX2_meet 81 = .ok (.iload 11, 2) := by decide +kernel
theorem dX2_meet_83 : decode cX2_meet 83 = .ok (.bipush 8, 2) := by decide +kernel
theorem dX2_meet_85 : decode cX2_meet 85 = .ok (.ishl, 1) := by decide +kernel
theorem dX2_meet_86 : decode cX2_meet 86 = .ok (.iload 4, 2) := by decide +kernel
theorem dX2_meet_88 : decode cX2_meet 88 = .ok (.ior, 1) := by decide +kernel
theorem dX2_meet_89 : decode cX2_meet 89 = .ok (.istore 12, 2) := by decide +kernel
theorem dX2_meet_91 : decode cX2_meet 91 = .ok (.iload_n 2, 1) := by decide +kernel
theorem dX2_meet_92 : decode cX2_meet 92 = .ok (.iconst 1, 1) := by decide +kernel
theorem dX2_meet_93 : decode cX2_meet 93 = .ok (.iadd, 1) := by decide +kernel
theorem dX2_meet_94 : decode cX2_meet 94 = .ok (.sipush 1024, 3) := by decide +kernel
theorem dX2_meet_97 : decode cX2_meet 97 = .ok (.imul, 1) := by decide +kernel
theorem dX2_meet_98 : decode cX2_meet 98 = .ok (.iload 12, 2) := by decide +kernel
theorem dX2_meet_100 : decode cX2_meet 100 = .ok (.iadd, 1) := by decide +kernel
theorem dX2_meet_101 : decode cX2_meet 101 = .ok (.istore 13, 2) := by decide +kernel
theorem dX2_meet_103 : decode cX2_meet 103 = .ok (.iload_n 1, 1) := by decide +kernel
theorem dX2_meet_104 : decode cX2_meet 104 = .ok (.ifCond .ne 25, 3) := by decide +kernel
theorem dX2_meet_107 : decode cX2_meet 107 = .ok (.aload_n 0, 1) := by decide +kernel
theorem dX2_meet_108 : decode cX2_meet 108 = .ok (.getfield 9, 3) := by decide +kernel
theorem dX2_meet_111 : decode cX2_meet 111 = .ok (.iload 13, 2) := by decide +kernel
theorem dX2_meet_113 : decode cX2_meet 113 = .ok (.aload_n 0, 1) := by decide +kernel
theorem dX2_meet_114 : decode cX2_meet 114 = .ok (.getfield 9, 3) := by decide +kernel
theorem dX2_meet_117 : decode cX2_meet 117 = .ok (.iload 13, 2) := by decide +kernel
theorem dX2_meet_119 : decode cX2_meet 119 = .ok (.iaload, 1) := by decide +kernel
theorem dX2_meet_120 : decode cX2_meet 120 = .ok (.iload 10, 2) := by decide +kernel
theorem dX2_meet_122 : decode cX2_meet 122 = .ok (.invokestatic 94, 3) := by decide +kernel
theorem dX2_meet_125 : decode cX2_meet 125 = .ok (.iastore, 1) := by decide +kernel
theorem dX2_meet_126 : decode cX2_meet 126 = .ok (.goto 57, 3) := by decide +kernel
theorem dX2_meet_129 : decode cX2_meet 129 = .ok (.aload_n 0, 1) := by decide +kernel
theorem dX2_meet_130 : decode cX2_meet 130 = .ok (.getfield 9, 3) := by decide +kernel
theorem dX2_meet_133 : decode cX2_meet 133 = .ok (.iload 13, 2) := by decide +kernel
theorem dX2_meet_135 : decode cX2_meet 135 = .ok (.iaload, 1) := by decide +kernel
theorem dX2_meet_136 : decode cX2_meet 136 = .ok (.iload 10, 2) := by decide +kernel
theorem dX2_meet_138 : decode cX2_meet 138 = .ok (.if_icmp .ne 45, 3) := by decide +kernel
theorem dX2_meet_141 : decode cX2_meet 141 = .ok (.iload_n 1, 1) := by decide +kernel
theorem dX2_meet_142 : decode cX2_meet 142 = .ok (.iconst 1, 1) := by decide +kernel
theorem dX2_meet_143 : decode cX2_meet 143 = .ok (.if_icmp .ne 23, 3) := by decide +kernel
theorem dX2_meet_146 : decode cX2_meet 146 = .ok (.aload_n 0, 1) := by decide +kernel
theorem dX2_meet_147 : decode cX2_meet 147 = .ok (.iload_n 2, 1) := by decide +kernel
theorem dX2_meet_148 : decode cX2_meet 148 = .ok (.iload 9, 2) := by decide +kernel
theorem dX2_meet_150 : decode cX2_meet 150 = .ok (.iload 12, 2) := by decide +kernel
theorem dX2_meet_152 : decode cX2_meet 152 = .ok (.aload_n 0, 1) := by decide +kernel
theorem dX2_meet_153 : decode cX2_meet 153 = .ok (.getfield 61, 3) := by decide +kernel
theorem dX2_meet_156 : decode cX2_meet 156 = .ok (.iload_n 3, 1) := by decide +kernel
theorem dX2_meet_157 : decode cX2_meet 157 = .ok (.iaload, 1) := by decide +kernel
theorem dX2_meet_158 : decode cX2_meet 158 = .ok (.iload 5, 2) := by decide +kernel
theorem dX2_meet_160 : decode cX2_meet 160 = .ok (.invokevirtual 161, 3) := by decide +kernel
theorem dX2_meet_163 : decode cX2_meet 163 = .ok (.goto 20, 3) := by decide +kernel
theorem dX2_meet_166 : decode cX2_meet 166 = .ok (.aload_n 0, 1) := by decide +kernel
theorem dX2_meet_167 : decode cX2_meet 167 = .ok (.iload_n 2, 1) := by decide +kernel
theorem dX2_meet_168 : decode cX2_meet 168 = .ok (.iload 9, 2) := by decide +kernel
theorem dX2_meet_170 : decode cX2_meet 170 = .ok (.iload 12, 2) := by decide +kernel
theorem dX2_meet_172 : decode cX2_meet 172 = .ok (.aload_n 0, 1) := by decide +kernel
theorem dX2_meet_173 : decode cX2_meet 173 = .ok (.getfield 61, 3) := by decide +kernel
theorem dX2_meet_176 : decode cX2_meet 176 = .ok (.iload_n 3, 1) := by decide +kernel
theorem dX2_meet_177 : decode cX2_meet 177 = .ok (.iaload, 1) := by decide +kernel
theorem dX2_meet_178 : decode cX2_meet 178 = .ok (.iload 5, 2) := by decide +kernel
theorem dX2_meet_180 : decode cX2_meet 180 = .ok (.invokevirtual 165, 3) := by decide +kernel
theorem dX2_meet_183 : decode cX2_meet 183 = .ok (.iinc 8 1, 3) := by decide +kernel
theorem dX2_meet_186 : decode cX2_meet 186 = .ok (.goto (-176), 3) := by decide +kernel
theorem dX2_meet_189 : decode cX2_meet 189 = .ok (.return_, 1) := by decide +kernel
theorem dX2_keep_0 : decode cX2_keep 0 = .ok (.iload_n 1, 1) := by decide +kernel
theorem dX2_keep_1 : decode cX2_keep 1 = .ok (.invokestatic 113, 3) := by decide +kernel
theorem dX2_keep_4 : decode cX2_keep 4 = .ok (.iload_n 2, 1) := by decide +kernel
theorem dX2_keep_5 : decode cX2_keep 5 = .ok (.iadd, 1) := by decide +kernel
theorem dX2_keep_6 : decode cX2_keep 6 = .ok (.istore 6, 2) := by decide +kernel
theorem dX2_keep_8 : decode cX2_keep 8 = .ok (.aload_n 0, 1) := by decide +kernel
theorem dX2_keep_9 : decode cX2_keep 9 = .ok (.getfield 15, 3) := by decide +kernel
theorem dX2_keep_12 : decode cX2_keep 12 = .ok (.iload 6, 2) := by decide +kernel
theorem dX2_keep_14 : decode cX2_keep 14 = .ok (.aload_n 0, 1) := by decide +kernel
theorem dX2_keep_15 : decode cX2_keep 15 = .ok (.getfield 15, 3) := by decide +kernel
theorem dX2_keep_18 : decode cX2_keep 18 = .ok (.iload 6, 2) := by decide +kernel
theorem dX2_keep_20 : decode cX2_keep 20 = .ok (.laload, 1) := by decide +kernel
theorem dX2_keep_21 : decode cX2_keep 21 = .ok (.aload_n 0, 1) := by decide +kernel
theorem dX2_keep_22 : decode cX2_keep 22 = .ok (.getfield 15, 3) := by decide +kernel
theorem dX2_keep_25 : decode cX2_keep 25 = .ok (.iload_n 1, 1) := by decide +kernel
theorem dX2_keep_26 : decode cX2_keep 26 = .ok (.iconst 1, 1) := by decide +kernel
theorem dX2_keep_27 : decode cX2_keep 27 = .ok (.iadd, 1) := by decide +kernel
theorem dX2_keep_28 : decode cX2_keep 28 = .ok (.invokestatic 113, 3) := by decide +kernel
theorem dX2_keep_31 : decode cX2_keep 31 = .ok (.iload_n 3, 1) := by decide +kernel
theorem dX2_keep_32 : decode cX2_keep 32 = .ok (.iadd, 1) := by decide +kernel
theorem dX2_keep_33 : decode cX2_keep 33 = .ok (.laload, 1) := by decide +kernel
theorem dX2_keep_34 : decode cX2_keep 34 = .ok (.ladd, 1) := by decide +kernel
theorem dX2_keep_35 : decode cX2_keep 35 = .ok (.ldc2_w 122, 3) := by decide +kernel
theorem dX2_keep_38 : decode cX2_keep 38 = .ok (.invokestatic 124, 3) := by decide +kernel
theorem dX2_keep_41 : decode cX2_keep 41 = .ok (.lastore, 1) := by decide +kernel
theorem dX2_keep_42 : decode cX2_keep 42 = .ok (.aload_n 0, 1) := by decide +kernel
theorem dX2_keep_43 : decode cX2_keep 43 = .ok (.getfield 45, 3) := by decide +kernel
theorem dX2_keep_46 : decode cX2_keep 46 = .ok (.iload_n 1, 1) := by decide +kernel
theorem dX2_keep_47 : decode cX2_keep 47 = .ok (.dup2, 1) := by decide +kernel
theorem dX2_keep_48 : decode cX2_keep 48 = .ok (.iaload, 1) := by decide +kernel
theorem dX2_keep_49 : decode cX2_keep 49 = .ok (.iload 4, 2) := by decide +kernel
theorem dX2_keep_51 : decode cX2_keep 51 = .ok (.iand, 1) := by decide +kernel
theorem dX2_keep_52 : decode cX2_keep 52 = .ok (.iastore, 1) := by decide +kernel
theorem dX2_keep_53 : decode cX2_keep 53 = .ok (.aload_n 0, 1) := by decide +kernel
theorem dX2_keep_54 : decode cX2_keep 54 = .ok (.getfield 48, 3) := by decide +kernel
theorem dX2_keep_57 : decode cX2_keep 57 = .ok (.iload_n 1, 1) := by decide +kernel
theorem dX2_keep_58 : decode cX2_keep 58 = .ok (.dup2, 1) := by decide +kernel
theorem dX2_keep_59 : decode cX2_keep 59 = .ok (.iaload, 1) := by decide +kernel
theorem dX2_keep_60 : decode cX2_keep 60 = .ok (.iload 4, 2) := by decide +kernel
theorem dX2_keep_62 : decode cX2_keep 62 = .ok (.ior, 1) := by decide +kernel
theorem dX2_keep_63 : decode cX2_keep 63 = .ok (.iastore, 1) := by decide +kernel
theorem dX2_keep_64 : decode cX2_keep 64 = .ok (.aload_n 0, 1) := by decide +kernel
theorem dX2_keep_65 : decode cX2_keep 65 = .ok (.getfield 51, 3) := by decide +kernel
theorem dX2_keep_68 : decode cX2_keep 68 = .ok (.iload_n 1, 1) := by decide +kernel
theorem dX2_keep_69 : decode cX2_keep 69 = .ok (.dup2, 1) := by decide +kernel
theorem dX2_keep_70 : decode cX2_keep 70 = .ok (.iaload, 1) := by decide +kernel
theorem dX2_keep_71 : decode cX2_keep 71 = .ok (.iconst 1, 1) := by decide +kernel
theorem dX2_keep_72 : decode cX2_keep 72 = .ok (.iload 5, 2) := by decide +kernel
theorem dX2_keep_74 : decode cX2_keep 74 = .ok (.ishl, 1) := by decide +kernel
theorem dX2_keep_75 : decode cX2_keep 75 = .ok (.ior, 1) := by decide +kernel
theorem dX2_keep_76 : decode cX2_keep 76 = .ok (.iastore, 1) := by decide +kernel
theorem dX2_keep_77 : decode cX2_keep 77 = .ok (.aload_n 0, 1) := by decide +kernel
theorem dX2_keep_78 : decode cX2_keep 78 = .ok (.getfield 54, 3) := by decide +kernel
theorem dX2_keep_81 : decode cX2_keep 81 = .ok (.iload_n 1, 1) := by decide +kernel
theorem dX2_keep_82 : decode cX2_keep 82 = .ok (.dup2, 1) := by decide +kernel
theorem dX2_keep_83 : decode cX2_keep 83 = .ok (.iaload, 1) := by decide +kernel
theorem dX2_keep_84 : decode cX2_keep 84 = .ok (.iconst 1, 1) := by decide +kernel
theorem dX2_keep_85 : decode cX2_keep 85 = .ok (.iload_n 2, 1) := by decide +kernel
theorem dX2_keep_86 : decode cX2_keep 86 = .ok (.sipush 255, 3) := by decide +kernel
theorem dX2_keep_89 : decode cX2_keep 89 = .ok (.iand, 1) := by decide +kernel
theorem dX2_keep_90 : decode cX2_keep 90 = .ok (.aload_n 0, 1) := by decide +kernel
theorem dX2_keep_91 : decode cX2_keep 91 = .ok (.getfield 22, 3) := by decide +kernel
theorem dX2_keep_94 : decode cX2_keep 94 = .ok (.ishr, 1) := by decide +kernel
theorem dX2_keep_95 : decode cX2_keep 95 = .ok (.ishl, 1) := by decide +kernel
theorem dX2_keep_96 : decode cX2_keep 96 = .ok (.ior, 1) := by decide +kernel
theorem dX2_keep_97 : decode cX2_keep 97 = .ok (.iastore, 1) := by decide +kernel
theorem dX2_keep_98 : decode cX2_keep 98 = .ok (.return_, 1) := by decide +kernel
theorem dX2_addTally_0 : decode cX2_addTally 0 = .ok (.aload_n 0, 1) := by decide +kernel
theorem dX2_addTally_1 : decode cX2_addTally 1 = .ok (.getfield 35, 3) := by decide +kernel
theorem dX2_addTally_4 : decode cX2_addTally 4 = .ok (.bipush 10, 2) := by decide +kernel
theorem dX2_addTally_6 : decode cX2_addTally 6 = .ok (.if_icmp .ge 23, 3) := by decide +kernel
theorem dX2_addTally_9 : decode cX2_addTally 9 = .ok (.iload 4, 2) := by decide +kernel
theorem dX2_addTally_11 : decode cX2_addTally 11 = .ok (.aload_n 0, 1) := by decide +kernel
theorem dX2_addTally_12 : decode cX2_addTally 12 = .ok (.getfield 35, 3) := by decide +kernel
theorem dX2_addTally_15 : decode cX2_addTally 15 = .ok (.ishr, 1) := by decide +kernel
theorem dX2_addTally_16 : decode cX2_addTally 16 = .ok (.iconst 1, 1) := by decide +kernel
theorem dX2_addTally_17 : decode cX2_addTally 17 = .ok (.iand, 1) := by decide +kernel
theorem dX2_addTally_18 : decode cX2_addTally 18 = .ok (.ifCond .eq 7, 3) := by decide +kernel
theorem dX2_addTally_21 : decode cX2_addTally 21 = .ok (.iconst 1, 1) := by decide +kernel
theorem dX2_addTally_22 : decode cX2_addTally 22 = .ok (.goto 24, 3) := by decide +kernel
theorem dX2_addTally_25 : decode cX2_addTally 25 = .ok (.iconst 0, 1) := by decide +kernel
theorem dX2_addTally_26 : decode cX2_addTally 26 = .ok (.goto 20, 3) := by decide +kernel
theorem dX2_addTally_29 : decode cX2_addTally 29 = .ok (.aload_n 0, 1) := by decide +kernel
theorem dX2_addTally_30 : decode cX2_addTally 30 = .ok (.getfield 35, 3) := by decide +kernel
theorem dX2_addTally_33 : decode cX2_addTally 33 = .ok (.bipush 10, 2) := by decide +kernel
theorem dX2_addTally_35 : decode cX2_addTally 35 = .ok (.iload 5, 2) := by decide +kernel
theorem dX2_addTally_37 : decode cX2_addTally 37 = .ok (.iadd, 1) := by decide +kernel
theorem dX2_addTally_38 : decode cX2_addTally 38 = .ok (.if_icmp .ne 7, 3) := by decide +kernel
theorem dX2_addTally_41 : decode cX2_addTally 41 = .ok (.iconst 1, 1) := by decide +kernel
theorem dX2_addTally_42 : decode cX2_addTally 42 = .ok (.goto 4, 3) := by decide +kernel
theorem dX2_addTally_45 : decode cX2_addTally 45 = .ok (.iconst 0, 1) := by decide +kernel
theorem dX2_addTally_46 : decode cX2_addTally 46 = .ok (.istore 6, 2) := by decide +kernel
theorem dX2_addTally_48 : decode cX2_addTally 48 = .ok (.aload_n 0, 1) := by decide +kernel
theorem dX2_addTally_49 : decode cX2_addTally 49 = .ok (.getfield 15, 3) := by decide +kernel
theorem dX2_addTally_52 : decode cX2_addTally 52 = .ok (.iload_n 1, 1) := by decide +kernel
theorem dX2_addTally_53 : decode cX2_addTally 53 = .ok (.invokestatic 113, 3) := by decide +kernel
theorem dX2_addTally_56 : decode cX2_addTally 56 = .ok (.iload_n 2, 1) := by decide +kernel
theorem dX2_addTally_57 : decode cX2_addTally 57 = .ok (.iadd, 1) := by decide +kernel
theorem dX2_addTally_58 : decode cX2_addTally 58 = .ok (.laload, 1) := by decide +kernel
theorem dX2_addTally_59 : decode cX2_addTally 59 = .ok (.lstore 7, 2) := by decide +kernel
theorem dX2_addTally_61 : decode cX2_addTally 61 = .ok (.aload_n 0, 1) := by decide +kernel
theorem dX2_addTally_62 : decode cX2_addTally 62 = .ok (.getfield 15, 3) := by decide +kernel
theorem dX2_addTally_65 : decode cX2_addTally 65 = .ok (.iload_n 1, 1) := by decide +kernel
theorem dX2_addTally_66 : decode cX2_addTally 66 = .ok (.iconst 1, 1) := by decide +kernel
theorem dX2_addTally_67 : decode cX2_addTally 67 = .ok (.iadd, 1) := by decide +kernel
theorem dX2_addTally_68 : decode cX2_addTally 68 = .ok (.invokestatic 113, 3) := by decide +kernel
theorem dX2_addTally_71 : decode cX2_addTally 71 = .ok (.iload_n 3, 1) := by decide +kernel
theorem dX2_addTally_72 : decode cX2_addTally 72 = .ok (.iadd, 1) := by decide +kernel
theorem dX2_addTally_73 : decode cX2_addTally 73 = .ok (.dup2, 1) := by decide +kernel
theorem dX2_addTally_74 : decode cX2_addTally 74 = .ok (.laload, 1) := by decide +kernel
theorem dX2_addTally_75 : decode cX2_addTally 75 = .ok (.iload 6, 2) := by decide +kernel
theorem dX2_addTally_77 : decode cX2_addTally 77 = .ok (.ifCond .eq 10, 3) := by decide +kernel
theorem dX2_addTally_80 : decode cX2_addTally 80 = .ok (.lload 7, 2) := by decide +kernel
theorem dX2_addTally_82 : decode cX2_addTally 82 = .ok (.iconst 1, 1) := by decide +kernel
theorem dX2_addTally_83 : decode cX2_addTally 83 = .ok (.lshl, 1) := by decide +kernel
theorem dX2_addTally_84 : decode cX2_addTally 84 = .ok (.goto 5, 3) := by decide +kernel
theorem dX2_addTally_87 : decode cX2_addTally 87 = .ok (.lload 7, 2) := by decide +kernel
theorem dX2_addTally_89 : decode cX2_addTally 89 = .ok (.lor, 1) := by decide +kernel
theorem dX2_addTally_90 : decode cX2_addTally 90 = .ok (.lastore, 1) := by decide +kernel
theorem dX2_addTally_91 : decode cX2_addTally 91 = .ok (.return_, 1) := by decide +kernel
theorem dX3_init_0 : decode cX3_init 0 = .ok (.aload_n 0, 1) := by decide +kernel
theorem dX3_init_1 : decode cX3_init 1 = .ok (.invokespecial 1, 3) := by decide +kernel
theorem dX3_init_4 : decode cX3_init 4 = .ok (.aload_n 0, 1) := by decide +kernel
theorem dX3_init_5 : decode cX3_init 5 = .ok (.new 7, 3) := by decide +kernel
theorem dX3_init_8 : decode cX3_init 8 = .ok (.dup, 1) := by decide +kernel
theorem dX3_init_9 : decode cX3_init 9 = .ok (.invokespecial 9, 3) := by decide +kernel
theorem dX3_init_12 : decode cX3_init 12 = .ok (.putfield 10, 3) := by decide +kernel
theorem dX3_init_15 : decode cX3_init 15 = .ok (.aload_n 0, 1) := by decide +kernel
theorem dX3_init_16 : decode cX3_init 16 = .ok (.iconst 0, 1) := by decide +kernel
theorem dX3_init_17 : decode cX3_init 17 = .ok (.putfield 16, 3) := by decide +kernel
theorem dX3_init_20 : decode cX3_init 20 = .ok (.aload_n 0, 1) := by decide +kernel
theorem dX3_init_21 : decode cX3_init 21 = .ok (.iconst 0, 1) := by decide +kernel
theorem dX3_init_22 : decode cX3_init 22 = .ok (.putfield 20, 3) := by decide +kernel
theorem dX3_init_25 : decode cX3_init 25 = .ok (.aload_n 0, 1) := by decide +kernel
theorem dX3_init_26 : decode cX3_init 26 = .ok (.iconst 0, 1) := by decide +kernel
theorem dX3_init_27 : decode cX3_init 27 = .ok (.putfield 23, 3) := by decide +kernel
theorem dX3_init_30 : decode cX3_init 30 = .ok (.aload_n 0, 1) := by decide +kernel
theorem dX3_init_31 : decode cX3_init 31 = .ok (.iconst 0, 1) := by decide +kernel
theorem dX3_init_32 : decode cX3_init 32 = .ok (.putfield 27, 3) := by decide +kernel
theorem dX3_init_35 : decode cX3_init 35 = .ok (.aload_n 0, 1) := by decide +kernel
theorem dX3_init_36 : decode cX3_init 36 = .ok (.iconst 0, 1) := by decide +kernel
theorem dX3_init_37 : decode cX3_init 37 = .ok (.putfield 30, 3) := by decide +kernel
theorem dX3_init_40 : decode cX3_init 40 = .ok (.return_, 1) := by decide +kernel
theorem dX3_become_0 : decode cX3_become 0 = .ok (.aload_n 0, 1) := by decide +kernel
theorem dX3_become_1 : decode cX3_become 1 = .ok (.getfield 10, 3) := by decide +kernel
theorem dX3_become_4 : decode cX3_become 4 = .ok (.aload_n 1, 1) := by decide +kernel
theorem dX3_become_5 : decode cX3_become 5 = .ok (.getfield 10, 3) := by decide +kernel
theorem dX3_become_8 : decode cX3_become 8 = .ok (.invokevirtual 33, 3) := by decide +kernel
theorem dX3_become_11 : decode cX3_become 11 = .ok (.aload_n 0, 1) := by decide +kernel
theorem dX3_become_12 : decode cX3_become 12 = .ok (.aload_n 1, 1) := by decide +kernel
theorem dX3_become_13 : decode cX3_become 13 = .ok (.getfield 16, 3) := by decide +kernel
theorem dX3_become_16 : decode cX3_become 16 = .ok (.putfield 16, 3) := by decide +kernel
theorem dX3_become_19 : decode cX3_become 19 = .ok (.aload_n 0, 1) := by decide +kernel
theorem dX3_become_20 : decode cX3_become 20 = .ok (.aload_n 1, 1) := by decide +kernel
theorem dX3_become_21 : decode cX3_become 21 = .ok (.getfield 20, 3) := by decide +kernel
theorem dX3_become_24 : decode cX3_become 24 = .ok (.putfield 20, 3) := by decide +kernel
theorem dX3_become_27 : decode cX3_become 27 = .ok (.aload_n 0, 1) := by decide +kernel
theorem dX3_become_28 : decode cX3_become 28 = .ok (.aload_n 1, 1) := by decide +kernel
theorem dX3_become_29 : decode cX3_become 29 = .ok (.getfield 23, 3) := by decide +kernel
theorem dX3_become_32 : decode cX3_become 32 = .ok (.putfield 23, 3) := by decide +kernel
theorem dX3_become_35 : decode cX3_become 35 = .ok (.aload_n 0, 1) := by decide +kernel
theorem dX3_become_36 : decode cX3_become 36 = .ok (.aload_n 1, 1) := by decide +kernel
theorem dX3_become_37 : decode cX3_become 37 = .ok (.getfield 27, 3) := by decide +kernel
theorem dX3_become_40 : decode cX3_become 40 = .ok (.putfield 27, 3) := by decide +kernel
theorem dX3_become_43 : decode cX3_become 43 = .ok (.aload_n 0, 1) := by decide +kernel
theorem dX3_become_44 : decode cX3_become 44 = .ok (.aload_n 1, 1) := by decide +kernel
theorem dX3_become_45 : decode cX3_become 45 = .ok (.getfield 30, 3) := by decide +kernel
theorem dX3_become_48 : decode cX3_become 48 = .ok (.putfield 30, 3) := by decide +kernel
theorem dX3_become_51 : decode cX3_become 51 = .ok (.return_, 1) := by decide +kernel
theorem dX3_clear_0 : decode cX3_clear 0 = .ok (.aload_n 0, 1) := by decide +kernel
theorem dX3_clear_1 : decode cX3_clear 1 = .ok (.getfield 10, 3) := by decide +kernel
theorem dX3_clear_4 : decode cX3_clear 4 = .ok (.iconst 0, 1) := by decide +kernel
theorem dX3_clear_5 : decode cX3_clear 5 = .ok (.putfield 37, 3) := by decide +kernel
theorem dX3_clear_8 : decode cX3_clear 8 = .ok (.aload_n 0, 1) := by decide +kernel
theorem dX3_clear_9 : decode cX3_clear 9 = .ok (.iconst 0, 1) := by decide +kernel
theorem dX3_clear_10 : decode cX3_clear 10 = .ok (.putfield 16, 3) := by decide +kernel
theorem dX3_clear_13 : decode cX3_clear 13 = .ok (.aload_n 0, 1) := by decide +kernel
theorem dX3_clear_14 : decode cX3_clear 14 = .ok (.iconst 0, 1) := by decide +kernel
theorem dX3_clear_15 : decode cX3_clear 15 = .ok (.putfield 20, 3) := by decide +kernel
theorem dX3_clear_18 : decode cX3_clear 18 = .ok (.aload_n 0, 1) := by decide +kernel
theorem dX3_clear_19 : decode cX3_clear 19 = .ok (.iconst 0, 1) := by decide +kernel
theorem dX3_clear_20 : decode cX3_clear 20 = .ok (.putfield 23, 3) := by decide +kernel
theorem dX3_clear_23 : decode cX3_clear 23 = .ok (.return_, 1) := by decide +kernel
theorem dX3_addEffect_0 : decode cX3_addEffect 0 = .ok (.iconst 1, 1) := by decide +kernel
theorem dX3_addEffect_1 : decode cX3_addEffect 1 = .ok (.iload_n 1, 1) := by decide +kernel
theorem dX3_addEffect_2 : decode cX3_addEffect 2 = .ok (.ishl, 1) := by decide +kernel
theorem dX3_addEffect_3 : decode cX3_addEffect 3 = .ok (.istore_n 3, 1) := by decide +kernel
theorem dX3_addEffect_4 : decode cX3_addEffect 4 = .ok (.aload_n 0, 1) := by decide +kernel
theorem dX3_addEffect_5 : decode cX3_addEffect 5 = .ok (.iload_n 2, 1) := by decide +kernel
theorem dX3_addEffect_6 : decode cX3_addEffect 6 = .ok (.ifCond .eq 12, 3) := by decide +kernel
theorem dX3_addEffect_9 : decode cX3_addEffect 9 = .ok (.aload_n 0, 1) := by decide +kernel
theorem dX3_addEffect_10 : decode cX3_addEffect 10 = .ok (.getfield 16, 3) := by decide +kernel
theorem dX3_addEffect_13 : decode cX3_addEffect 13 = .ok (.iload_n 3, 1) := by decide +kernel
theorem dX3_addEffect_14 : decode cX3_addEffect 14 = .ok (.ior, 1) := by decide +kernel
theorem dX3_addEffect_15 : decode cX3_addEffect 15 = .ok (.goto 11, 3) := by decide +kernel
theorem dX3_addEffect_18 : decode cX3_addEffect 18 = .ok (.aload_n 0, 1) := by decide +kernel
theorem dX3_addEffect_19 : decode cX3_addEffect 19 = .ok (.getfield 16, 3) := by decide +kernel
theorem dX3_addEffect_22 : decode cX3_addEffect 22 = .ok (.iload_n 3, 1) := by decide +kernel
theorem dX3_addEffect_23 : decode cX3_addEffect 23 = .ok (.iconst (-1), 1) := by decide +kernel
theorem dX3_addEffect_24 : decode cX3_addEffect 24 = .ok (.ixor, 1) := by decide +kernel
theorem dX3_addEffect_25 : decode cX3_addEffect 25 = .ok (.iand, 1) := by decide +kernel
theorem dX3_addEffect_26 : decode cX3_addEffect 26 = .ok (.putfield 16, 3) := by decide +kernel
theorem dX3_addEffect_29 : decode cX3_addEffect 29 = .ok (.aload_n 0, 1) := by decide +kernel
theorem dX3_addEffect_30 : decode cX3_addEffect 30 = .ok (.iload_n 2, 1) := by decide +kernel
theorem dX3_addEffect_31 : decode cX3_addEffect 31 = .ok (.ifCond .eq 14, 3) := by decide +kernel
theorem dX3_addEffect_34 : decode cX3_addEffect 34 = .ok (.aload_n 0, 1) := by decide +kernel
theorem dX3_addEffect_35 : decode cX3_addEffect 35 = .ok (.getfield 20, 3) := by decide +kernel
theorem dX3_addEffect_38 : decode cX3_addEffect 38 = .ok (.iload_n 3, 1) := by decide +kernel
theorem dX3_addEffect_39 : decode cX3_addEffect 39 = .ok (.iconst (-1), 1) := by decide +kernel
theorem dX3_addEffect_40 : decode cX3_addEffect 40 = .ok (.ixor, 1) := by decide +kernel
theorem dX3_addEffect_41 : decode cX3_addEffect 41 = .ok (.iand, 1) := by decide +kernel
theorem dX3_addEffect_42 : decode cX3_addEffect 42 = .ok (.goto 9, 3) := by decide +kernel
theorem dX3_addEffect_45 : decode cX3_addEffect 45 = .ok (.aload_n 0, 1) := by decide +kernel
theorem dX3_addEffect_46 : decode cX3_addEffect 46 = .ok (.getfield 20, 3) := by decide +kernel
theorem dX3_addEffect_49 : decode cX3_addEffect 49 = .ok (.iload_n 3, 1) := by decide +kernel
theorem dX3_addEffect_50 : decode cX3_addEffect 50 = .ok (.ior, 1) := by decide +kernel
theorem dX3_addEffect_51 : decode cX3_addEffect 51 = .ok (.putfield 20, 3) := by decide +kernel
theorem dX3_addEffect_54 : decode cX3_addEffect 54 = .ok (.return_, 1) := by decide +kernel
theorem dX4_init_0 : decode cX4_init 0 = .ok (.aload_n 0, 1) := by decide +kernel
theorem dX4_init_1 : decode cX4_init 1 = .ok (.iload_n 1, 1) := by decide +kernel
theorem dX4_init_2 : decode cX4_init 2 = .ok (.iconst 3, 1) := by decide +kernel
theorem dX4_init_3 : decode cX4_init 3 = .ok (.iload_n 2, 1) := by decide +kernel
theorem dX4_init_4 : decode cX4_init 4 = .ok (.iload_n 3, 1) := by decide +kernel
theorem dX4_init_5 : decode cX4_init 5 = .ok (.iload 4, 2) := by decide +kernel
theorem dX4_init_7 : decode cX4_init 7 = .ok (.iload 5, 2) := by decide +kernel
theorem dX4_init_9 : decode cX4_init 9 = .ok (.invokespecial 3, 3) := by decide +kernel
theorem dX4_init_12 : decode cX4_init 12 = .ok (.return_, 1) := by decide +kernel
theorem dX4_binds_0 : decode cX4_binds 0 = .ok (.bipush 40, 2) := by decide +kernel
theorem dX4_binds_2 : decode cX4_binds 2 = .ok (.aload_n 2, 1) := by decide +kernel
theorem dX4_binds_3 : decode cX4_binds 3 = .ok (.invokestatic 9, 3) := by decide +kernel
theorem dX4_binds_6 : decode cX4_binds 6 = .ok (.aload_n 0, 1) := by decide +kernel
theorem dX4_binds_7 : decode cX4_binds 7 = .ok (.iload_n 1, 1) := by decide +kernel
theorem dX4_binds_8 : decode cX4_binds 8 = .ok (.aload_n 2, 1) := by decide +kernel
theorem dX4_binds_9 : decode cX4_binds 9 = .ok (.invokespecial 15, 3) := by decide +kernel
theorem dX4_binds_12 : decode cX4_binds 12 = .ok (.ineg, 1) := by decide +kernel
theorem dX4_binds_13 : decode cX4_binds 13 = .ok (.ireturn, 1) := by decide +kernel
theorem dX4_tells_0 : decode cX4_tells 0 = .ok (.bipush 41, 2) := by decide +kernel
theorem dX4_tells_2 : decode cX4_tells 2 = .ok (.aload_n 2, 1) := by decide +kernel
theorem dX4_tells_3 : decode cX4_tells 3 = .ok (.invokestatic 9, 3) := by decide +kernel
theorem dX4_tells_6 : decode cX4_tells 6 = .ok (.aload_n 0, 1) := by decide +kernel
theorem dX4_tells_7 : decode cX4_tells 7 = .ok (.iload_n 1, 1) := by decide +kernel
theorem dX4_tells_8 : decode cX4_tells 8 = .ok (.iconst 1, 1) := by decide +kernel
theorem dX4_tells_9 : decode cX4_tells 9 = .ok (.iadd, 1) := by decide +kernel
theorem dX4_tells_10 : decode cX4_tells 10 = .ok (.aload_n 2, 1) := by decide +kernel
theorem dX4_tells_11 : decode cX4_tells 11 = .ok (.invokespecial 19, 3) := by decide +kernel
theorem dX4_tells_14 : decode cX4_tells 14 = .ok (.ireturn, 1) := by decide +kernel
theorem dX5_init_0 : decode cX5_init 0 = .ok (.aload_n 0, 1) := by decide +kernel
theorem dX5_init_1 : decode cX5_init 1 = .ok (.invokespecial 3, 3) := by decide +kernel
theorem dX5_init_4 : decode cX5_init 4 = .ok (.aload_n 0, 1) := by decide +kernel
theorem dX5_init_5 : decode cX5_init 5 = .ok (.new 9, 3) := by decide +kernel
theorem dX5_init_8 : decode cX5_init 8 = .ok (.dup, 1) := by decide +kernel
theorem dX5_init_9 : decode cX5_init 9 = .ok (.invokespecial 11, 3) := by decide +kernel
theorem dX5_init_12 : decode cX5_init 12 = .ok (.putfield 12, 3) := by decide +kernel
theorem dX5_init_15 : decode cX5_init 15 = .ok (.aload_n 0, 1) := by decide +kernel
theorem dX5_init_16 : decode cX5_init 16 = .ok (.iconst 0, 1) := by decide +kernel
theorem dX5_init_17 : decode cX5_init 17 = .ok (.putfield 18, 3) := by decide +kernel
theorem dX5_init_20 : decode cX5_init 20 = .ok (.aload_n 0, 1) := by decide +kernel
theorem dX5_init_21 : decode cX5_init 21 = .ok (.iconst 1, 1) := by decide +kernel
theorem dX5_init_22 : decode cX5_init 22 = .ok (.putfield 22, 3) := by decide +kernel
theorem dX5_init_25 : decode cX5_init 25 = .ok (.aload_n 0, 1) := by decide +kernel
theorem dX5_init_26 : decode cX5_init 26 = .ok (.iconst 0, 1) := by decide +kernel
theorem dX5_init_27 : decode cX5_init 27 = .ok (.putfield 25, 3) := by decide +kernel
theorem dX5_init_30 : decode cX5_init 30 = .ok (.aload_n 0, 1) := by decide +kernel
theorem dX5_init_31 : decode cX5_init 31 = .ok (.iconst 0, 1) := by decide +kernel
theorem dX5_init_32 : decode cX5_init 32 = .ok (.putfield 28, 3) := by decide +kernel
theorem dX5_init_35 : decode cX5_init 35 = .ok (.aload_n 0, 1) := by decide +kernel
theorem dX5_init_36 : decode cX5_init 36 = .ok (.iconst (-1), 1) := by decide +kernel
theorem dX5_init_37 : decode cX5_init 37 = .ok (.putfield 32, 3) := by decide +kernel
theorem dX5_init_40 : decode cX5_init 40 = .ok (.aload_n 0, 1) := by decide +kernel
theorem dX5_init_41 : decode cX5_init 41 = .ok (.aload_n 1, 1) := by decide +kernel
theorem dX5_init_42 : decode cX5_init 42 = .ok (.putfield 35, 3) := by decide +kernel
theorem dX5_init_45 : decode cX5_init 45 = .ok (.return_, 1) := by decide +kernel
theorem dX5_read_0 : decode cX5_read 0 = .ok (.aload_n 0, 1) := by decide +kernel
theorem dX5_read_1 : decode cX5_read 1 = .ok (.getfield 12, 3) := by decide +kernel
theorem dX5_read_4 : decode cX5_read 4 = .ok (.invokevirtual 39, 3) := by decide +kernel
theorem dX5_read_7 : decode cX5_read 7 = .ok (.aload_n 0, 1) := by decide +kernel
theorem dX5_read_8 : decode cX5_read 8 = .ok (.iload_n 2, 1) := by decide +kernel
theorem dX5_read_9 : decode cX5_read 9 = .ok (.putfield 18, 3) := by decide +kernel
theorem dX5_read_12 : decode cX5_read 12 = .ok (.aload_n 0, 1) := by decide +kernel
theorem dX5_read_13 : decode cX5_read 13 = .ok (.iconst 1, 1) := by decide +kernel
theorem dX5_read_14 : decode cX5_read 14 = .ok (.putfield 22, 3) := by decide +kernel
theorem dX5_read_17 : decode cX5_read 17 = .ok (.aload_n 0, 1) := by decide +kernel
theorem dX5_read_18 : decode cX5_read 18 = .ok (.getfield 18, 3) := by decide +kernel
theorem dX5_read_21 : decode cX5_read 21 = .ok (.ifCond .eq 7, 3) := by decide +kernel
theorem dX5_read_24 : decode cX5_read 24 = .ok (.iconst 0, 1) := by decide +kernel
theorem dX5_read_25 : decode cX5_read 25 = .ok (.goto 4, 3) := by decide +kernel
theorem dX5_read_28 : decode cX5_read 28 = .ok (.iconst 1, 1) := by decide +kernel
theorem dX5_read_29 : decode cX5_read 29 = .ok (.istore_n 3, 1) := by decide +kernel
theorem dX5_read_30 : decode cX5_read 30 = .ok (.iconst 0, 1) := by decide +kernel
theorem dX5_read_31 : decode cX5_read 31 = .ok (.istore 4, 2) := by decide +kernel
theorem dX5_read_33 : decode cX5_read 33 = .ok (.iload 4, 2) := by decide +kernel
theorem dX5_read_35 : decode cX5_read 35 = .ok (.aload_n 1, 1) := by decide +kernel
theorem dX5_read_36 : decode cX5_read 36 = .ok (.getfield 42, 3) := by decide +kernel
theorem dX5_read_39 : decode cX5_read 39 = .ok (.if_icmp .ge 30, 3) := by decide +kernel
theorem dX5_read_42 : decode cX5_read 42 = .ok (.aload_n 0, 1) := by decide +kernel
theorem dX5_read_43 : decode cX5_read 43 = .ok (.iload_n 3, 1) := by decide +kernel
theorem dX5_read_44 : decode cX5_read 44 = .ok (.aload_n 1, 1) := by decide +kernel
theorem dX5_read_45 : decode cX5_read 45 = .ok (.iload 4, 2) := by decide +kernel
theorem dX5_read_47 : decode cX5_read 47 = .ok (.invokevirtual 47, 3) := by decide +kernel
theorem dX5_read_50 : decode cX5_read 50 = .ok (.invokevirtual 51, 3) := by decide +kernel
theorem dX5_read_53 : decode cX5_read 53 = .ok (.istore_n 3, 1) := by decide +kernel
theorem dX5_read_54 : decode cX5_read 54 = .ok (.iload_n 3, 1) := by decide +kernel
theorem dX5_read_55 : decode cX5_read 55 = .ok (.bipush 11, 2) := by decide +kernel
theorem dX5_read_57 : decode cX5_read 57 = .ok (.if_icmp .ne 6, 3) := by decide +kernel
theorem dX5_read_60 : decode cX5_read 60 = .ok (.iload 4, 2) := by decide +kernel
theorem dX5_read_62 : decode cX5_read 62 = .ok (.ireturn, 1) := by decide +kernel
theorem dX5_read_63 : decode cX5_read 63 = .ok (.iinc 4 1, 3) := by decide +kernel
theorem dX5_read_66 : decode cX5_read 66 = .ok (.goto (-33), 3) := by decide +kernel
theorem dX5_read_69 : decode cX5_read 69 = .ok (.aload_n 0, 1) := by decide +kernel
theorem dX5_read_70 : decode cX5_read 70 = .ok (.getfield 18, 3) := by decide +kernel
theorem dX5_read_73 : decode cX5_read 73 = .ok (.ifCond .eq 18, 3) := by decide +kernel
theorem dX5_read_76 : decode cX5_read 76 = .ok (.iload_n 3, 1) := by decide +kernel
theorem dX5_read_77 : decode cX5_read 77 = .ok (.bipush 10, 2) := by decide +kernel
theorem dX5_read_79 : decode cX5_read 79 = .ok (.if_icmp .ne 7, 3) := by decide +kernel
theorem dX5_read_82 : decode cX5_read 82 = .ok (.iconst (-1), 1) := by decide +kernel
theorem dX5_read_83 : decode cX5_read 83 = .ok (.goto 7, 3) := by decide +kernel
theorem dX5_read_86 : decode cX5_read 86 = .ok (.aload_n 1, 1) := by decide +kernel
theorem dX5_read_87 : decode cX5_read 87 = .ok (.getfield 42, 3) := by decide +kernel
theorem dX5_read_90 : decode cX5_read 90 = .ok (.ireturn, 1) := by decide +kernel
theorem dX5_read_91 : decode cX5_read 91 = .ok (.iload_n 3, 1) := by decide +kernel
theorem dX5_read_92 : decode cX5_read 92 = .ok (.iconst 3, 1) := by decide +kernel
theorem dX5_read_93 : decode cX5_read 93 = .ok (.if_icmp .eq 13, 3) := by decide +kernel
theorem dX5_read_96 : decode cX5_read 96 = .ok (.iload_n 3, 1) := by decide +kernel
theorem dX5_read_97 : decode cX5_read 97 = .ok (.iconst 5, 1) := by decide +kernel
theorem dX5_read_98 : decode cX5_read 98 = .ok (.if_icmp .eq 8, 3) := by decide +kernel
theorem dX5_read_101 : decode cX5_read 101 = .ok (.aload_n 1, 1) := by decide +kernel
theorem dX5_read_102 : decode cX5_read 102 = .ok (.getfield 42, 3) := by decide +kernel
theorem dX5_read_105 : decode cX5_read 105 = .ok (.ireturn, 1) := by decide +kernel
theorem dX5_read_106 : decode cX5_read 106 = .ok (.aload_n 0, 1) := by decide +kernel
theorem dX5_read_107 : decode cX5_read 107 = .ok (.invokevirtual 55, 3) := by decide +kernel
theorem dX5_read_110 : decode cX5_read 110 = .ok (.iconst (-1), 1) := by decide +kernel
theorem dX5_read_111 : decode cX5_read 111 = .ok (.ireturn, 1) := by decide +kernel
theorem dX5_after_0 : decode cX5_after 0 = .ok (.iload_n 1, 1) := by decide +kernel
theorem dX5_after_1 : decode cX5_after 1 = .ok (.tableswitch 145 0 9 #[55, 72, 78, 85, 113, 119, 145, 125, 132, 139], 55) := by decide +kernel
theorem dX5_after_56 : decode cX5_after 56 = .ok (.iload_n 2, 1) := by decide +kernel
theorem dX5_after_57 : decode cX5_after 57 = .ok (.bipush 58, 2) := by decide +kernel
theorem dX5_after_59 : decode cX5_after 59 = .ok (.if_icmp .ne 8, 3) := by decide +kernel
theorem dX5_after_62 : decode cX5_after 62 = .ok (.bipush 6, 2) := by decide +kernel
theorem dX5_after_64 : decode cX5_after 64 = .ok (.goto 8, 3) := by decide +kernel
theorem dX5_after_67 : decode cX5_after 67 = .ok (.aload_n 0, 1) := by decide +kernel
theorem dX5_after_68 : decode cX5_after 68 = .ok (.iload_n 2, 1) := by decide +kernel
theorem dX5_after_69 : decode cX5_after 69 = .ok (.invokevirtual 58, 3) := by decide +kernel
theorem dX5_after_72 : decode cX5_after 72 = .ok (.ireturn, 1) := by decide +kernel
theorem dX5_after_73 : decode cX5_after 73 = .ok (.aload_n 0, 1) := by decide +kernel
theorem dX5_after_74 : decode cX5_after 74 = .ok (.iload_n 2, 1) := by decide +kernel
theorem dX5_after_75 : decode cX5_after 75 = .ok (.invokevirtual 58, 3) := by decide +kernel
theorem dX5_after_78 : decode cX5_after 78 = .ok (.ireturn, 1) := by decide +kernel
theorem dX5_after_79 : decode cX5_after 79 = .ok (.aload_n 0, 1) := by decide +kernel
theorem dX5_after_80 : decode cX5_after 80 = .ok (.iload_n 2, 1) := by decide +kernel
theorem dX5_after_81 : decode cX5_after 81 = .ok (.iconst 1, 1) := by decide +kernel
theorem dX5_after_82 : decode cX5_after 82 = .ok (.invokevirtual 61, 3) := by decide +kernel
theorem dX5_after_85 : decode cX5_after 85 = .ok (.ireturn, 1) := by decide +kernel
theorem dX5_after_86 : decode cX5_after 86 = .ok (.iload_n 2, 1) := by decide +kernel
theorem dX5_after_87 : decode cX5_after 87 = .ok (.bipush 62, 2) := by decide +kernel
theorem dX5_after_89 : decode cX5_after 89 = .ok (.if_icmp .ne 19, 3) := by decide +kernel
theorem dX5_after_92 : decode cX5_after 92 = .ok (.aload_n 0, 1) := by decide +kernel
theorem dX5_after_93 : decode cX5_after 93 = .ok (.aload_n 0, 1) := by decide +kernel
theorem dX5_after_94 : decode cX5_after 94 = .ok (.getfield 28, 3) := by decide +kernel
theorem dX5_after_97 : decode cX5_after 97 = .ok (.invokevirtual 65, 3) := by decide +kernel
theorem dX5_after_100 : decode cX5_after 100 = .ok (.iconst 3, 1) := by decide +kernel
theorem dX5_after_101 : decode cX5_after 101 = .ok (.if_icmp .ne 7, 3) := by decide +kernel
theorem dX5_after_104 : decode cX5_after 104 = .ok (.iconst 4, 1) := by decide +kernel
theorem dX5_after_105 : decode cX5_after 105 = .ok (.goto 8, 3) := by decide +kernel
theorem dX5_after_108 : decode cX5_after 108 = .ok (.aload_n 0, 1) := by decide +kernel
theorem dX5_after_109 : decode cX5_after 109 = .ok (.iload_n 2, 1) := by decide +kernel
theorem dX5_after_110 : decode cX5_after 110 = .ok (.invokevirtual 68, 3) := by decide +kernel
theorem dX5_after_113 : decode cX5_after 113 = .ok (.ireturn, 1) := by decide +kernel
theorem dX5_after_114 : decode cX5_after 114 = .ok (.aload_n 0, 1) := by decide +kernel
theorem dX5_after_115 : decode cX5_after 115 = .ok (.iload_n 2, 1) := by decide +kernel
theorem dX5_after_116 : decode cX5_after 116 = .ok (.invokevirtual 71, 3) := by decide +kernel
theorem dX5_after_119 : decode cX5_after 119 = .ok (.ireturn, 1) := by decide +kernel
theorem dX5_after_120 : decode cX5_after 120 = .ok (.aload_n 0, 1) := by decide +kernel
theorem dX5_after_121 : decode cX5_after 121 = .ok (.iload_n 2, 1) := by decide +kernel
theorem dX5_after_122 : decode cX5_after 122 = .ok (.invokevirtual 68, 3) := by decide +kernel
theorem dX5_after_125 : decode cX5_after 125 = .ok (.ireturn, 1) := by decide +kernel
theorem dX5_after_126 : decode cX5_after 126 = .ok (.aload_n 0, 1) := by decide +kernel
theorem dX5_after_127 : decode cX5_after 127 = .ok (.iload_n 2, 1) := by decide +kernel
theorem dX5_after_128 : decode cX5_after 128 = .ok (.iconst 1, 1) := by decide +kernel
theorem dX5_after_129 : decode cX5_after 129 = .ok (.invokevirtual 74, 3) := by decide +kernel
theorem dX5_after_132 : decode cX5_after 132 = .ok (.ireturn, 1) := by decide +kernel
theorem dX5_after_133 : decode cX5_after 133 = .ok (.aload_n 0, 1) := by decide +kernel
theorem dX5_after_134 : decode cX5_after 134 = .ok (.iload_n 2, 1) := by decide +kernel
theorem dX5_after_135 : decode cX5_after 135 = .ok (.iconst 0, 1) := by decide +kernel
theorem dX5_after_136 : decode cX5_after 136 = .ok (.invokevirtual 74, 3) := by decide +kernel
theorem dX5_after_139 : decode cX5_after 139 = .ok (.ireturn, 1) := by decide +kernel
theorem dX5_after_140 : decode cX5_after 140 = .ok (.aload_n 0, 1) := by decide +kernel
theorem dX5_after_141 : decode cX5_after 141 = .ok (.iload_n 2, 1) := by decide +kernel
theorem dX5_after_142 : decode cX5_after 142 = .ok (.invokevirtual 77, 3) := by decide +kernel
theorem dX5_after_145 : decode cX5_after 145 = .ok (.ireturn, 1) := by decide +kernel
theorem dX5_after_146 : decode cX5_after 146 = .ok (.aload_n 0, 1) := by decide +kernel
theorem dX5_after_147 : decode cX5_after 147 = .ok (.iload_n 2, 1) := by decide +kernel
theorem dX5_after_148 : decode cX5_after 148 = .ok (.invokevirtual 80, 3) := by decide +kernel
theorem dX5_after_151 : decode cX5_after 151 = .ok (.ireturn, 1) := by decide +kernel
theorem dX5_afterAtomBegan_0 : decode cX5_afterAtomBegan 0 = .ok (.iload_n 1, 1) := by decide +kernel
theorem dX5_afterAtomBegan_1 : decode cX5_afterAtomBegan 1 = .ok (.bipush 33, 2) := by decide +kernel
theorem dX5_afterAtomBegan_3 : decode cX5_afterAtomBegan 3 = .ok (.if_icmp .ne 7, 3) := by decide +kernel
theorem dX5_afterAtomBegan_6 : decode cX5_afterAtomBegan 6 = .ok (.iconst 2, 1) := by decide +kernel
theorem dX5_afterAtomBegan_7 : decode cX5_afterAtomBegan 7 = .ok (.goto 9, 3) := by decide +kernel
theorem dX5_afterAtomBegan_10 : decode cX5_afterAtomBegan 10 = .ok (.aload_n 0, 1) := by decide +kernel
theorem dX5_afterAtomBegan_11 : decode cX5_afterAtomBegan 11 = .ok (.iload_n 1, 1) := by decide +kernel
theorem dX5_afterAtomBegan_12 : decode cX5_afterAtomBegan 12 = .ok (.iconst 0, 1) := by decide +kernel
theorem dX5_afterAtomBegan_13 : decode cX5_afterAtomBegan 13 = .ok (.invokevirtual 61, 3) := by decide +kernel
theorem dX5_afterAtomBegan_16 : decode cX5_afterAtomBegan 16 = .ok (.ireturn, 1) := by decide +kernel
theorem dX5_afterName_0 : decode cX5_afterName 0 = .ok (.iload_n 1, 1) := by decide +kernel
theorem dX5_afterName_1 : decode cX5_afterName 1 = .ok (.bipush 48, 2) := by decide +kernel
theorem dX5_afterName_3 : decode cX5_afterName 3 = .ok (.isub, 1) := by decide +kernel
theorem dX5_afterName_4 : decode cX5_afterName 4 = .ok (.istore_n 3, 1) := by decide +kernel
theorem dX5_afterName_5 : decode cX5_afterName 5 = .ok (.aload_n 0, 1) := by decide +kernel
theorem dX5_afterName_6 : decode cX5_afterName 6 = .ok (.iload_n 3, 1) := by decide +kernel
theorem dX5_afterName_7 : decode cX5_afterName 7 = .ok (.invokevirtual 65, 3) := by decide +kernel
theorem dX5_afterName_10 : decode cX5_afterName 10 = .ok (.iconst (-1), 1) := by decide +kernel
theorem dX5_afterName_11 : decode cX5_afterName 11 = .ok (.if_icmp .ne 6, 3) := by decide +kernel
theorem dX5_afterName_14 : decode cX5_afterName 14 = .ok (.bipush 11, 2) := by decide +kernel
theorem dX5_afterName_16 : decode cX5_afterName 16 = .ok (.ireturn, 1) := by decide +kernel
theorem dX5_afterName_17 : decode cX5_afterName 17 = .ok (.aload_n 0, 1) := by decide +kernel
theorem dX5_afterName_18 : decode cX5_afterName 18 = .ok (.iload_n 3, 1) := by decide +kernel
theorem dX5_afterName_19 : decode cX5_afterName 19 = .ok (.putfield 28, 3) := by decide +kernel
theorem dX5_afterName_22 : decode cX5_afterName 22 = .ok (.aload_n 0, 1) := by decide +kernel
theorem dX5_afterName_23 : decode cX5_afterName 23 = .ok (.iload_n 2, 1) := by decide +kernel
theorem dX5_afterName_24 : decode cX5_afterName 24 = .ok (.putfield 25, 3) := by decide +kernel
theorem dX5_afterName_27 : decode cX5_afterName 27 = .ok (.aload_n 0, 1) := by decide +kernel
theorem dX5_afterName_28 : decode cX5_afterName 28 = .ok (.iconst (-1), 1) := by decide +kernel
theorem dX5_afterName_29 : decode cX5_afterName 29 = .ok (.putfield 32, 3) := by decide +kernel
theorem dX5_afterName_32 : decode cX5_afterName 32 = .ok (.iconst 3, 1) := by decide +kernel
theorem dX5_afterName_33 : decode cX5_afterName 33 = .ok (.ireturn, 1) := by decide +kernel
theorem dX5_afterBound_0 : decode cX5_afterBound 0 = .ok (.iload_n 1, 1) := by decide +kernel
theorem dX5_afterBound_1 : decode cX5_afterBound 1 = .ok (.bipush 48, 2) := by decide +kernel
theorem dX5_afterBound_3 : decode cX5_afterBound 3 = .ok (.if_icmp .lt 9, 3) := by decide +kernel
theorem dX5_afterBound_6 : decode cX5_afterBound 6 = .ok (.iload_n 1, 1) := by decide +kernel
theorem dX5_afterBound_7 : decode cX5_afterBound 7 = .ok (.bipush 55, 2) := by decide +kernel
theorem dX5_afterBound_9 : decode cX5_afterBound 9 = .ok (.if_icmp .le 6, 3) := by decide +kernel
theorem dX5_afterBound_12 : decode cX5_afterBound 12 = .ok (.bipush 11, 2) := by decide +kernel
theorem dX5_afterBound_14 : decode cX5_afterBound 14 = .ok (.ireturn, 1) := by decide +kernel
theorem dX5_afterBound_15 : decode cX5_afterBound 15 = .ok (.aload_n 0, 1) := by decide +kernel
theorem dX5_afterBound_16 : decode cX5_afterBound 16 = .ok (.iload_n 1, 1) := by decide +kernel
theorem dX5_afterBound_17 : decode cX5_afterBound 17 = .ok (.bipush 48, 2) := by decide +kernel
theorem dX5_afterBound_19 : decode cX5_afterBound 19 = .ok (.isub, 1) := by decide +kernel
theorem dX5_afterBound_20 : decode cX5_afterBound 20 = .ok (.putfield 32, 3) := by decide +kernel
theorem dX5_afterBound_23 : decode cX5_afterBound 23 = .ok (.iconst 5, 1) := by decide +kernel
theorem dX5_afterBound_24 : decode cX5_afterBound 24 = .ok (.ireturn, 1) := by decide +kernel
theorem dX5_afterAtom_0 : decode cX5_afterAtom 0 = .ok (.iload_n 1, 1) := by decide +kernel
theorem dX5_afterAtom_1 : decode cX5_afterAtom 1 = .ok (.bipush 38, 2) := by decide +kernel
theorem dX5_afterAtom_3 : decode cX5_afterAtom 3 = .ok (.if_icmp .eq 25, 3) := by decide +kernel
theorem dX5_afterAtom_6 : decode cX5_afterAtom 6 = .ok (.iload_n 1, 1) := by decide +kernel
theorem dX5_afterAtom_7 : decode cX5_afterAtom 7 = .ok (.bipush 124, 2) := by decide +kernel
theorem dX5_afterAtom_9 : decode cX5_afterAtom 9 = .ok (.if_icmp .eq 19, 3) := by decide +kernel
theorem dX5_afterAtom_12 : decode cX5_afterAtom 12 = .ok (.iload_n 1, 1) := by decide +kernel
theorem dX5_afterAtom_13 : decode cX5_afterAtom 13 = .ok (.bipush 58, 2) := by decide +kernel
theorem dX5_afterAtom_15 : decode cX5_afterAtom 15 = .ok (.if_icmp .ne 10, 3) := by decide +kernel
theorem dX5_afterAtom_18 : decode cX5_afterAtom 18 = .ok (.aload_n 0, 1) := by decide +kernel
theorem dX5_afterAtom_19 : decode cX5_afterAtom 19 = .ok (.getfield 18, 3) := by decide +kernel
theorem dX5_afterAtom_22 : decode cX5_afterAtom 22 = .ok (.ifCond .ne 6, 3) := by decide +kernel
theorem dX5_afterAtom_25 : decode cX5_afterAtom 25 = .ok (.bipush 11, 2) := by decide +kernel
theorem dX5_afterAtom_27 : decode cX5_afterAtom 27 = .ok (.ireturn, 1) := by decide +kernel
theorem dX5_afterAtom_28 : decode cX5_afterAtom 28 = .ok (.aload_n 0, 1) := by decide +kernel
theorem dX5_afterAtom_29 : decode cX5_afterAtom 29 = .ok (.invokevirtual 55, 3) := by decide +kernel
theorem dX5_afterAtom_32 : decode cX5_afterAtom 32 = .ok (.aload_n 0, 1) := by decide +kernel
theorem dX5_afterAtom_33 : decode cX5_afterAtom 33 = .ok (.iload_n 1, 1) := by decide +kernel
theorem dX5_afterAtom_34 : decode cX5_afterAtom 34 = .ok (.bipush 124, 2) := by decide +kernel
theorem dX5_afterAtom_36 : decode cX5_afterAtom 36 = .ok (.if_icmp .ne 7, 3) := by decide +kernel
theorem dX5_afterAtom_39 : decode cX5_afterAtom 39 = .ok (.iconst 1, 1) := by decide +kernel
theorem dX5_afterAtom_40 : decode cX5_afterAtom 40 = .ok (.goto 4, 3) := by decide +kernel
theorem dX5_afterAtom_43 : decode cX5_afterAtom 43 = .ok (.iconst 0, 1) := by decide +kernel
theorem dX5_afterAtom_44 : decode cX5_afterAtom 44 = .ok (.putfield 22, 3) := by decide +kernel
theorem dX5_afterAtom_47 : decode cX5_afterAtom 47 = .ok (.iload_n 1, 1) := by decide +kernel
theorem dX5_afterAtom_48 : decode cX5_afterAtom 48 = .ok (.bipush 58, 2) := by decide +kernel
theorem dX5_afterAtom_50 : decode cX5_afterAtom 50 = .ok (.if_icmp .ne 8, 3) := by decide +kernel
theorem dX5_afterAtom_53 : decode cX5_afterAtom 53 = .ok (.bipush 6, 2) := by decide +kernel
theorem dX5_afterAtom_55 : decode cX5_afterAtom 55 = .ok (.goto 4, 3) := by decide +kernel
theorem dX5_afterAtom_58 : decode cX5_afterAtom 58 = .ok (.iconst 1, 1) := by decide +kernel
theorem dX5_afterAtom_59 : decode cX5_afterAtom 59 = .ok (.ireturn, 1) := by decide +kernel
theorem dX5_closeAtom_0 : decode cX5_closeAtom 0 = .ok (.aload_n 0, 1) := by decide +kernel
theorem dX5_closeAtom_1 : decode cX5_closeAtom 1 = .ok (.getfield 22, 3) := by decide +kernel
theorem dX5_closeAtom_4 : decode cX5_closeAtom 4 = .ok (.ifCond .eq 13, 3) := by decide +kernel
theorem dX5_closeAtom_7 : decode cX5_closeAtom 7 = .ok (.aload_n 0, 1) := by decide +kernel
theorem dX5_closeAtom_8 : decode cX5_closeAtom 8 = .ok (.getfield 12, 3) := by decide +kernel
theorem dX5_closeAtom_11 : decode cX5_closeAtom 11 = .ok (.getfield 83, 3) := by decide +kernel
theorem dX5_closeAtom_14 : decode cX5_closeAtom 14 = .ok (.invokevirtual 87, 3) := by decide +kernel
theorem dX5_closeAtom_17 : decode cX5_closeAtom 17 = .ok (.aload_n 0, 1) := by decide +kernel
theorem dX5_closeAtom_18 : decode cX5_closeAtom 18 = .ok (.getfield 32, 3) := by decide +kernel
theorem dX5_closeAtom_21 : decode cX5_closeAtom 21 = .ok (.iconst (-1), 1) := by decide +kernel
theorem dX5_closeAtom_22 : decode cX5_closeAtom 22 = .ok (.if_icmp .ne 24, 3) := by decide +kernel
theorem dX5_closeAtom_25 : decode cX5_closeAtom 25 = .ok (.aload_n 0, 1) := by decide +kernel
theorem dX5_closeAtom_26 : decode cX5_closeAtom 26 = .ok (.getfield 12, 3) := by decide +kernel
theorem dX5_closeAtom_29 : decode cX5_closeAtom 29 = .ok (.getfield 83, 3) := by decide +kernel
theorem dX5_closeAtom_32 : decode cX5_closeAtom 32 = .ok (.aload_n 0, 1) := by decide +kernel
theorem dX5_closeAtom_33 : decode cX5_closeAtom 33 = .ok (.getfield 28, 3) := by decide +kernel
theorem dX5_closeAtom_36 : decode cX5_closeAtom 36 = .ok (.aload_n 0, 1) := by decide +kernel
theorem dX5_closeAtom_37 : decode cX5_closeAtom 37 = .ok (.getfield 25, 3) := by decide +kernel
theorem dX5_closeAtom_40 : decode cX5_closeAtom 40 = .ok (.invokevirtual 92, 3) := by decide +kernel
theorem dX5_closeAtom_43 : decode cX5_closeAtom 43 = .ok (.goto 21, 3) := by decide +kernel
theorem dX5_closeAtom_46 : decode cX5_closeAtom 46 = .ok (.aload_n 0, 1) := by decide +kernel
theorem dX5_closeAtom_47 : decode cX5_closeAtom 47 = .ok (.getfield 12, 3) := by decide +kernel
theorem dX5_closeAtom_50 : decode cX5_closeAtom 50 = .ok (.getfield 83, 3) := by decide +kernel
theorem dX5_closeAtom_53 : decode cX5_closeAtom 53 = .ok (.aload_n 0, 1) := by decide +kernel
theorem dX5_closeAtom_54 : decode cX5_closeAtom 54 = .ok (.getfield 32, 3) := by decide +kernel
theorem dX5_closeAtom_57 : decode cX5_closeAtom 57 = .ok (.aload_n 0, 1) := by decide +kernel
theorem dX5_closeAtom_58 : decode cX5_closeAtom 58 = .ok (.getfield 25, 3) := by decide +kernel
theorem dX5_closeAtom_61 : decode cX5_closeAtom 61 = .ok (.invokevirtual 96, 3) := by decide +kernel
theorem dX5_closeAtom_64 : decode cX5_closeAtom 64 = .ok (.return_, 1) := by decide +kernel
theorem dX5_afterEffectBegan_0 : decode cX5_afterEffectBegan 0 = .ok (.iload_n 1, 1) := by decide +kernel
theorem dX5_afterEffectBegan_1 : decode cX5_afterEffectBegan 1 = .ok (.lookupswitch 44 #[(98, 35), (101, 38), (122, 41)], 35) := by decide +kernel
theorem dX5_afterEffectBegan_36 : decode cX5_afterEffectBegan 36 = .ok (.bipush 7, 2) := by decide +kernel
theorem dX5_afterEffectBegan_38 : decode cX5_afterEffectBegan 38 = .ok (.ireturn, 1) := by decide +kernel
theorem dX5_afterEffectBegan_39 : decode cX5_afterEffectBegan 39 = .ok (.bipush 8, 2) := by decide +kernel
theorem dX5_afterEffectBegan_41 : decode cX5_afterEffectBegan 41 = .ok (.ireturn, 1) := by decide +kernel
theorem dX5_afterEffectBegan_42 : decode cX5_afterEffectBegan 42 = .ok (.bipush 9, 2) := by decide +kernel
theorem dX5_afterEffectBegan_44 : decode cX5_afterEffectBegan 44 = .ok (.ireturn, 1) := by decide +kernel
theorem dX5_afterEffectBegan_45 : decode cX5_afterEffectBegan 45 = .ok (.bipush 11, 2) := by decide +kernel
theorem dX5_afterEffectBegan_47 : decode cX5_afterEffectBegan 47 = .ok (.ireturn, 1) := by decide +kernel
theorem dX5_afterKept_0 : decode cX5_afterKept 0 = .ok (.iload_n 1, 1) := by decide +kernel
theorem dX5_afterKept_1 : decode cX5_afterKept 1 = .ok (.bipush 48, 2) := by decide +kernel
theorem dX5_afterKept_3 : decode cX5_afterKept 3 = .ok (.isub, 1) := by decide +kernel
theorem dX5_afterKept_4 : decode cX5_afterKept 4 = .ok (.istore_n 3, 1) := by decide +kernel
theorem dX5_afterKept_5 : decode cX5_afterKept 5 = .ok (.aload_n 0, 1) := by decide +kernel
theorem dX5_afterKept_6 : decode cX5_afterKept 6 = .ok (.iload_n 3, 1) := by decide +kernel
theorem dX5_afterKept_7 : decode cX5_afterKept 7 = .ok (.invokevirtual 65, 3) := by decide +kernel
theorem dX5_afterKept_10 : decode cX5_afterKept 10 = .ok (.iconst 1, 1) := by decide +kernel
theorem dX5_afterKept_11 : decode cX5_afterKept 11 = .ok (.if_icmp .eq 6, 3) := by decide +kernel
theorem dX5_afterKept_14 : decode cX5_afterKept 14 = .ok (.bipush 11, 2) := by decide +kernel
theorem dX5_afterKept_16 : decode cX5_afterKept 16 = .ok (.ireturn, 1) := by decide +kernel
theorem dX5_afterKept_17 : decode cX5_afterKept 17 = .ok (.aload_n 0, 1) := by decide +kernel
theorem dX5_afterKept_18 : decode cX5_afterKept 18 = .ok (.getfield 12, 3) := by decide +kernel
theorem dX5_afterKept_21 : decode cX5_afterKept 21 = .ok (.aload_n 0, 1) := by decide +kernel
theorem dX5_afterKept_22 : decode cX5_afterKept 22 = .ok (.getfield 35, 3) := by decide +kernel
theorem dX5_afterKept_25 : decode cX5_afterKept 25 = .ok (.getfield 99, 3) := by decide +kernel
theorem dX5_afterKept_28 : decode cX5_afterKept 28 = .ok (.iload_n 3, 1) := by decide +kernel
theorem dX5_afterKept_29 : decode cX5_afterKept 29 = .ok (.iaload, 1) := by decide +kernel
theorem dX5_afterKept_30 : decode cX5_afterKept 30 = .ok (.iload_n 2, 1) := by decide +kernel
theorem dX5_afterKept_31 : decode cX5_afterKept 31 = .ok (.invokevirtual 105, 3) := by decide +kernel
theorem dX5_afterKept_34 : decode cX5_afterKept 34 = .ok (.bipush 10, 2) := by decide +kernel
theorem dX5_afterKept_36 : decode cX5_afterKept 36 = .ok (.ireturn, 1) := by decide +kernel
theorem dX5_afterStilled_0 : decode cX5_afterStilled 0 = .ok (.aload_n 0, 1) := by decide +kernel
theorem dX5_afterStilled_1 : decode cX5_afterStilled 1 = .ok (.iload_n 1, 1) := by decide +kernel
theorem dX5_afterStilled_2 : decode cX5_afterStilled 2 = .ok (.bipush 48, 2) := by decide +kernel
theorem dX5_afterStilled_4 : decode cX5_afterStilled 4 = .ok (.isub, 1) := by decide +kernel
theorem dX5_afterStilled_5 : decode cX5_afterStilled 5 = .ok (.invokevirtual 65, 3) := by decide +kernel
theorem dX5_afterStilled_8 : decode cX5_afterStilled 8 = .ok (.iconst 3, 1) := by decide +kernel
theorem dX5_afterStilled_9 : decode cX5_afterStilled 9 = .ok (.if_icmp .eq 6, 3) := by decide +kernel
theorem dX5_afterStilled_12 : decode cX5_afterStilled 12 = .ok (.bipush 11, 2) := by decide +kernel
theorem dX5_afterStilled_14 : decode cX5_afterStilled 14 = .ok (.ireturn, 1) := by decide +kernel
theorem dX5_afterStilled_15 : decode cX5_afterStilled 15 = .ok (.aload_n 0, 1) := by decide +kernel
theorem dX5_afterStilled_16 : decode cX5_afterStilled 16 = .ok (.getfield 12, 3) := by decide +kernel
theorem dX5_afterStilled_19 : decode cX5_afterStilled 19 = .ok (.iconst 1, 1) := by decide +kernel
theorem dX5_afterStilled_20 : decode cX5_afterStilled 20 = .ok (.putfield 108, 3) := by decide +kernel
theorem dX5_afterStilled_23 : decode cX5_afterStilled 23 = .ok (.bipush 10, 2) := by decide +kernel
theorem dX5_afterStilled_25 : decode cX5_afterStilled 25 = .ok (.ireturn, 1) := by decide +kernel
theorem dX5_kindOf_0 : decode cX5_kindOf 0 = .ok (.iload_n 1, 1) := by decide +kernel
theorem dX5_kindOf_1 : decode cX5_kindOf 1 = .ok (.ifCond .lt 26, 3) := by decide +kernel
theorem dX5_kindOf_4 : decode cX5_kindOf 4 = .ok (.iload_n 1, 1) := by decide +kernel
theorem dX5_kindOf_5 : decode cX5_kindOf 5 = .ok (.aload_n 0, 1) := by decide +kernel
theorem dX5_kindOf_6 : decode cX5_kindOf 6 = .ok (.getfield 35, 3) := by decide +kernel
theorem dX5_kindOf_9 : decode cX5_kindOf 9 = .ok (.getfield 111, 3) := by decide +kernel
theorem dX5_kindOf_12 : decode cX5_kindOf 12 = .ok (.if_icmp .ge 15, 3) := by decide +kernel
theorem dX5_kindOf_15 : decode cX5_kindOf 15 = .ok (.aload_n 0, 1) := by decide +kernel
theorem dX5_kindOf_16 : decode cX5_kindOf 16 = .ok (.getfield 35, 3) := by decide +kernel
theorem dX5_kindOf_19 : decode cX5_kindOf 19 = .ok (.getfield 114, 3) := by decide +kernel
theorem dX5_kindOf_22 : decode cX5_kindOf 22 = .ok (.iload_n 1, 1) := by decide +kernel
theorem dX5_kindOf_23 : decode cX5_kindOf 23 = .ok (.iaload, 1) := by decide +kernel
theorem dX5_kindOf_24 : decode cX5_kindOf 24 = .ok (.goto 4, 3) := by decide +kernel
theorem dX5_kindOf_27 : decode cX5_kindOf 27 = .ok (.iconst (-1), 1) := by decide +kernel
theorem dX5_kindOf_28 : decode cX5_kindOf 28 = .ok (.ireturn, 1) := by decide +kernel
theorem dX6_init_0 : decode cX6_init 0 = .ok (.aload_n 0, 1) := by decide +kernel
theorem dX6_init_1 : decode cX6_init 1 = .ok (.iload_n 1, 1) := by decide +kernel
theorem dX6_init_2 : decode cX6_init 2 = .ok (.iconst 0, 1) := by decide +kernel
theorem dX6_init_3 : decode cX6_init 3 = .ok (.iload_n 2, 1) := by decide +kernel
theorem dX6_init_4 : decode cX6_init 4 = .ok (.iload_n 3, 1) := by decide +kernel
theorem dX6_init_5 : decode cX6_init 5 = .ok (.iload_n 3, 1) := by decide +kernel
theorem dX6_init_6 : decode cX6_init 6 = .ok (.iconst 0, 1) := by decide +kernel
theorem dX6_init_7 : decode cX6_init 7 = .ok (.iload 4, 2) := by decide +kernel
theorem dX6_init_9 : decode cX6_init 9 = .ok (.invokespecial 3, 3) := by decide +kernel
theorem dX6_init_12 : decode cX6_init 12 = .ok (.return_, 1) := by decide +kernel
theorem dX6_init__0 : decode cX6_init_ 0 = .ok (.aload_n 0, 1) := by decide +kernel
theorem dX6_init__1 : decode cX6_init_ 1 = .ok (.invokespecial 9, 3) := by decide +kernel
theorem dX6_init__4 : decode cX6_init_ 4 = .ok (.aload_n 0, 1) := by decide +kernel
theorem dX6_init__5 : decode cX6_init_ 5 = .ok (.iload_n 1, 1) := by decide +kernel
theorem dX6_init__6 : decode cX6_init_ 6 = .ok (.putfield 14, 3) := by decide +kernel
theorem dX6_init__9 : decode cX6_init_ 9 = .ok (.aload_n 0, 1) := by decide +kernel
theorem dX6_init__10 : decode cX6_init_ 10 = .ok (.iload_n 2, 1) := by decide +kernel
theorem dX6_init__11 : decode cX6_init_ 11 = .ok (.putfield 18, 3) := by decide +kernel
theorem dX6_init__14 : decode cX6_init_ 14 = .ok (.aload_n 0, 1) := by decide +kernel
theorem dX6_init__15 : decode cX6_init_ 15 = .ok (.iload_n 3, 1) := by decide +kernel
theorem dX6_init__16 : decode cX6_init_ 16 = .ok (.putfield 21, 3) := by decide +kernel
theorem dX6_init__19 : decode cX6_init_ 19 = .ok (.aload_n 0, 1) := by decide +kernel
theorem dX6_init__20 : decode cX6_init_ 20 = .ok (.iload 4, 2) := by decide +kernel
theorem dX6_init__22 : decode cX6_init_ 22 = .ok (.putfield 24, 3) := by decide +kernel
theorem dX6_init__25 : decode cX6_init_ 25 = .ok (.aload_n 0, 1) := by decide +kernel
theorem dX6_init__26 : decode cX6_init_ 26 = .ok (.iload 5, 2) := by decide +kernel
theorem dX6_init__28 : decode cX6_init_ 28 = .ok (.putfield 27, 3) := by decide +kernel
theorem dX6_init__31 : decode cX6_init_ 31 = .ok (.aload_n 0, 1) := by decide +kernel
theorem dX6_init__32 : decode cX6_init_ 32 = .ok (.iload 6, 2) := by decide +kernel
theorem dX6_init__34 : decode cX6_init_ 34 = .ok (.putfield 30, 3) := by decide +kernel
theorem dX6_init__37 : decode cX6_init_ 37 = .ok (.aload_n 0, 1) := by decide +kernel
theorem dX6_init__38 : decode cX6_init_ 38 = .ok (.iload 7, 2) := by decide +kernel
theorem dX6_init__40 : decode cX6_init_ 40 = .ok (.putfield 33, 3) := by decide +kernel
theorem dX6_init__43 : decode cX6_init_ 43 = .ok (.return_, 1) := by decide +kernel
theorem dX6_begin_0 : decode cX6_begin 0 = .ok (.aload_n 1, 1) := by decide +kernel
theorem dX6_begin_1 : decode cX6_begin 1 = .ok (.iconst 0, 1) := by decide +kernel
theorem dX6_begin_2 : decode cX6_begin 2 = .ok (.iaload, 1) := by decide +kernel
theorem dX6_begin_3 : decode cX6_begin 3 = .ok (.iconst 1, 1) := by decide +kernel
theorem dX6_begin_4 : decode cX6_begin 4 = .ok (.iadd, 1) := by decide +kernel
theorem dX6_begin_5 : decode cX6_begin 5 = .ok (.istore_n 2, 1) := by decide +kernel
theorem dX6_begin_6 : decode cX6_begin 6 = .ok (.iload_n 2, 1) := by decide +kernel
theorem dX6_begin_7 : decode cX6_begin 7 = .ok (.ifCond .le 13, 3) := by decide +kernel
theorem dX6_begin_10 : decode cX6_begin 10 = .ok (.iload_n 2, 1) := by decide +kernel
theorem dX6_begin_11 : decode cX6_begin 11 = .ok (.aload_n 1, 1) := by decide +kernel
theorem dX6_begin_12 : decode cX6_begin 12 = .ok (.arraylength, 1) := by decide +kernel
theorem dX6_begin_13 : decode cX6_begin 13 = .ok (.if_icmp .ge 7, 3) := by decide +kernel
theorem dX6_begin_16 : decode cX6_begin 16 = .ok (.aload_n 1, 1) := by decide +kernel
theorem dX6_begin_17 : decode cX6_begin 17 = .ok (.iload_n 2, 1) := by decide +kernel
theorem dX6_begin_18 : decode cX6_begin 18 = .ok (.iload_n 0, 1) := by decide +kernel
theorem dX6_begin_19 : decode cX6_begin 19 = .ok (.iastore, 1) := by decide +kernel
theorem dX6_begin_20 : decode cX6_begin 20 = .ok (.aload_n 1, 1) := by decide +kernel
theorem dX6_begin_21 : decode cX6_begin 21 = .ok (.iconst 0, 1) := by decide +kernel
theorem dX6_begin_22 : decode cX6_begin 22 = .ok (.iload_n 2, 1) := by decide +kernel
theorem dX6_begin_23 : decode cX6_begin 23 = .ok (.iastore, 1) := by decide +kernel
theorem dX6_begin_24 : decode cX6_begin 24 = .ok (.return_, 1) := by decide +kernel
theorem dX6_tells_0 : decode cX6_tells 0 = .ok (.bipush 10, 2) := by decide +kernel
theorem dX6_tells_2 : decode cX6_tells 2 = .ok (.aload_n 2, 1) := by decide +kernel
theorem dX6_tells_3 : decode cX6_tells 3 = .ok (.invokestatic 36, 3) := by decide +kernel
theorem dX6_tells_6 : decode cX6_tells 6 = .ok (.iload_n 1, 1) := by decide +kernel
theorem dX6_tells_7 : decode cX6_tells 7 = .ok (.aload_n 0, 1) := by decide +kernel
theorem dX6_tells_8 : decode cX6_tells 8 = .ok (.getfield 24, 3) := by decide +kernel
theorem dX6_tells_11 : decode cX6_tells 11 = .ok (.iadd, 1) := by decide +kernel
theorem dX6_tells_12 : decode cX6_tells 12 = .ok (.ireturn, 1) := by decide +kernel
theorem dX6_binds_0 : decode cX6_binds 0 = .ok (.bipush 11, 2) := by decide +kernel
theorem dX6_binds_2 : decode cX6_binds 2 = .ok (.aload_n 2, 1) := by decide +kernel
theorem dX6_binds_3 : decode cX6_binds 3 = .ok (.invokestatic 36, 3) := by decide +kernel
theorem dX6_binds_6 : decode cX6_binds 6 = .ok (.aload_n 0, 1) := by decide +kernel
theorem dX6_binds_7 : decode cX6_binds 7 = .ok (.iload_n 1, 1) := by decide +kernel
theorem dX6_binds_8 : decode cX6_binds 8 = .ok (.aload_n 2, 1) := by decide +kernel
theorem dX6_binds_9 : decode cX6_binds 9 = .ok (.invokevirtual 40, 3) := by decide +kernel
theorem dX6_binds_12 : decode cX6_binds 12 = .ok (.iconst 2, 1) := by decide +kernel
theorem dX6_binds_13 : decode cX6_binds 13 = .ok (.imul, 1) := by decide +kernel
theorem dX6_binds_14 : decode cX6_binds 14 = .ok (.ireturn, 1) := by decide +kernel
theorem dX6_weighs_0 : decode cX6_weighs 0 = .ok (.bipush 12, 2) := by decide +kernel
theorem dX6_weighs_2 : decode cX6_weighs 2 = .ok (.aload_n 2, 1) := by decide +kernel
theorem dX6_weighs_3 : decode cX6_weighs 3 = .ok (.invokestatic 36, 3) := by decide +kernel
theorem dX6_weighs_6 : decode cX6_weighs 6 = .ok (.aload_n 0, 1) := by decide +kernel
theorem dX6_weighs_7 : decode cX6_weighs 7 = .ok (.iload_n 1, 1) := by decide +kernel
theorem dX6_weighs_8 : decode cX6_weighs 8 = .ok (.aload_n 2, 1) := by decide +kernel
theorem dX6_weighs_9 : decode cX6_weighs 9 = .ok (.invokevirtual 44, 3) := by decide +kernel
theorem dX6_weighs_12 : decode cX6_weighs 12 = .ok (.istore_n 3, 1) := by decide +kernel
theorem dX6_weighs_13 : decode cX6_weighs 13 = .ok (.iload_n 3, 1) := by decide +kernel
theorem dX6_weighs_14 : decode cX6_weighs 14 = .ok (.aload_n 0, 1) := by decide +kernel
theorem dX6_weighs_15 : decode cX6_weighs 15 = .ok (.iload_n 1, 1) := by decide +kernel
theorem dX6_weighs_16 : decode cX6_weighs 16 = .ok (.aload_n 0, 1) := by decide +kernel
theorem dX6_weighs_17 : decode cX6_weighs 17 = .ok (.getfield 14, 3) := by decide +kernel
theorem dX6_weighs_20 : decode cX6_weighs 20 = .ok (.isub, 1) := by decide +kernel
theorem dX6_weighs_21 : decode cX6_weighs 21 = .ok (.aload_n 2, 1) := by decide +kernel
theorem dX6_weighs_22 : decode cX6_weighs 22 = .ok (.invokevirtual 40, 3) := by decide +kernel
theorem dX6_weighs_25 : decode cX6_weighs 25 = .ok (.ixor, 1) := by decide +kernel
theorem dX6_weighs_26 : decode cX6_weighs 26 = .ok (.ireturn, 1) := by decide +kernel
theorem dX7_init_0 : decode cX7_init 0 = .ok (.aload_n 0, 1) := by decide +kernel
theorem dX7_init_1 : decode cX7_init 1 = .ok (.invokespecial 3, 3) := by decide +kernel
theorem dX7_init_4 : decode cX7_init 4 = .ok (.aload_n 0, 1) := by decide +kernel
theorem dX7_init_5 : decode cX7_init 5 = .ok (.iconst (-1), 1) := by decide +kernel
theorem dX7_init_6 : decode cX7_init 6 = .ok (.putfield 9, 3) := by decide +kernel
theorem dX7_init_9 : decode cX7_init 9 = .ok (.aload_n 0, 1) := by decide +kernel
theorem dX7_init_10 : decode cX7_init 10 = .ok (.iconst 0, 1) := by decide +kernel
theorem dX7_init_11 : decode cX7_init 11 = .ok (.putfield 15, 3) := by decide +kernel
theorem dX7_init_14 : decode cX7_init 14 = .ok (.aload_n 0, 1) := by decide +kernel
theorem dX7_init_15 : decode cX7_init 15 = .ok (.bipush 60, 2) := by decide +kernel
theorem dX7_init_17 : decode cX7_init 17 = .ok (.newarray .long, 2) := by decide +kernel
theorem dX7_init_19 : decode cX7_init 19 = .ok (.putfield 18, 3) := by decide +kernel
theorem dX7_init_22 : decode cX7_init 22 = .ok (.return_, 1) := by decide +kernel
theorem dX7_holdsRow_0 : decode cX7_holdsRow 0 = .ok (.aload_n 0, 1) := by decide +kernel
theorem dX7_holdsRow_1 : decode cX7_holdsRow 1 = .ok (.getfield 9, 3) := by decide +kernel
theorem dX7_holdsRow_4 : decode cX7_holdsRow 4 = .ok (.bipush 100, 2) := by decide +kernel
theorem dX7_holdsRow_6 : decode cX7_holdsRow 6 = .ok (.if_icmp .lt 7, 3) := by decide +kernel
theorem dX7_holdsRow_9 : decode cX7_holdsRow 9 = .ok (.iconst 1, 1) := by decide +kernel
theorem dX7_holdsRow_10 : decode cX7_holdsRow 10 = .ok (.goto 4, 3) := by decide +kernel
theorem dX7_holdsRow_13 : decode cX7_holdsRow 13 = .ok (.iconst 0, 1) := by decide +kernel
theorem dX7_holdsRow_14 : decode cX7_holdsRow 14 = .ok (.ireturn, 1) := by decide +kernel
theorem dX7_holdsPiece_0 : decode cX7_holdsPiece 0 = .ok (.aload_n 0, 1) := by decide +kernel
theorem dX7_holdsPiece_1 : decode cX7_holdsPiece 1 = .ok (.getfield 9, 3) := by decide +kernel
theorem dX7_holdsPiece_4 : decode cX7_holdsPiece 4 = .ok (.iconst (-1), 1) := by decide +kernel
theorem dX7_holdsPiece_5 : decode cX7_holdsPiece 5 = .ok (.if_icmp .eq 16, 3) := by decide +kernel
theorem dX7_holdsPiece_8 : decode cX7_holdsPiece 8 = .ok (.aload_n 0, 1) := by decide +kernel
theorem dX7_holdsPiece_9 : decode cX7_holdsPiece 9 = .ok (.getfield 9, 3) := by decide +kernel
theorem dX7_holdsPiece_12 : decode cX7_holdsPiece 12 = .ok (.bipush 100, 2) := by decide +kernel
theorem dX7_holdsPiece_14 : decode cX7_holdsPiece 14 = .ok (.if_icmp .ge 7, 3) := by decide +kernel
theorem dX7_holdsPiece_17 : decode cX7_holdsPiece 17 = .ok (.iconst 1, 1) := by decide +kernel
theorem dX7_holdsPiece_18 : decode cX7_holdsPiece 18 = .ok (.goto 4, 3) := by decide +kernel
theorem dX7_holdsPiece_21 : decode cX7_holdsPiece 21 = .ok (.iconst 0, 1) := by decide +kernel
theorem dX7_holdsPiece_22 : decode cX7_holdsPiece 22 = .ok (.ireturn, 1) := by decide +kernel
theorem dX7_takeRow_0 : decode cX7_takeRow 0 = .ok (.aload_n 0, 1) := by decide +kernel
theorem dX7_takeRow_1 : decode cX7_takeRow 1 = .ok (.bipush 100, 2) := by decide +kernel
theorem dX7_takeRow_3 : decode cX7_takeRow 3 = .ok (.iload_n 1, 1) := by decide +kernel
theorem dX7_takeRow_4 : decode cX7_takeRow 4 = .ok (.iadd, 1) := by decide +kernel
theorem dX7_takeRow_5 : decode cX7_takeRow 5 = .ok (.putfield 9, 3) := by decide +kernel
theorem dX7_takeRow_8 : decode cX7_takeRow 8 = .ok (.aload_n 0, 1) := by decide +kernel
theorem dX7_takeRow_9 : decode cX7_takeRow 9 = .ok (.iload_n 2, 1) := by decide +kernel
theorem dX7_takeRow_10 : decode cX7_takeRow 10 = .ok (.putfield 15, 3) := by decide +kernel
theorem dX7_takeRow_13 : decode cX7_takeRow 13 = .ok (.aload_n 0, 1) := by decide +kernel
theorem dX7_takeRow_14 : decode cX7_takeRow 14 = .ok (.getfield 18, 3) := by decide +kernel
theorem dX7_takeRow_17 : decode cX7_takeRow 17 = .ok (.lconst 0, 1) := by decide +kernel
theorem dX7_takeRow_18 : decode cX7_takeRow 18 = .ok (.invokestatic 22, 3) := by decide +kernel
theorem dX7_takeRow_21 : decode cX7_takeRow 21 = .ok (.return_, 1) := by decide +kernel
theorem dX7_takePiece_0 : decode cX7_takePiece 0 = .ok (.aload_n 0, 1) := by decide +kernel
theorem dX7_takePiece_1 : decode cX7_takePiece 1 = .ok (.iload_n 1, 1) := by decide +kernel
theorem dX7_takePiece_2 : decode cX7_takePiece 2 = .ok (.putfield 9, 3) := by decide +kernel
theorem dX7_takePiece_5 : decode cX7_takePiece 5 = .ok (.aload_n 0, 1) := by decide +kernel
theorem dX7_takePiece_6 : decode cX7_takePiece 6 = .ok (.iconst 0, 1) := by decide +kernel
theorem dX7_takePiece_7 : decode cX7_takePiece 7 = .ok (.putfield 15, 3) := by decide +kernel
theorem dX7_takePiece_10 : decode cX7_takePiece 10 = .ok (.return_, 1) := by decide +kernel
theorem dX7_has_0 : decode cX7_has 0 = .ok (.iload_n 1, 1) := by decide +kernel
theorem dX7_has_1 : decode cX7_has 1 = .ok (.ifCond .lt 15, 3) := by decide +kernel
theorem dX7_has_4 : decode cX7_has 4 = .ok (.iload_n 1, 1) := by decide +kernel
theorem dX7_has_5 : decode cX7_has 5 = .ok (.aload_n 0, 1) := by decide +kernel
theorem dX7_has_6 : decode cX7_has 6 = .ok (.getfield 15, 3) := by decide +kernel
theorem dX7_has_9 : decode cX7_has 9 = .ok (.if_icmp .ge 7, 3) := by decide +kernel
theorem dX7_has_12 : decode cX7_has 12 = .ok (.iconst 1, 1) := by decide +kernel
theorem dX7_has_13 : decode cX7_has 13 = .ok (.goto 4, 3) := by decide +kernel
theorem dX7_has_16 : decode cX7_has 16 = .ok (.iconst 0, 1) := by decide +kernel
theorem dX7_has_17 : decode cX7_has 17 = .ok (.ireturn, 1) := by decide +kernel
theorem dX7_reaches_0 : decode cX7_reaches 0 = .ok (.iload_n 1, 1) := by decide +kernel
theorem dX7_reaches_1 : decode cX7_reaches 1 = .ok (.ifCond .lt 21, 3) := by decide +kernel
theorem dX7_reaches_4 : decode cX7_reaches 4 = .ok (.iload_n 1, 1) := by decide +kernel
theorem dX7_reaches_5 : decode cX7_reaches 5 = .ok (.i2l, 1) := by decide +kernel
theorem dX7_reaches_6 : decode cX7_reaches 6 = .ok (.iload_n 2, 1) := by decide +kernel
theorem dX7_reaches_7 : decode cX7_reaches 7 = .ok (.i2l, 1) := by decide +kernel
theorem dX7_reaches_8 : decode cX7_reaches 8 = .ok (.ladd, 1) := by decide +kernel
theorem dX7_reaches_9 : decode cX7_reaches 9 = .ok (.aload_n 0, 1) := by decide +kernel
theorem dX7_reaches_10 : decode cX7_reaches 10 = .ok (.getfield 15, 3) := by decide +kernel
theorem dX7_reaches_13 : decode cX7_reaches 13 = .ok (.i2l, 1) := by decide +kernel
theorem dX7_reaches_14 : decode cX7_reaches 14 = .ok (.lcmp, 1) := by decide +kernel
theorem dX7_reaches_15 : decode cX7_reaches 15 = .ok (.ifCond .gt 7, 3) := by decide +kernel
theorem dX7_reaches_18 : decode cX7_reaches 18 = .ok (.iconst 1, 1) := by decide +kernel
theorem dX7_reaches_19 : decode cX7_reaches 19 = .ok (.goto 4, 3) := by decide +kernel
theorem dX7_reaches_22 : decode cX7_reaches 22 = .ok (.iconst 0, 1) := by decide +kernel
theorem dX7_reaches_23 : decode cX7_reaches 23 = .ok (.ireturn, 1) := by decide +kernel
theorem dX7_put_0 : decode cX7_put 0 = .ok (.aload_n 0, 1) := by decide +kernel
theorem dX7_put_1 : decode cX7_put 1 = .ok (.iload_n 1, 1) := by decide +kernel
theorem dX7_put_2 : decode cX7_put 2 = .ok (.invokevirtual 28, 3) := by decide +kernel
theorem dX7_put_5 : decode cX7_put 5 = .ok (.ifCond .eq 14, 3) := by decide +kernel
theorem dX7_put_8 : decode cX7_put 8 = .ok (.aload_n 0, 1) := by decide +kernel
theorem dX7_put_9 : decode cX7_put 9 = .ok (.getfield 18, 3) := by decide +kernel
theorem dX7_put_12 : decode cX7_put 12 = .ok (.iload_n 1, 1) := by decide +kernel
theorem dX7_put_13 : decode cX7_put 13 = .ok (.aload_n 0, 1) := by decide +kernel
theorem dX7_put_14 : decode cX7_put 14 = .ok (.lload_n 2, 1) := by decide +kernel
theorem dX7_put_15 : decode cX7_put 15 = .ok (.invokevirtual 32, 3) := by decide +kernel
theorem dX7_put_18 : decode cX7_put 18 = .ok (.lastore, 1) := by decide +kernel
theorem dX7_put_19 : decode cX7_put 19 = .ok (.return_, 1) := by decide +kernel
theorem dX7_cellAt_0 : decode cX7_cellAt 0 = .ok (.aload_n 0, 1) := by decide +kernel
theorem dX7_cellAt_1 : decode cX7_cellAt 1 = .ok (.iload_n 1, 1) := by decide +kernel
theorem dX7_cellAt_2 : decode cX7_cellAt 2 = .ok (.invokevirtual 28, 3) := by decide +kernel
theorem dX7_cellAt_5 : decode cX7_cellAt 5 = .ok (.ifCond .eq 12, 3) := by decide +kernel
theorem dX7_cellAt_8 : decode cX7_cellAt 8 = .ok (.aload_n 0, 1) := by decide +kernel
theorem dX7_cellAt_9 : decode cX7_cellAt 9 = .ok (.getfield 18, 3) := by decide +kernel
theorem dX7_cellAt_12 : decode cX7_cellAt 12 = .ok (.iload_n 1, 1) := by decide +kernel
theorem dX7_cellAt_13 : decode cX7_cellAt 13 = .ok (.laload, 1) := by decide +kernel
theorem dX7_cellAt_14 : decode cX7_cellAt 14 = .ok (.goto 4, 3) := by decide +kernel
theorem dX7_cellAt_17 : decode cX7_cellAt 17 = .ok (.lconst 0, 1) := by decide +kernel
theorem dX7_cellAt_18 : decode cX7_cellAt 18 = .ok (.lreturn, 1) := by decide +kernel
theorem dX7_intAt_0 : decode cX7_intAt 0 = .ok (.aload_n 0, 1) := by decide +kernel
theorem dX7_intAt_1 : decode cX7_intAt 1 = .ok (.iload_n 1, 1) := by decide +kernel
theorem dX7_intAt_2 : decode cX7_intAt 2 = .ok (.invokevirtual 36, 3) := by decide +kernel
theorem dX7_intAt_5 : decode cX7_intAt 5 = .ok (.l2i, 1) := by decide +kernel
theorem dX7_intAt_6 : decode cX7_intAt 6 = .ok (.ireturn, 1) := by decide +kernel
theorem dX7_narrowed_0 : decode cX7_narrowed 0 = .ok (.aload_n 0, 1) := by decide +kernel
theorem dX7_narrowed_1 : decode cX7_narrowed 1 = .ok (.getfield 9, 3) := by decide +kernel
theorem dX7_narrowed_4 : decode cX7_narrowed 4 = .ok (.bipush 100, 2) := by decide +kernel
theorem dX7_narrowed_6 : decode cX7_narrowed 6 = .ok (.isub, 1) := by decide +kernel
theorem dX7_narrowed_7 : decode cX7_narrowed 7 = .ok (.tableswitch 39 0 2 #[25, 30, 35], 25) := by decide +kernel
theorem dX7_narrowed_32 : decode cX7_narrowed 32 = .ok (.lload_n 1, 1) := by decide +kernel
theorem dX7_narrowed_33 : decode cX7_narrowed 33 = .ok (.l2i, 1) := by decide +kernel
theorem dX7_narrowed_34 : decode cX7_narrowed 34 = .ok (.i2b, 1) := by decide +kernel
theorem dX7_narrowed_35 : decode cX7_narrowed 35 = .ok (.i2l, 1) := by decide +kernel
theorem dX7_narrowed_36 : decode cX7_narrowed 36 = .ok (.lreturn, 1) := by decide +kernel
theorem dX7_narrowed_37 : decode cX7_narrowed 37 = .ok (.lload_n 1, 1) := by decide +kernel
theorem dX7_narrowed_38 : decode cX7_narrowed 38 = .ok (.l2i, 1) := by decide +kernel
theorem dX7_narrowed_39 : decode cX7_narrowed 39 = .ok (.i2s, 1) := by decide +kernel
theorem dX7_narrowed_40 : decode cX7_narrowed 40 = .ok (.i2l, 1) := by decide +kernel
theorem dX7_narrowed_41 : decode cX7_narrowed 41 = .ok (.lreturn, 1) := by decide +kernel
theorem dX7_narrowed_42 : decode cX7_narrowed 42 = .ok (.lload_n 1, 1) := by decide +kernel
theorem dX7_narrowed_43 : decode cX7_narrowed 43 = .ok (.l2i, 1) := by decide +kernel
theorem dX7_narrowed_44 : decode cX7_narrowed 44 = .ok (.i2l, 1) := by decide +kernel
theorem dX7_narrowed_45 : decode cX7_narrowed 45 = .ok (.lreturn, 1) := by decide +kernel
theorem dX7_narrowed_46 : decode cX7_narrowed 46 = .ok (.lload_n 1, 1) := by decide +kernel
theorem dX7_narrowed_47 : decode cX7_narrowed 47 = .ok (.lreturn, 1) := by decide +kernel
