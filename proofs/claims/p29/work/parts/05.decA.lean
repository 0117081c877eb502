theorem dX0_init_0 : decode cX0_init 0 = .ok (.aload_n 0, 1) := by decide +kernel
theorem dX0_init_1 : decode cX0_init 1 = .ok (.invokespecial 3, 3) := by decide +kernel
theorem dX0_init_4 : decode cX0_init 4 = .ok (.aload_n 0, 1) := by decide +kernel
theorem dX0_init_5 : decode cX0_init 5 = .ok (.iconst 2, 1) := by decide +kernel
theorem dX0_init_6 : decode cX0_init 6 = .ok (.newarray .int, 2) := by decide +kernel
theorem dX0_init_8 : decode cX0_init 8 = .ok (.putfield 9, 3) := by decide +kernel
theorem dX0_init_11 : decode cX0_init 11 = .ok (.aload_n 0, 1) := by decide +kernel
theorem dX0_init_12 : decode cX0_init 12 = .ok (.iconst 4, 1) := by decide +kernel
theorem dX0_init_13 : decode cX0_init 13 = .ok (.newarray .int, 2) := by decide +kernel
theorem dX0_init_15 : decode cX0_init 15 = .ok (.putfield 15, 3) := by decide +kernel
theorem dX0_init_18 : decode cX0_init 18 = .ok (.aload_n 0, 1) := by decide +kernel
theorem dX0_init_19 : decode cX0_init 19 = .ok (.iconst 4, 1) := by decide +kernel
theorem dX0_init_20 : decode cX0_init 20 = .ok (.newarray .int, 2) := by decide +kernel
theorem dX0_init_22 : decode cX0_init 22 = .ok (.putfield 18, 3) := by decide +kernel
theorem dX0_init_25 : decode cX0_init 25 = .ok (.aload_n 0, 1) := by decide +kernel
theorem dX0_init_26 : decode cX0_init 26 = .ok (.iconst 4, 1) := by decide +kernel
theorem dX0_init_27 : decode cX0_init 27 = .ok (.newarray .int, 2) := by decide +kernel
theorem dX0_init_29 : decode cX0_init 29 = .ok (.putfield 21, 3) := by decide +kernel
theorem dX0_init_32 : decode cX0_init 32 = .ok (.aload_n 0, 1) := by decide +kernel
theorem dX0_init_33 : decode cX0_init 33 = .ok (.iconst 5, 1) := by decide +kernel
theorem dX0_init_34 : decode cX0_init 34 = .ok (.newarray .int, 2) := by decide +kernel
theorem dX0_init_36 : decode cX0_init 36 = .ok (.putfield 24, 3) := by decide +kernel
theorem dX0_init_39 : decode cX0_init 39 = .ok (.aload_n 0, 1) := by decide +kernel
theorem dX0_init_40 : decode cX0_init 40 = .ok (.iconst 2, 1) := by decide +kernel
theorem dX0_init_41 : decode cX0_init 41 = .ok (.iconst 5, 1) := by decide +kernel
theorem dX0_init_42 : decode cX0_init 42 = .ok (.multianewarray 27 2, 4) := by decide +kernel
theorem dX0_init_46 : decode cX0_init 46 = .ok (.putfield 29, 3) := by decide +kernel
theorem dX0_init_49 : decode cX0_init 49 = .ok (.aload_n 0, 1) := by decide +kernel
theorem dX0_init_50 : decode cX0_init 50 = .ok (.iconst 2, 1) := by decide +kernel
theorem dX0_init_51 : decode cX0_init 51 = .ok (.iconst 5, 1) := by decide +kernel
theorem dX0_init_52 : decode cX0_init 52 = .ok (.multianewarray 27 2, 4) := by decide +kernel
theorem dX0_init_56 : decode cX0_init 56 = .ok (.putfield 32, 3) := by decide +kernel
theorem dX0_init_59 : decode cX0_init 59 = .ok (.iconst 0, 1) := by decide +kernel
theorem dX0_init_60 : decode cX0_init 60 = .ok (.istore_n 1, 1) := by decide +kernel
theorem dX0_init_61 : decode cX0_init 61 = .ok (.iload_n 1, 1) := by decide +kernel
theorem dX0_init_62 : decode cX0_init 62 = .ok (.iconst 2, 1) := by decide +kernel
theorem dX0_init_63 : decode cX0_init 63 = .ok (.if_icmp .ge 32, 3) := by decide +kernel
theorem dX0_init_66 : decode cX0_init 66 = .ok (.iconst 0, 1) := by decide +kernel
theorem dX0_init_67 : decode cX0_init 67 = .ok (.istore_n 2, 1) := by decide +kernel
theorem dX0_init_68 : decode cX0_init 68 = .ok (.iload_n 2, 1) := by decide +kernel
theorem dX0_init_69 : decode cX0_init 69 = .ok (.iconst 5, 1) := by decide +kernel
theorem dX0_init_70 : decode cX0_init 70 = .ok (.if_icmp .ge 19, 3) := by decide +kernel
theorem dX0_init_73 : decode cX0_init 73 = .ok (.aload_n 0, 1) := by decide +kernel
theorem dX0_init_74 : decode cX0_init 74 = .ok (.getfield 29, 3) := by decide +kernel
theorem dX0_init_77 : decode cX0_init 77 = .ok (.iload_n 1, 1) := by decide +kernel
theorem dX0_init_78 : decode cX0_init 78 = .ok (.aaload, 1) := by decide +kernel
theorem dX0_init_79 : decode cX0_init 79 = .ok (.iload_n 2, 1) := by decide +kernel
theorem dX0_init_80 : decode cX0_init 80 = .ok (.bipush (-9), 2) := by decide +kernel
theorem dX0_init_82 : decode cX0_init 82 = .ok (.iastore, 1) := by decide +kernel
theorem dX0_init_83 : decode cX0_init 83 = .ok (.iinc 2 1, 3) := by decide +kernel
theorem dX0_init_86 : decode cX0_init 86 = .ok (.goto (-18), 3) := by decide +kernel
theorem dX0_init_89 : decode cX0_init 89 = .ok (.iinc 1 1, 3) := by decide +kernel
theorem dX0_init_92 : decode cX0_init 92 = .ok (.goto (-31), 3) := by decide +kernel
theorem dX0_init_95 : decode cX0_init 95 = .ok (.return_, 1) := by decide +kernel
theorem dX0_read_0 : decode cX0_read 0 = .ok (.aload_n 0, 1) := by decide +kernel
theorem dX0_read_1 : decode cX0_read 1 = .ok (.aload_n 1, 1) := by decide +kernel
theorem dX0_read_2 : decode cX0_read 2 = .ok (.invokevirtual 35, 3) := by decide +kernel
theorem dX0_read_5 : decode cX0_read 5 = .ok (.aload_n 0, 1) := by decide +kernel
theorem dX0_read_6 : decode cX0_read 6 = .ok (.aload_n 1, 1) := by decide +kernel
theorem dX0_read_7 : decode cX0_read 7 = .ok (.iload_n 2, 1) := by decide +kernel
theorem dX0_read_8 : decode cX0_read 8 = .ok (.invokevirtual 39, 3) := by decide +kernel
theorem dX0_read_11 : decode cX0_read 11 = .ok (.aload_n 1, 1) := by decide +kernel
theorem dX0_read_12 : decode cX0_read 12 = .ok (.getfield 43, 3) := by decide +kernel
theorem dX0_read_15 : decode cX0_read 15 = .ok (.iconst 1, 1) := by decide +kernel
theorem dX0_read_16 : decode cX0_read 16 = .ok (.isub, 1) := by decide +kernel
theorem dX0_read_17 : decode cX0_read 17 = .ok (.istore_n 3, 1) := by decide +kernel
theorem dX0_read_18 : decode cX0_read 18 = .ok (.iconst 1, 1) := by decide +kernel
theorem dX0_read_19 : decode cX0_read 19 = .ok (.istore 4, 2) := by decide +kernel
theorem dX0_read_21 : decode cX0_read 21 = .ok (.iload 4, 2) := by decide +kernel
theorem dX0_read_23 : decode cX0_read 23 = .ok (.iload_n 3, 1) := by decide +kernel
theorem dX0_read_24 : decode cX0_read 24 = .ok (.if_icmp .ge 33, 3) := by decide +kernel
theorem dX0_read_27 : decode cX0_read 27 = .ok (.aload_n 0, 1) := by decide +kernel
theorem dX0_read_28 : decode cX0_read 28 = .ok (.getfield 18, 3) := by decide +kernel
theorem dX0_read_31 : decode cX0_read 31 = .ok (.iload 4, 2) := by decide +kernel
theorem dX0_read_33 : decode cX0_read 33 = .ok (.iaload, 1) := by decide +kernel
theorem dX0_read_34 : decode cX0_read 34 = .ok (.ifCond .ne 17, 3) := by decide +kernel
theorem dX0_read_37 : decode cX0_read 37 = .ok (.aload_n 0, 1) := by decide +kernel
theorem dX0_read_38 : decode cX0_read 38 = .ok (.getfield 18, 3) := by decide +kernel
theorem dX0_read_41 : decode cX0_read 41 = .ok (.iload 4, 2) := by decide +kernel
theorem dX0_read_43 : decode cX0_read 43 = .ok (.aload_n 0, 1) := by decide +kernel
theorem dX0_read_44 : decode cX0_read 44 = .ok (.iload 4, 2) := by decide +kernel
theorem dX0_read_46 : decode cX0_read 46 = .ok (.iload_n 3, 1) := by decide +kernel
theorem dX0_read_47 : decode cX0_read 47 = .ok (.invokevirtual 49, 3) := by decide +kernel
theorem dX0_read_50 : decode cX0_read 50 = .ok (.iastore, 1) := by decide +kernel
theorem dX0_read_51 : decode cX0_read 51 = .ok (.iinc 4 1, 3) := by decide +kernel
theorem dX0_read_54 : decode cX0_read 54 = .ok (.goto (-33), 3) := by decide +kernel
theorem dX0_read_57 : decode cX0_read 57 = .ok (.aload_n 0, 1) := by decide +kernel
theorem dX0_read_58 : decode cX0_read 58 = .ok (.invokevirtual 53, 3) := by decide +kernel
theorem dX0_read_61 : decode cX0_read 61 = .ok (.iload_n 3, 1) := by decide +kernel
theorem dX0_read_62 : decode cX0_read 62 = .ok (.iconst 1, 1) := by decide +kernel
theorem dX0_read_63 : decode cX0_read 63 = .ok (.isub, 1) := by decide +kernel
theorem dX0_read_64 : decode cX0_read 64 = .ok (.istore 4, 2) := by decide +kernel
theorem dX0_read_66 : decode cX0_read 66 = .ok (.iload 4, 2) := by decide +kernel
theorem dX0_read_68 : decode cX0_read 68 = .ok (.iconst 1, 1) := by decide +kernel
theorem dX0_read_69 : decode cX0_read 69 = .ok (.if_icmp .lt 38, 3) := by decide +kernel
theorem dX0_read_72 : decode cX0_read 72 = .ok (.aload_n 0, 1) := by decide +kernel
theorem dX0_read_73 : decode cX0_read 73 = .ok (.getfield 56, 3) := by decide +kernel
theorem dX0_read_76 : decode cX0_read 76 = .ok (.ifCond .ne 31, 3) := by decide +kernel
theorem dX0_read_79 : decode cX0_read 79 = .ok (.aload_n 0, 1) := by decide +kernel
theorem dX0_read_80 : decode cX0_read 80 = .ok (.getfield 18, 3) := by decide +kernel
theorem dX0_read_83 : decode cX0_read 83 = .ok (.iload 4, 2) := by decide +kernel
theorem dX0_read_85 : decode cX0_read 85 = .ok (.iaload, 1) := by decide +kernel
theorem dX0_read_86 : decode cX0_read 86 = .ok (.ifCond .ne 15, 3) := by decide +kernel
theorem dX0_read_89 : decode cX0_read 89 = .ok (.aload_n 0, 1) := by decide +kernel
theorem dX0_read_90 : decode cX0_read 90 = .ok (.getfield 18, 3) := by decide +kernel
theorem dX0_read_93 : decode cX0_read 93 = .ok (.iload 4, 2) := by decide +kernel
theorem dX0_read_95 : decode cX0_read 95 = .ok (.iconst 3, 1) := by decide +kernel
theorem dX0_read_96 : decode cX0_read 96 = .ok (.iastore, 1) := by decide +kernel
theorem dX0_read_97 : decode cX0_read 97 = .ok (.aload_n 0, 1) := by decide +kernel
theorem dX0_read_98 : decode cX0_read 98 = .ok (.invokevirtual 53, 3) := by decide +kernel
theorem dX0_read_101 : decode cX0_read 101 = .ok (.iinc 4 (-1), 3) := by decide +kernel
theorem dX0_read_104 : decode cX0_read 104 = .ok (.goto (-38), 3) := by decide +kernel
theorem dX0_read_107 : decode cX0_read 107 = .ok (.return_, 1) := by decide +kernel
theorem dX0_readSettings_0 : decode cX0_readSettings 0 = .ok (.iconst 0, 1) := by decide +kernel
theorem dX0_readSettings_1 : decode cX0_readSettings 1 = .ok (.istore_n 2, 1) := by decide +kernel
theorem dX0_readSettings_2 : decode cX0_readSettings 2 = .ok (.iload_n 2, 1) := by decide +kernel
theorem dX0_readSettings_3 : decode cX0_readSettings 3 = .ok (.iconst 2, 1) := by decide +kernel
theorem dX0_readSettings_4 : decode cX0_readSettings 4 = .ok (.if_icmp .ge 20, 3) := by decide +kernel
theorem dX0_readSettings_7 : decode cX0_readSettings 7 = .ok (.aload_n 0, 1) := by decide +kernel
theorem dX0_readSettings_8 : decode cX0_readSettings 8 = .ok (.getfield 9, 3) := by decide +kernel
theorem dX0_readSettings_11 : decode cX0_readSettings 11 = .ok (.iload_n 2, 1) := by decide +kernel
theorem dX0_readSettings_12 : decode cX0_readSettings 12 = .ok (.aload_n 1, 1) := by decide +kernel
theorem dX0_readSettings_13 : decode cX0_readSettings 13 = .ok (.iload_n 2, 1) := by decide +kernel
theorem dX0_readSettings_14 : decode cX0_readSettings 14 = .ok (.invokevirtual 59, 3) := by decide +kernel
theorem dX0_readSettings_17 : decode cX0_readSettings 17 = .ok (.iastore, 1) := by decide +kernel
theorem dX0_readSettings_18 : decode cX0_readSettings 18 = .ok (.iinc 2 1, 3) := by decide +kernel
theorem dX0_readSettings_21 : decode cX0_readSettings 21 = .ok (.goto (-19), 3) := by decide +kernel
theorem dX0_readSettings_24 : decode cX0_readSettings 24 = .ok (.aload_n 0, 1) := by decide +kernel
theorem dX0_readSettings_25 : decode cX0_readSettings 25 = .ok (.aload_n 1, 1) := by decide +kernel
theorem dX0_readSettings_26 : decode cX0_readSettings 26 = .ok (.iconst 2, 1) := by decide +kernel
theorem dX0_readSettings_27 : decode cX0_readSettings 27 = .ok (.invokevirtual 59, 3) := by decide +kernel
theorem dX0_readSettings_30 : decode cX0_readSettings 30 = .ok (.putfield 63, 3) := by decide +kernel
theorem dX0_readSettings_33 : decode cX0_readSettings 33 = .ok (.aload_n 0, 1) := by decide +kernel
theorem dX0_readSettings_34 : decode cX0_readSettings 34 = .ok (.aload_n 1, 1) := by decide +kernel
theorem dX0_readSettings_35 : decode cX0_readSettings 35 = .ok (.iconst 3, 1) := by decide +kernel
theorem dX0_readSettings_36 : decode cX0_readSettings 36 = .ok (.invokevirtual 59, 3) := by decide +kernel
theorem dX0_readSettings_39 : decode cX0_readSettings 39 = .ok (.putfield 66, 3) := by decide +kernel
theorem dX0_readSettings_42 : decode cX0_readSettings 42 = .ok (.aload_n 0, 1) := by decide +kernel
theorem dX0_readSettings_43 : decode cX0_readSettings 43 = .ok (.aload_n 1, 1) := by decide +kernel
theorem dX0_readSettings_44 : decode cX0_readSettings 44 = .ok (.iconst 4, 1) := by decide +kernel
theorem dX0_readSettings_45 : decode cX0_readSettings 45 = .ok (.invokevirtual 59, 3) := by decide +kernel
theorem dX0_readSettings_48 : decode cX0_readSettings 48 = .ok (.iconst 1, 1) := by decide +kernel
theorem dX0_readSettings_49 : decode cX0_readSettings 49 = .ok (.if_icmp .ne 7, 3) := by decide +kernel
theorem dX0_readSettings_52 : decode cX0_readSettings 52 = .ok (.iconst 1, 1) := by decide +kernel
theorem dX0_readSettings_53 : decode cX0_readSettings 53 = .ok (.goto 4, 3) := by decide +kernel
theorem dX0_readSettings_56 : decode cX0_readSettings 56 = .ok (.iconst 0, 1) := by decide +kernel
theorem dX0_readSettings_57 : decode cX0_readSettings 57 = .ok (.putfield 69, 3) := by decide +kernel
theorem dX0_readSettings_60 : decode cX0_readSettings 60 = .ok (.return_, 1) := by decide +kernel
theorem dX0_readNotes_0 : decode cX0_readNotes 0 = .ok (.aload_n 0, 1) := by decide +kernel
theorem dX0_readNotes_1 : decode cX0_readNotes 1 = .ok (.iconst 0, 1) := by decide +kernel
theorem dX0_readNotes_2 : decode cX0_readNotes 2 = .ok (.putfield 73, 3) := by decide +kernel
theorem dX0_readNotes_5 : decode cX0_readNotes 5 = .ok (.iconst 0, 1) := by decide +kernel
theorem dX0_readNotes_6 : decode cX0_readNotes 6 = .ok (.istore_n 3, 1) := by decide +kernel
theorem dX0_readNotes_7 : decode cX0_readNotes 7 = .ok (.iload_n 3, 1) := by decide +kernel
theorem dX0_readNotes_8 : decode cX0_readNotes 8 = .ok (.iconst 4, 1) := by decide +kernel
theorem dX0_readNotes_9 : decode cX0_readNotes 9 = .ok (.if_icmp .ge 67, 3) := by decide +kernel
theorem dX0_readNotes_12 : decode cX0_readNotes 12 = .ok (.aload_n 0, 1) := by decide +kernel
theorem dX0_readNotes_13 : decode cX0_readNotes 13 = .ok (.getfield 15, 3) := by decide +kernel
theorem dX0_readNotes_16 : decode cX0_readNotes 16 = .ok (.iload_n 3, 1) := by decide +kernel
theorem dX0_readNotes_17 : decode cX0_readNotes 17 = .ok (.aload_n 1, 1) := by decide +kernel
theorem dX0_readNotes_18 : decode cX0_readNotes 18 = .ok (.iload_n 3, 1) := by decide +kernel
theorem dX0_readNotes_19 : decode cX0_readNotes 19 = .ok (.iload_n 2, 1) := by decide +kernel
theorem dX0_readNotes_20 : decode cX0_readNotes 20 = .ok (.invokevirtual 76, 3) := by decide +kernel
theorem dX0_readNotes_23 : decode cX0_readNotes 23 = .ok (.iastore, 1) := by decide +kernel
theorem dX0_readNotes_24 : decode cX0_readNotes 24 = .ok (.aload_n 0, 1) := by decide +kernel
theorem dX0_readNotes_25 : decode cX0_readNotes 25 = .ok (.getfield 18, 3) := by decide +kernel
theorem dX0_readNotes_28 : decode cX0_readNotes 28 = .ok (.iload_n 3, 1) := by decide +kernel
theorem dX0_readNotes_29 : decode cX0_readNotes 29 = .ok (.aload_n 0, 1) := by decide +kernel
theorem dX0_readNotes_30 : decode cX0_readNotes 30 = .ok (.getfield 15, 3) := by decide +kernel
theorem dX0_readNotes_33 : decode cX0_readNotes 33 = .ok (.iload_n 3, 1) := by decide +kernel
theorem dX0_readNotes_34 : decode cX0_readNotes 34 = .ok (.iaload, 1) := by decide +kernel
theorem dX0_readNotes_35 : decode cX0_readNotes 35 = .ok (.bipush (-9), 2) := by decide +kernel
theorem dX0_readNotes_37 : decode cX0_readNotes 37 = .ok (.if_icmp .ne 8, 3) := by decide +kernel
theorem dX0_readNotes_40 : decode cX0_readNotes 40 = .ok (.bipush (-9), 2) := by decide +kernel
theorem dX0_readNotes_42 : decode cX0_readNotes 42 = .ok (.goto 4, 3) := by decide +kernel
theorem dX0_readNotes_45 : decode cX0_readNotes 45 = .ok (.iconst 0, 1) := by decide +kernel
theorem dX0_readNotes_46 : decode cX0_readNotes 46 = .ok (.iastore, 1) := by decide +kernel
theorem dX0_readNotes_47 : decode cX0_readNotes 47 = .ok (.aload_n 1, 1) := by decide +kernel
theorem dX0_readNotes_48 : decode cX0_readNotes 48 = .ok (.iload_n 3, 1) := by decide +kernel
theorem dX0_readNotes_49 : decode cX0_readNotes 49 = .ok (.iload_n 2, 1) := by decide +kernel
theorem dX0_readNotes_50 : decode cX0_readNotes 50 = .ok (.invokevirtual 79, 3) := by decide +kernel
theorem dX0_readNotes_53 : decode cX0_readNotes 53 = .ok (.bipush 99, 2) := by decide +kernel
theorem dX0_readNotes_55 : decode cX0_readNotes 55 = .ok (.if_icmp .ne 15, 3) := by decide +kernel
theorem dX0_readNotes_58 : decode cX0_readNotes 58 = .ok (.aload_n 0, 1) := by decide +kernel
theorem dX0_readNotes_59 : decode cX0_readNotes 59 = .ok (.dup, 1) := by decide +kernel
theorem dX0_readNotes_60 : decode cX0_readNotes 60 = .ok (.getfield 73, 3) := by decide +kernel
theorem dX0_readNotes_63 : decode cX0_readNotes 63 = .ok (.iconst 1, 1) := by decide +kernel
theorem dX0_readNotes_64 : decode cX0_readNotes 64 = .ok (.iload_n 3, 1) := by decide +kernel
theorem dX0_readNotes_65 : decode cX0_readNotes 65 = .ok (.ishl, 1) := by decide +kernel
theorem dX0_readNotes_66 : decode cX0_readNotes 66 = .ok (.ior, 1) := by decide +kernel
theorem dX0_readNotes_67 : decode cX0_readNotes 67 = .ok (.putfield 73, 3) := by decide +kernel
theorem dX0_readNotes_70 : decode cX0_readNotes 70 = .ok (.iinc 3 1, 3) := by decide +kernel
theorem dX0_readNotes_73 : decode cX0_readNotes 73 = .ok (.goto (-66), 3) := by decide +kernel
theorem dX0_readNotes_76 : decode cX0_readNotes 76 = .ok (.return_, 1) := by decide +kernel
theorem dX0_reasonFor_0 : decode cX0_reasonFor 0 = .ok (.iconst 0, 1) := by decide +kernel
theorem dX0_reasonFor_1 : decode cX0_reasonFor 1 = .ok (.istore_n 3, 1) := by decide +kernel
theorem dX0_reasonFor_2 : decode cX0_reasonFor 2 = .ok (.iconst 0, 1) := by decide +kernel
theorem dX0_reasonFor_3 : decode cX0_reasonFor 3 = .ok (.istore 4, 2) := by decide +kernel
theorem dX0_reasonFor_5 : decode cX0_reasonFor 5 = .ok (.iload 4, 2) := by decide +kernel
theorem dX0_reasonFor_7 : decode cX0_reasonFor 7 = .ok (.iconst 4, 1) := by decide +kernel
theorem dX0_reasonFor_8 : decode cX0_reasonFor 8 = .ok (.if_icmp .ge 74, 3) := by decide +kernel
theorem dX0_reasonFor_11 : decode cX0_reasonFor 11 = .ok (.iload 4, 2) := by decide +kernel
theorem dX0_reasonFor_13 : decode cX0_reasonFor 13 = .ok (.iload_n 1, 1) := by decide +kernel
theorem dX0_reasonFor_14 : decode cX0_reasonFor 14 = .ok (.if_icmp .lt 9, 3) := by decide +kernel
theorem dX0_reasonFor_17 : decode cX0_reasonFor 17 = .ok (.iload 4, 2) := by decide +kernel
theorem dX0_reasonFor_19 : decode cX0_reasonFor 19 = .ok (.iload_n 2, 1) := by decide +kernel
theorem dX0_reasonFor_20 : decode cX0_reasonFor 20 = .ok (.if_icmp .ne 56, 3) := by decide +kernel
theorem dX0_reasonFor_23 : decode cX0_reasonFor 23 = .ok (.aload_n 0, 1) := by decide +kernel
theorem dX0_reasonFor_24 : decode cX0_reasonFor 24 = .ok (.getfield 18, 3) := by decide +kernel
theorem dX0_reasonFor_27 : decode cX0_reasonFor 27 = .ok (.iload 4, 2) := by decide +kernel
theorem dX0_reasonFor_29 : decode cX0_reasonFor 29 = .ok (.iaload, 1) := by decide +kernel
theorem dX0_reasonFor_30 : decode cX0_reasonFor 30 = .ok (.ifCond .ne 46, 3) := by decide +kernel
theorem dX0_reasonFor_33 : decode cX0_reasonFor 33 = .ok (.aload_n 0, 1) := by decide +kernel
theorem dX0_reasonFor_34 : decode cX0_reasonFor 34 = .ok (.getfield 15, 3) := by decide +kernel
theorem dX0_reasonFor_37 : decode cX0_reasonFor 37 = .ok (.iload_n 1, 1) := by decide +kernel
theorem dX0_reasonFor_38 : decode cX0_reasonFor 38 = .ok (.iaload, 1) := by decide +kernel
theorem dX0_reasonFor_39 : decode cX0_reasonFor 39 = .ok (.aload_n 0, 1) := by decide +kernel
theorem dX0_reasonFor_40 : decode cX0_reasonFor 40 = .ok (.getfield 15, 3) := by decide +kernel
theorem dX0_reasonFor_43 : decode cX0_reasonFor 43 = .ok (.iload 4, 2) := by decide +kernel
theorem dX0_reasonFor_45 : decode cX0_reasonFor 45 = .ok (.iaload, 1) := by decide +kernel
theorem dX0_reasonFor_46 : decode cX0_reasonFor 46 = .ok (.isub, 1) := by decide +kernel
theorem dX0_reasonFor_47 : decode cX0_reasonFor 47 = .ok (.invokestatic 82, 3) := by decide +kernel
theorem dX0_reasonFor_50 : decode cX0_reasonFor 50 = .ok (.istore 5, 2) := by decide +kernel
theorem dX0_reasonFor_52 : decode cX0_reasonFor 52 = .ok (.iload 5, 2) := by decide +kernel
theorem dX0_reasonFor_54 : decode cX0_reasonFor 54 = .ok (.ifCond .ne 5, 3) := by decide +kernel
theorem dX0_reasonFor_57 : decode cX0_reasonFor 57 = .ok (.iconst 1, 1) := by decide +kernel
theorem dX0_reasonFor_58 : decode cX0_reasonFor 58 = .ok (.ireturn, 1) := by decide +kernel
theorem dX0_reasonFor_59 : decode cX0_reasonFor 59 = .ok (.aload_n 0, 1) := by decide +kernel
theorem dX0_reasonFor_60 : decode cX0_reasonFor 60 = .ok (.getfield 69, 3) := by decide +kernel
theorem dX0_reasonFor_63 : decode cX0_reasonFor 63 = .ok (.ifCond .eq 13, 3) := by decide +kernel
theorem dX0_reasonFor_66 : decode cX0_reasonFor 66 = .ok (.iload 5, 2) := by decide +kernel
theorem dX0_reasonFor_68 : decode cX0_reasonFor 68 = .ok (.bipush 12, 2) := by decide +kernel
theorem dX0_reasonFor_70 : decode cX0_reasonFor 70 = .ok (.irem, 1) := by decide +kernel
theorem dX0_reasonFor_71 : decode cX0_reasonFor 71 = .ok (.ifCond .ne 5, 3) := by decide +kernel
theorem dX0_reasonFor_74 : decode cX0_reasonFor 74 = .ok (.iconst 2, 1) := by decide +kernel
theorem dX0_reasonFor_75 : decode cX0_reasonFor 75 = .ok (.istore_n 3, 1) := by decide +kernel
theorem dX0_reasonFor_76 : decode cX0_reasonFor 76 = .ok (.iinc 4 1, 3) := by decide +kernel
theorem dX0_reasonFor_79 : decode cX0_reasonFor 79 = .ok (.goto (-74), 3) := by decide +kernel
theorem dX0_reasonFor_82 : decode cX0_reasonFor 82 = .ok (.iload_n 3, 1) := by decide +kernel
theorem dX0_reasonFor_83 : decode cX0_reasonFor 83 = .ok (.ireturn, 1) := by decide +kernel
theorem dX0_share_0 : decode cX0_share 0 = .ok (.aload_n 0, 1) := by decide +kernel
theorem dX0_share_1 : decode cX0_share 1 = .ok (.iconst 0, 1) := by decide +kernel
theorem dX0_share_2 : decode cX0_share 2 = .ok (.putfield 87, 3) := by decide +kernel
theorem dX0_share_5 : decode cX0_share 5 = .ok (.iconst 3, 1) := by decide +kernel
theorem dX0_share_6 : decode cX0_share 6 = .ok (.istore_n 1, 1) := by decide +kernel
theorem dX0_share_7 : decode cX0_share 7 = .ok (.iload_n 1, 1) := by decide +kernel
theorem dX0_share_8 : decode cX0_share 8 = .ok (.ifCond .lt 23, 3) := by decide +kernel
theorem dX0_share_11 : decode cX0_share 11 = .ok (.aload_n 0, 1) := by decide +kernel
theorem dX0_share_12 : decode cX0_share 12 = .ok (.getfield 18, 3) := by decide +kernel
theorem dX0_share_15 : decode cX0_share 15 = .ok (.iload_n 1, 1) := by decide +kernel
theorem dX0_share_16 : decode cX0_share 16 = .ok (.iaload, 1) := by decide +kernel
theorem dX0_share_17 : decode cX0_share 17 = .ok (.ifCond .ne 8, 3) := by decide +kernel
theorem dX0_share_20 : decode cX0_share 20 = .ok (.aload_n 0, 1) := by decide +kernel
theorem dX0_share_21 : decode cX0_share 21 = .ok (.iload_n 1, 1) := by decide +kernel
theorem dX0_share_22 : decode cX0_share 22 = .ok (.invokevirtual 90, 3) := by decide +kernel
theorem dX0_share_25 : decode cX0_share 25 = .ok (.iinc 1 (-1), 3) := by decide +kernel
theorem dX0_share_28 : decode cX0_share 28 = .ok (.goto (-21), 3) := by decide +kernel
theorem dX0_share_31 : decode cX0_share 31 = .ok (.iconst 0, 1) := by decide +kernel
theorem dX0_share_32 : decode cX0_share 32 = .ok (.istore_n 1, 1) := by decide +kernel
theorem dX0_share_33 : decode cX0_share 33 = .ok (.iload_n 1, 1) := by decide +kernel
theorem dX0_share_34 : decode cX0_share 34 = .ok (.aload_n 0, 1) := by decide +kernel
theorem dX0_share_35 : decode cX0_share 35 = .ok (.getfield 87, 3) := by decide +kernel
theorem dX0_share_38 : decode cX0_share 38 = .ok (.if_icmp .ge 32, 3) := by decide +kernel
theorem dX0_share_41 : decode cX0_share 41 = .ok (.aload_n 0, 1) := by decide +kernel
theorem dX0_share_42 : decode cX0_share 42 = .ok (.getfield 24, 3) := by decide +kernel
theorem dX0_share_45 : decode cX0_share 45 = .ok (.iload_n 1, 1) := by decide +kernel
theorem dX0_share_46 : decode cX0_share 46 = .ok (.iconst 1, 1) := by decide +kernel
theorem dX0_share_47 : decode cX0_share 47 = .ok (.iadd, 1) := by decide +kernel
theorem dX0_share_48 : decode cX0_share 48 = .ok (.aload_n 0, 1) := by decide +kernel
theorem dX0_share_49 : decode cX0_share 49 = .ok (.getfield 24, 3) := by decide +kernel
theorem dX0_share_52 : decode cX0_share 52 = .ok (.iload_n 1, 1) := by decide +kernel
theorem dX0_share_53 : decode cX0_share 53 = .ok (.iaload, 1) := by decide +kernel
theorem dX0_share_54 : decode cX0_share 54 = .ok (.iconst 1, 1) := by decide +kernel
theorem dX0_share_55 : decode cX0_share 55 = .ok (.aload_n 0, 1) := by decide +kernel
theorem dX0_share_56 : decode cX0_share 56 = .ok (.getfield 21, 3) := by decide +kernel
theorem dX0_share_59 : decode cX0_share 59 = .ok (.iload_n 1, 1) := by decide +kernel
theorem dX0_share_60 : decode cX0_share 60 = .ok (.iaload, 1) := by decide +kernel
theorem dX0_share_61 : decode cX0_share 61 = .ok (.ishl, 1) := by decide +kernel
theorem dX0_share_62 : decode cX0_share 62 = .ok (.ior, 1) := by decide +kernel
theorem dX0_share_63 : decode cX0_share 63 = .ok (.iastore, 1) := by decide +kernel
theorem dX0_share_64 : decode cX0_share 64 = .ok (.iinc 1 1, 3) := by decide +kernel
theorem dX0_share_67 : decode cX0_share 67 = .ok (.goto (-34), 3) := by decide +kernel
theorem dX0_share_70 : decode cX0_share 70 = .ok (.aload_n 0, 1) := by decide +kernel
theorem dX0_share_71 : decode cX0_share 71 = .ok (.aload_n 0, 1) := by decide +kernel
theorem dX0_share_72 : decode cX0_share 72 = .ok (.getfield 73, 3) := by decide +kernel
theorem dX0_share_75 : decode cX0_share 75 = .ok (.aload_n 0, 1) := by decide +kernel
theorem dX0_share_76 : decode cX0_share 76 = .ok (.getfield 24, 3) := by decide +kernel
theorem dX0_share_79 : decode cX0_share 79 = .ok (.aload_n 0, 1) := by decide +kernel
theorem dX0_share_80 : decode cX0_share 80 = .ok (.getfield 87, 3) := by decide +kernel
theorem dX0_share_83 : decode cX0_share 83 = .ok (.iaload, 1) := by decide +kernel
theorem dX0_share_84 : decode cX0_share 84 = .ok (.iand, 1) := by decide +kernel
theorem dX0_share_85 : decode cX0_share 85 = .ok (.putfield 94, 3) := by decide +kernel
theorem dX0_share_88 : decode cX0_share 88 = .ok (.aload_n 0, 1) := by decide +kernel
theorem dX0_share_89 : decode cX0_share 89 = .ok (.iconst 0, 1) := by decide +kernel
theorem dX0_share_90 : decode cX0_share 90 = .ok (.putfield 56, 3) := by decide +kernel
theorem dX0_share_93 : decode cX0_share 93 = .ok (.iconst 0, 1) := by decide +kernel
theorem dX0_share_94 : decode cX0_share 94 = .ok (.istore_n 1, 1) := by decide +kernel
theorem dX0_share_95 : decode cX0_share 95 = .ok (.iload_n 1, 1) := by decide +kernel
theorem dX0_share_96 : decode cX0_share 96 = .ok (.aload_n 0, 1) := by decide +kernel
theorem dX0_share_97 : decode cX0_share 97 = .ok (.getfield 87, 3) := by decide +kernel
theorem dX0_share_100 : decode cX0_share 100 = .ok (.if_icmp .gt 58, 3) := by decide +kernel
theorem dX0_share_103 : decode cX0_share 103 = .ok (.aload_n 0, 1) := by decide +kernel
theorem dX0_share_104 : decode cX0_share 104 = .ok (.iconst 0, 1) := by decide +kernel
theorem dX0_share_105 : decode cX0_share 105 = .ok (.iload_n 1, 1) := by decide +kernel
theorem dX0_share_106 : decode cX0_share 106 = .ok (.iconst 0, 1) := by decide +kernel
theorem dX0_share_107 : decode cX0_share 107 = .ok (.iload_n 1, 1) := by decide +kernel
theorem dX0_share_108 : decode cX0_share 108 = .ok (.invokevirtual 97, 3) := by decide +kernel
theorem dX0_share_111 : decode cX0_share 111 = .ok (.aload_n 0, 1) := by decide +kernel
theorem dX0_share_112 : decode cX0_share 112 = .ok (.iconst 1, 1) := by decide +kernel
theorem dX0_share_113 : decode cX0_share 113 = .ok (.iload_n 1, 1) := by decide +kernel
theorem dX0_share_114 : decode cX0_share 114 = .ok (.iload_n 1, 1) := by decide +kernel
theorem dX0_share_115 : decode cX0_share 115 = .ok (.aload_n 0, 1) := by decide +kernel
theorem dX0_share_116 : decode cX0_share 116 = .ok (.getfield 87, 3) := by decide +kernel
theorem dX0_share_119 : decode cX0_share 119 = .ok (.invokevirtual 97, 3) := by decide +kernel
theorem dX0_share_122 : decode cX0_share 122 = .ok (.aload_n 0, 1) := by decide +kernel
theorem dX0_share_123 : decode cX0_share 123 = .ok (.iconst 0, 1) := by decide +kernel
theorem dX0_share_124 : decode cX0_share 124 = .ok (.iload_n 1, 1) := by decide +kernel
theorem dX0_share_125 : decode cX0_share 125 = .ok (.invokevirtual 101, 3) := by decide +kernel
theorem dX0_share_128 : decode cX0_share 128 = .ok (.ifCond .eq 24, 3) := by decide +kernel
theorem dX0_share_131 : decode cX0_share 131 = .ok (.aload_n 0, 1) := by decide +kernel
theorem dX0_share_132 : decode cX0_share 132 = .ok (.iconst 1, 1) := by decide +kernel
theorem dX0_share_133 : decode cX0_share 133 = .ok (.iload_n 1, 1) := by decide +kernel
theorem dX0_share_134 : decode cX0_share 134 = .ok (.invokevirtual 101, 3) := by decide +kernel
theorem dX0_share_137 : decode cX0_share 137 = .ok (.ifCond .eq 15, 3) := by decide +kernel
theorem dX0_share_140 : decode cX0_share 140 = .ok (.aload_n 0, 1) := by decide +kernel
theorem dX0_share_141 : decode cX0_share 141 = .ok (.dup, 1) := by decide +kernel
theorem dX0_share_142 : decode cX0_share 142 = .ok (.getfield 56, 3) := by decide +kernel
theorem dX0_share_145 : decode cX0_share 145 = .ok (.iconst 1, 1) := by decide +kernel
theorem dX0_share_146 : decode cX0_share 146 = .ok (.iload_n 1, 1) := by decide +kernel
theorem dX0_share_147 : decode cX0_share 147 = .ok (.ishl, 1) := by decide +kernel
theorem dX0_share_148 : decode cX0_share 148 = .ok (.ior, 1) := by decide +kernel
theorem dX0_share_149 : decode cX0_share 149 = .ok (.putfield 56, 3) := by decide +kernel
theorem dX0_share_152 : decode cX0_share 152 = .ok (.iinc 1 1, 3) := by decide +kernel
theorem dX0_share_155 : decode cX0_share 155 = .ok (.goto (-60), 3) := by decide +kernel
theorem dX0_share_158 : decode cX0_share 158 = .ok (.return_, 1) := by decide +kernel
theorem dX0_insert_0 : decode cX0_insert 0 = .ok (.aload_n 0, 1) := by decide +kernel
theorem dX0_insert_1 : decode cX0_insert 1 = .ok (.getfield 87, 3) := by decide +kernel
theorem dX0_insert_4 : decode cX0_insert 4 = .ok (.istore_n 2, 1) := by decide +kernel
theorem dX0_insert_5 : decode cX0_insert 5 = .ok (.iload_n 2, 1) := by decide +kernel
theorem dX0_insert_6 : decode cX0_insert 6 = .ok (.ifCond .le 45, 3) := by decide +kernel
theorem dX0_insert_9 : decode cX0_insert 9 = .ok (.aload_n 0, 1) := by decide +kernel
theorem dX0_insert_10 : decode cX0_insert 10 = .ok (.getfield 15, 3) := by decide +kernel
theorem dX0_insert_13 : decode cX0_insert 13 = .ok (.aload_n 0, 1) := by decide +kernel
theorem dX0_insert_14 : decode cX0_insert 14 = .ok (.getfield 21, 3) := by decide +kernel
theorem dX0_insert_17 : decode cX0_insert 17 = .ok (.iload_n 2, 1) := by decide +kernel
theorem dX0_insert_18 : decode cX0_insert 18 = .ok (.iconst 1, 1) := by decide +kernel
theorem dX0_insert_19 : decode cX0_insert 19 = .ok (.isub, 1) := by decide +kernel
theorem dX0_insert_20 : decode cX0_insert 20 = .ok (.iaload, 1) := by decide +kernel
theorem dX0_insert_21 : decode cX0_insert 21 = .ok (.iaload, 1) := by decide +kernel
theorem dX0_insert_22 : decode cX0_insert 22 = .ok (.aload_n 0, 1) := by decide +kernel
theorem dX0_insert_23 : decode cX0_insert 23 = .ok (.getfield 15, 3) := by decide +kernel
theorem dX0_insert_26 : decode cX0_insert 26 = .ok (.iload_n 1, 1) := by decide +kernel
theorem dX0_insert_27 : decode cX0_insert 27 = .ok (.iaload, 1) := by decide +kernel
theorem dX0_insert_28 : decode cX0_insert 28 = .ok (.if_icmp .le 23, 3) := by decide +kernel
theorem dX0_insert_31 : decode cX0_insert 31 = .ok (.aload_n 0, 1) := by decide +kernel
theorem dX0_insert_32 : decode cX0_insert 32 = .ok (.getfield 21, 3) := by decide +kernel
theorem dX0_insert_35 : decode cX0_insert 35 = .ok (.iload_n 2, 1) := by decide +kernel
theorem dX0_insert_36 : decode cX0_insert 36 = .ok (.aload_n 0, 1) := by decide +kernel
theorem dX0_insert_37 : decode cX0_insert 37 = .ok (.getfield 21, 3) := by decide +kernel
theorem dX0_insert_40 : decode cX0_insert 40 = .ok (.iload_n 2, 1) := by decide +kernel
theorem dX0_insert_41 : decode cX0_insert 41 = .ok (.iconst 1, 1) := by decide +kernel
theorem dX0_insert_42 : decode cX0_insert 42 = .ok (.isub, 1) := by decide +kernel
theorem dX0_insert_43 : decode cX0_insert 43 = .ok (.iaload, 1) := by decide +kernel
theorem dX0_insert_44 : decode cX0_insert 44 = .ok (.iastore, 1) := by decide +kernel
theorem dX0_insert_45 : decode cX0_insert 45 = .ok (.iinc 2 (-1), 3) := by decide +kernel
theorem dX0_insert_48 : decode cX0_insert 48 = .ok (.goto (-43), 3) := by decide +kernel
theorem dX0_insert_51 : decode cX0_insert 51 = .ok (.aload_n 0, 1) := by decide +kernel
theorem dX0_insert_52 : decode cX0_insert 52 = .ok (.getfield 21, 3) := by decide +kernel
theorem dX0_insert_55 : decode cX0_insert 55 = .ok (.iload_n 2, 1) := by decide +kernel
theorem dX0_insert_56 : decode cX0_insert 56 = .ok (.iload_n 1, 1) := by decide +kernel
theorem dX0_insert_57 : decode cX0_insert 57 = .ok (.iastore, 1) := by decide +kernel
theorem dX0_insert_58 : decode cX0_insert 58 = .ok (.aload_n 0, 1) := by decide +kernel
theorem dX0_insert_59 : decode cX0_insert 59 = .ok (.dup, 1) := by decide +kernel
theorem dX0_insert_60 : decode cX0_insert 60 = .ok (.getfield 87, 3) := by decide +kernel
theorem dX0_insert_63 : decode cX0_insert 63 = .ok (.iconst 1, 1) := by decide +kernel
theorem dX0_insert_64 : decode cX0_insert 64 = .ok (.iadd, 1) := by decide +kernel
theorem dX0_insert_65 : decode cX0_insert 65 = .ok (.putfield 87, 3) := by decide +kernel
theorem dX0_insert_68 : decode cX0_insert 68 = .ok (.return_, 1) := by decide +kernel
theorem dX0_measure_0 : decode cX0_measure 0 = .ok (.iload_n 3, 1) := by decide +kernel
theorem dX0_measure_1 : decode cX0_measure 1 = .ok (.iload 4, 2) := by decide +kernel
theorem dX0_measure_3 : decode cX0_measure 3 = .ok (.if_icmp .ge 59, 3) := by decide +kernel
theorem dX0_measure_6 : decode cX0_measure 6 = .ok (.aload_n 0, 1) := by decide +kernel
theorem dX0_measure_7 : decode cX0_measure 7 = .ok (.getfield 29, 3) := by decide +kernel
theorem dX0_measure_10 : decode cX0_measure 10 = .ok (.iload_n 1, 1) := by decide +kernel
theorem dX0_measure_11 : decode cX0_measure 11 = .ok (.aaload, 1) := by decide +kernel
theorem dX0_measure_12 : decode cX0_measure 12 = .ok (.iload_n 2, 1) := by decide +kernel
theorem dX0_measure_13 : decode cX0_measure 13 = .ok (.aload_n 0, 1) := by decide +kernel
theorem dX0_measure_14 : decode cX0_measure 14 = .ok (.getfield 15, 3) := by decide +kernel
theorem dX0_measure_17 : decode cX0_measure 17 = .ok (.aload_n 0, 1) := by decide +kernel
theorem dX0_measure_18 : decode cX0_measure 18 = .ok (.getfield 21, 3) := by decide +kernel
theorem dX0_measure_21 : decode cX0_measure 21 = .ok (.iload_n 3, 1) := by decide +kernel
theorem dX0_measure_22 : decode cX0_measure 22 = .ok (.iaload, 1) := by decide +kernel
theorem dX0_measure_23 : decode cX0_measure 23 = .ok (.iaload, 1) := by decide +kernel
theorem dX0_measure_24 : decode cX0_measure 24 = .ok (.iastore, 1) := by decide +kernel
theorem dX0_measure_25 : decode cX0_measure 25 = .ok (.aload_n 0, 1) := by decide +kernel
theorem dX0_measure_26 : decode cX0_measure 26 = .ok (.getfield 32, 3) := by decide +kernel
theorem dX0_measure_29 : decode cX0_measure 29 = .ok (.iload_n 1, 1) := by decide +kernel
theorem dX0_measure_30 : decode cX0_measure 30 = .ok (.aaload, 1) := by decide +kernel
theorem dX0_measure_31 : decode cX0_measure 31 = .ok (.iload_n 2, 1) := by decide +kernel
theorem dX0_measure_32 : decode cX0_measure 32 = .ok (.aload_n 0, 1) := by decide +kernel
theorem dX0_measure_33 : decode cX0_measure 33 = .ok (.getfield 15, 3) := by decide +kernel
theorem dX0_measure_36 : decode cX0_measure 36 = .ok (.aload_n 0, 1) := by decide +kernel
theorem dX0_measure_37 : decode cX0_measure 37 = .ok (.getfield 21, 3) := by decide +kernel
theorem dX0_measure_40 : decode cX0_measure 40 = .ok (.iload 4, 2) := by decide +kernel
theorem dX0_measure_42 : decode cX0_measure 42 = .ok (.iconst 1, 1) := by decide +kernel
theorem dX0_measure_43 : decode cX0_measure 43 = .ok (.isub, 1) := by decide +kernel
theorem dX0_measure_44 : decode cX0_measure 44 = .ok (.iaload, 1) := by decide +kernel
theorem dX0_measure_45 : decode cX0_measure 45 = .ok (.iaload, 1) := by decide +kernel
theorem dX0_measure_46 : decode cX0_measure 46 = .ok (.aload_n 0, 1) := by decide +kernel
theorem dX0_measure_47 : decode cX0_measure 47 = .ok (.getfield 15, 3) := by decide +kernel
theorem dX0_measure_50 : decode cX0_measure 50 = .ok (.aload_n 0, 1) := by decide +kernel
theorem dX0_measure_51 : decode cX0_measure 51 = .ok (.getfield 21, 3) := by decide +kernel
theorem dX0_measure_54 : decode cX0_measure 54 = .ok (.iload_n 3, 1) := by decide +kernel
theorem dX0_measure_55 : decode cX0_measure 55 = .ok (.iaload, 1) := by decide +kernel
theorem dX0_measure_56 : decode cX0_measure 56 = .ok (.iaload, 1) := by decide +kernel
theorem dX0_measure_57 : decode cX0_measure 57 = .ok (.isub, 1) := by decide +kernel
theorem dX0_measure_58 : decode cX0_measure 58 = .ok (.iastore, 1) := by decide +kernel
theorem dX0_measure_59 : decode cX0_measure 59 = .ok (.goto 22, 3) := by decide +kernel
theorem dX0_measure_62 : decode cX0_measure 62 = .ok (.aload_n 0, 1) := by decide +kernel
theorem dX0_measure_63 : decode cX0_measure 63 = .ok (.getfield 29, 3) := by decide +kernel
theorem dX0_measure_66 : decode cX0_measure 66 = .ok (.iload_n 1, 1) := by decide +kernel
theorem dX0_measure_67 : decode cX0_measure 67 = .ok (.aaload, 1) := by decide +kernel
theorem dX0_measure_68 : decode cX0_measure 68 = .ok (.iload_n 2, 1) := by decide +kernel
theorem dX0_measure_69 : decode cX0_measure 69 = .ok (.bipush (-9), 2) := by decide +kernel
theorem dX0_measure_71 : decode cX0_measure 71 = .ok (.iastore, 1) := by decide +kernel
theorem dX0_measure_72 : decode cX0_measure 72 = .ok (.aload_n 0, 1) := by decide +kernel
theorem dX0_measure_73 : decode cX0_measure 73 = .ok (.getfield 32, 3) := by decide +kernel
theorem dX0_measure_76 : decode cX0_measure 76 = .ok (.iload_n 1, 1) := by decide +kernel
theorem dX0_measure_77 : decode cX0_measure 77 = .ok (.aaload, 1) := by decide +kernel
theorem dX0_measure_78 : decode cX0_measure 78 = .ok (.iload_n 2, 1) := by decide +kernel
theorem dX0_measure_79 : decode cX0_measure 79 = .ok (.iconst 0, 1) := by decide +kernel
theorem dX0_measure_80 : decode cX0_measure 80 = .ok (.iastore, 1) := by decide +kernel
theorem dX0_measure_81 : decode cX0_measure 81 = .ok (.return_, 1) := by decide +kernel
theorem dX0_canPlay_0 : decode cX0_canPlay 0 = .ok (.aload_n 0, 1) := by decide +kernel
theorem dX0_canPlay_1 : decode cX0_canPlay 1 = .ok (.iload_n 1, 1) := by decide +kernel
theorem dX0_canPlay_2 : decode cX0_canPlay 2 = .ok (.iload_n 2, 1) := by decide +kernel
theorem dX0_canPlay_3 : decode cX0_canPlay 3 = .ok (.invokevirtual 105, 3) := by decide +kernel
theorem dX0_canPlay_6 : decode cX0_canPlay 6 = .ok (.aload_n 0, 1) := by decide +kernel
theorem dX0_canPlay_7 : decode cX0_canPlay 7 = .ok (.getfield 63, 3) := by decide +kernel
theorem dX0_canPlay_10 : decode cX0_canPlay 10 = .ok (.if_icmp .le 5, 3) := by decide +kernel
theorem dX0_canPlay_13 : decode cX0_canPlay 13 = .ok (.iconst 0, 1) := by decide +kernel
theorem dX0_canPlay_14 : decode cX0_canPlay 14 = .ok (.ireturn, 1) := by decide +kernel
theorem dX0_canPlay_15 : decode cX0_canPlay 15 = .ok (.aload_n 0, 1) := by decide +kernel
theorem dX0_canPlay_16 : decode cX0_canPlay 16 = .ok (.iload_n 1, 1) := by decide +kernel
theorem dX0_canPlay_17 : decode cX0_canPlay 17 = .ok (.iload_n 2, 1) := by decide +kernel
theorem dX0_canPlay_18 : decode cX0_canPlay 18 = .ok (.invokevirtual 108, 3) := by decide +kernel
theorem dX0_canPlay_21 : decode cX0_canPlay 21 = .ok (.aload_n 0, 1) := by decide +kernel
theorem dX0_canPlay_22 : decode cX0_canPlay 22 = .ok (.getfield 73, 3) := by decide +kernel
theorem dX0_canPlay_25 : decode cX0_canPlay 25 = .ok (.iand, 1) := by decide +kernel
theorem dX0_canPlay_26 : decode cX0_canPlay 26 = .ok (.ifCond .ne 17, 3) := by decide +kernel
theorem dX0_canPlay_29 : decode cX0_canPlay 29 = .ok (.aload_n 0, 1) := by decide +kernel
theorem dX0_canPlay_30 : decode cX0_canPlay 30 = .ok (.getfield 9, 3) := by decide +kernel
theorem dX0_canPlay_33 : decode cX0_canPlay 33 = .ok (.iload_n 1, 1) := by decide +kernel
theorem dX0_canPlay_34 : decode cX0_canPlay 34 = .ok (.iaload, 1) := by decide +kernel
theorem dX0_canPlay_35 : decode cX0_canPlay 35 = .ok (.aload_n 0, 1) := by decide +kernel
theorem dX0_canPlay_36 : decode cX0_canPlay 36 = .ok (.getfield 66, 3) := by decide +kernel
theorem dX0_canPlay_39 : decode cX0_canPlay 39 = .ok (.iadd, 1) := by decide +kernel
theorem dX0_canPlay_40 : decode cX0_canPlay 40 = .ok (.goto 9, 3) := by decide +kernel
theorem dX0_canPlay_43 : decode cX0_canPlay 43 = .ok (.aload_n 0, 1) := by decide +kernel
theorem dX0_canPlay_44 : decode cX0_canPlay 44 = .ok (.getfield 9, 3) := by decide +kernel
theorem dX0_canPlay_47 : decode cX0_canPlay 47 = .ok (.iload_n 1, 1) := by decide +kernel
theorem dX0_canPlay_48 : decode cX0_canPlay 48 = .ok (.iaload, 1) := by decide +kernel
theorem dX0_canPlay_49 : decode cX0_canPlay 49 = .ok (.istore_n 3, 1) := by decide +kernel
theorem dX0_canPlay_50 : decode cX0_canPlay 50 = .ok (.aload_n 0, 1) := by decide +kernel
theorem dX0_canPlay_51 : decode cX0_canPlay 51 = .ok (.getfield 32, 3) := by decide +kernel
theorem dX0_canPlay_54 : decode cX0_canPlay 54 = .ok (.iload_n 1, 1) := by decide +kernel
theorem dX0_canPlay_55 : decode cX0_canPlay 55 = .ok (.aaload, 1) := by decide +kernel
theorem dX0_canPlay_56 : decode cX0_canPlay 56 = .ok (.iload_n 2, 1) := by decide +kernel
theorem dX0_canPlay_57 : decode cX0_canPlay 57 = .ok (.iaload, 1) := by decide +kernel
theorem dX0_canPlay_58 : decode cX0_canPlay 58 = .ok (.iload_n 3, 1) := by decide +kernel
theorem dX0_canPlay_59 : decode cX0_canPlay 59 = .ok (.if_icmp .gt 7, 3) := by decide +kernel
theorem dX0_canPlay_62 : decode cX0_canPlay 62 = .ok (.iconst 1, 1) := by decide +kernel
theorem dX0_canPlay_63 : decode cX0_canPlay 63 = .ok (.goto 4, 3) := by decide +kernel
theorem dX0_canPlay_66 : decode cX0_canPlay 66 = .ok (.iconst 0, 1) := by decide +kernel
theorem dX0_canPlay_67 : decode cX0_canPlay 67 = .ok (.ireturn, 1) := by decide +kernel
theorem dX0_isPossible_0 : decode cX0_isPossible 0 = .ok (.aload_n 0, 1) := by decide +kernel
theorem dX0_isPossible_1 : decode cX0_isPossible 1 = .ok (.getfield 56, 3) := by decide +kernel
theorem dX0_isPossible_4 : decode cX0_isPossible 4 = .ok (.iload_n 1, 1) := by decide +kernel
theorem dX0_isPossible_5 : decode cX0_isPossible 5 = .ok (.ishr, 1) := by decide +kernel
theorem dX0_isPossible_6 : decode cX0_isPossible 6 = .ok (.iconst 1, 1) := by decide +kernel
theorem dX0_isPossible_7 : decode cX0_isPossible 7 = .ok (.iand, 1) := by decide +kernel
theorem dX0_isPossible_8 : decode cX0_isPossible 8 = .ok (.iconst 1, 1) := by decide +kernel
theorem dX0_isPossible_9 : decode cX0_isPossible 9 = .ok (.if_icmp .ne 7, 3) := by decide +kernel
theorem dX0_isPossible_12 : decode cX0_isPossible 12 = .ok (.iconst 1, 1) := by decide +kernel
theorem dX0_isPossible_13 : decode cX0_isPossible 13 = .ok (.goto 4, 3) := by decide +kernel
theorem dX0_isPossible_16 : decode cX0_isPossible 16 = .ok (.iconst 0, 1) := by decide +kernel
theorem dX0_isPossible_17 : decode cX0_isPossible 17 = .ok (.ireturn, 1) := by decide +kernel
theorem dX0_stavesOf_0 : decode cX0_stavesOf 0 = .ok (.iload_n 1, 1) := by decide +kernel
theorem dX0_stavesOf_1 : decode cX0_stavesOf 1 = .ok (.ifCond .ne 12, 3) := by decide +kernel
theorem dX0_stavesOf_4 : decode cX0_stavesOf 4 = .ok (.aload_n 0, 1) := by decide +kernel
theorem dX0_stavesOf_5 : decode cX0_stavesOf 5 = .ok (.getfield 24, 3) := by decide +kernel
theorem dX0_stavesOf_8 : decode cX0_stavesOf 8 = .ok (.iload_n 2, 1) := by decide +kernel
theorem dX0_stavesOf_9 : decode cX0_stavesOf 9 = .ok (.iaload, 1) := by decide +kernel
theorem dX0_stavesOf_10 : decode cX0_stavesOf 10 = .ok (.goto 21, 3) := by decide +kernel
theorem dX0_stavesOf_13 : decode cX0_stavesOf 13 = .ok (.aload_n 0, 1) := by decide +kernel
theorem dX0_stavesOf_14 : decode cX0_stavesOf 14 = .ok (.getfield 24, 3) := by decide +kernel
theorem dX0_stavesOf_17 : decode cX0_stavesOf 17 = .ok (.aload_n 0, 1) := by decide +kernel
theorem dX0_stavesOf_18 : decode cX0_stavesOf 18 = .ok (.getfield 87, 3) := by decide +kernel
theorem dX0_stavesOf_21 : decode cX0_stavesOf 21 = .ok (.iaload, 1) := by decide +kernel
theorem dX0_stavesOf_22 : decode cX0_stavesOf 22 = .ok (.aload_n 0, 1) := by decide +kernel
theorem dX0_stavesOf_23 : decode cX0_stavesOf 23 = .ok (.getfield 24, 3) := by decide +kernel
theorem dX0_stavesOf_26 : decode cX0_stavesOf 26 = .ok (.iload_n 2, 1) := by decide +kernel
theorem dX0_stavesOf_27 : decode cX0_stavesOf 27 = .ok (.iaload, 1) := by decide +kernel
theorem dX0_stavesOf_28 : decode cX0_stavesOf 28 = .ok (.iconst (-1), 1) := by decide +kernel
theorem dX0_stavesOf_29 : decode cX0_stavesOf 29 = .ok (.ixor, 1) := by decide +kernel
theorem dX0_stavesOf_30 : decode cX0_stavesOf 30 = .ok (.iand, 1) := by decide +kernel
theorem dX0_stavesOf_31 : decode cX0_stavesOf 31 = .ok (.ireturn, 1) := by decide +kernel
theorem dX0_countOf_0 : decode cX0_countOf 0 = .ok (.iload_n 1, 1) := by decide +kernel
theorem dX0_countOf_1 : decode cX0_countOf 1 = .ok (.ifCond .ne 7, 3) := by decide +kernel
theorem dX0_countOf_4 : decode cX0_countOf 4 = .ok (.iload_n 2, 1) := by decide +kernel
theorem dX0_countOf_5 : decode cX0_countOf 5 = .ok (.goto 9, 3) := by decide +kernel
theorem dX0_countOf_8 : decode cX0_countOf 8 = .ok (.aload_n 0, 1) := by decide +kernel
theorem dX0_countOf_9 : decode cX0_countOf 9 = .ok (.getfield 87, 3) := by decide +kernel
theorem dX0_countOf_12 : decode cX0_countOf 12 = .ok (.iload_n 2, 1) := by decide +kernel
theorem dX0_countOf_13 : decode cX0_countOf 13 = .ok (.isub, 1) := by decide +kernel
theorem dX0_countOf_14 : decode cX0_countOf 14 = .ok (.ireturn, 1) := by decide +kernel
theorem dX0_isRolled_0 : decode cX0_isRolled 0 = .ok (.aload_n 0, 1) := by decide +kernel
theorem dX0_isRolled_1 : decode cX0_isRolled 1 = .ok (.getfield 32, 3) := by decide +kernel
theorem dX0_isRolled_4 : decode cX0_isRolled 4 = .ok (.iload_n 1, 1) := by decide +kernel
theorem dX0_isRolled_5 : decode cX0_isRolled 5 = .ok (.aaload, 1) := by decide +kernel
theorem dX0_isRolled_6 : decode cX0_isRolled 6 = .ok (.iload_n 2, 1) := by decide +kernel
theorem dX0_isRolled_7 : decode cX0_isRolled 7 = .ok (.iaload, 1) := by decide +kernel
theorem dX0_isRolled_8 : decode cX0_isRolled 8 = .ok (.aload_n 0, 1) := by decide +kernel
theorem dX0_isRolled_9 : decode cX0_isRolled 9 = .ok (.getfield 9, 3) := by decide +kernel
theorem dX0_isRolled_12 : decode cX0_isRolled 12 = .ok (.iload_n 1, 1) := by decide +kernel
theorem dX0_isRolled_13 : decode cX0_isRolled 13 = .ok (.iaload, 1) := by decide +kernel
theorem dX0_isRolled_14 : decode cX0_isRolled 14 = .ok (.if_icmp .le 7, 3) := by decide +kernel
theorem dX0_isRolled_17 : decode cX0_isRolled 17 = .ok (.iconst 1, 1) := by decide +kernel
theorem dX0_isRolled_18 : decode cX0_isRolled 18 = .ok (.goto 4, 3) := by decide +kernel
theorem dX0_isRolled_21 : decode cX0_isRolled 21 = .ok (.iconst 0, 1) := by decide +kernel
theorem dX0_isRolled_22 : decode cX0_isRolled 22 = .ok (.ireturn, 1) := by decide +kernel
theorem dX0_countRolled_0 : decode cX0_countRolled 0 = .ok (.aload_n 0, 1) := by decide +kernel
theorem dX0_countRolled_1 : decode cX0_countRolled 1 = .ok (.iconst 0, 1) := by decide +kernel
theorem dX0_countRolled_2 : decode cX0_countRolled 2 = .ok (.iload_n 1, 1) := by decide +kernel
theorem dX0_countRolled_3 : decode cX0_countRolled 3 = .ok (.invokevirtual 111, 3) := by decide +kernel
theorem dX0_countRolled_6 : decode cX0_countRolled 6 = .ok (.ifCond .eq 7, 3) := by decide +kernel
theorem dX0_countRolled_9 : decode cX0_countRolled 9 = .ok (.iconst 1, 1) := by decide +kernel
theorem dX0_countRolled_10 : decode cX0_countRolled 10 = .ok (.goto 4, 3) := by decide +kernel
theorem dX0_countRolled_13 : decode cX0_countRolled 13 = .ok (.iconst 0, 1) := by decide +kernel
theorem dX0_countRolled_14 : decode cX0_countRolled 14 = .ok (.aload_n 0, 1) := by decide +kernel
theorem dX0_countRolled_15 : decode cX0_countRolled 15 = .ok (.iconst 1, 1) := by decide +kernel
theorem dX0_countRolled_16 : decode cX0_countRolled 16 = .ok (.iload_n 1, 1) := by decide +kernel
theorem dX0_countRolled_17 : decode cX0_countRolled 17 = .ok (.invokevirtual 111, 3) := by decide +kernel
theorem dX0_countRolled_20 : decode cX0_countRolled 20 = .ok (.ifCond .eq 7, 3) := by decide +kernel
theorem dX0_countRolled_23 : decode cX0_countRolled 23 = .ok (.iconst 1, 1) := by decide +kernel
theorem dX0_countRolled_24 : decode cX0_countRolled 24 = .ok (.goto 4, 3) := by decide +kernel
theorem dX0_countRolled_27 : decode cX0_countRolled 27 = .ok (.iconst 0, 1) := by decide +kernel
theorem dX0_countRolled_28 : decode cX0_countRolled 28 = .ok (.iadd, 1) := by decide +kernel
theorem dX0_countRolled_29 : decode cX0_countRolled 29 = .ok (.ireturn, 1) := by decide +kernel
theorem dX0_move_0 : decode cX0_move 0 = .ok (.aload_n 3, 1) := by decide +kernel
theorem dX0_move_1 : decode cX0_move 1 = .ok (.getfield 29, 3) := by decide +kernel
theorem dX0_move_4 : decode cX0_move 4 = .ok (.iload_n 1, 1) := by decide +kernel
theorem dX0_move_5 : decode cX0_move 5 = .ok (.aaload, 1) := by decide +kernel
theorem dX0_move_6 : decode cX0_move 6 = .ok (.iload 4, 2) := by decide +kernel
theorem dX0_move_8 : decode cX0_move 8 = .ok (.iaload, 1) := by decide +kernel
theorem dX0_move_9 : decode cX0_move 9 = .ok (.istore 5, 2) := by decide +kernel
theorem dX0_move_11 : decode cX0_move 11 = .ok (.aload_n 0, 1) := by decide +kernel
theorem dX0_move_12 : decode cX0_move 12 = .ok (.getfield 29, 3) := by decide +kernel
theorem dX0_move_15 : decode cX0_move 15 = .ok (.iload_n 1, 1) := by decide +kernel
theorem dX0_move_16 : decode cX0_move 16 = .ok (.aaload, 1) := by decide +kernel
theorem dX0_move_17 : decode cX0_move 17 = .ok (.iload_n 2, 1) := by decide +kernel
theorem dX0_move_18 : decode cX0_move 18 = .ok (.iaload, 1) := by decide +kernel
theorem dX0_move_19 : decode cX0_move 19 = .ok (.istore 6, 2) := by decide +kernel
theorem dX0_move_21 : decode cX0_move 21 = .ok (.iload 5, 2) := by decide +kernel
theorem dX0_move_23 : decode cX0_move 23 = .ok (.bipush (-9), 2) := by decide +kernel
theorem dX0_move_25 : decode cX0_move 25 = .ok (.if_icmp .eq 10, 3) := by decide +kernel
theorem dX0_move_28 : decode cX0_move 28 = .ok (.iload 6, 2) := by decide +kernel
theorem dX0_move_30 : decode cX0_move 30 = .ok (.bipush (-9), 2) := by decide +kernel
theorem dX0_move_32 : decode cX0_move 32 = .ok (.if_icmp .ne 5, 3) := by decide +kernel
theorem dX0_move_35 : decode cX0_move 35 = .ok (.iconst 0, 1) := by decide +kernel
theorem dX0_move_36 : decode cX0_move 36 = .ok (.ireturn, 1) := by decide +kernel
theorem dX0_move_37 : decode cX0_move 37 = .ok (.iload 6, 2) := by decide +kernel
theorem dX0_move_39 : decode cX0_move 39 = .ok (.iload 5, 2) := by decide +kernel
theorem dX0_move_41 : decode cX0_move 41 = .ok (.if_icmp .le 11, 3) := by decide +kernel
theorem dX0_move_44 : decode cX0_move 44 = .ok (.iload 6, 2) := by decide +kernel
theorem dX0_move_46 : decode cX0_move 46 = .ok (.iload 5, 2) := by decide +kernel
theorem dX0_move_48 : decode cX0_move 48 = .ok (.isub, 1) := by decide +kernel
theorem dX0_move_49 : decode cX0_move 49 = .ok (.goto 8, 3) := by decide +kernel
theorem dX0_move_52 : decode cX0_move 52 = .ok (.iload 5, 2) := by decide +kernel
theorem dX0_move_54 : decode cX0_move 54 = .ok (.iload 6, 2) := by decide +kernel
theorem dX0_move_56 : decode cX0_move 56 = .ok (.isub, 1) := by decide +kernel
theorem dX0_move_57 : decode cX0_move 57 = .ok (.ireturn, 1) := by decide +kernel
theorem dX0_cutStaves_0 : decode cX0_cutStaves 0 = .ok (.aload_n 2, 1) := by decide +kernel
theorem dX0_cutStaves_1 : decode cX0_cutStaves 1 = .ok (.getfield 24, 3) := by decide +kernel
theorem dX0_cutStaves_4 : decode cX0_cutStaves 4 = .ok (.aload_n 2, 1) := by decide +kernel
theorem dX0_cutStaves_5 : decode cX0_cutStaves 5 = .ok (.getfield 87, 3) := by decide +kernel
theorem dX0_cutStaves_8 : decode cX0_cutStaves 8 = .ok (.iaload, 1) := by decide +kernel
theorem dX0_cutStaves_9 : decode cX0_cutStaves 9 = .ok (.istore 4, 2) := by decide +kernel
theorem dX0_cutStaves_11 : decode cX0_cutStaves 11 = .ok (.aload_n 0, 1) := by decide +kernel
theorem dX0_cutStaves_12 : decode cX0_cutStaves 12 = .ok (.getfield 24, 3) := by decide +kernel
theorem dX0_cutStaves_15 : decode cX0_cutStaves 15 = .ok (.iload_n 1, 1) := by decide +kernel
theorem dX0_cutStaves_16 : decode cX0_cutStaves 16 = .ok (.iaload, 1) := by decide +kernel
theorem dX0_cutStaves_17 : decode cX0_cutStaves 17 = .ok (.aload_n 2, 1) := by decide +kernel
theorem dX0_cutStaves_18 : decode cX0_cutStaves 18 = .ok (.getfield 24, 3) := by decide +kernel
theorem dX0_cutStaves_21 : decode cX0_cutStaves 21 = .ok (.iload_n 3, 1) := by decide +kernel
theorem dX0_cutStaves_22 : decode cX0_cutStaves 22 = .ok (.iaload, 1) := by decide +kernel
theorem dX0_cutStaves_23 : decode cX0_cutStaves 23 = .ok (.ixor, 1) := by decide +kernel
theorem dX0_cutStaves_24 : decode cX0_cutStaves 24 = .ok (.istore 5, 2) := by decide +kernel
theorem dX0_cutStaves_26 : decode cX0_cutStaves 26 = .ok (.aload_n 0, 1) := by decide +kernel
theorem dX0_cutStaves_27 : decode cX0_cutStaves 27 = .ok (.getfield 94, 3) := by decide +kernel
theorem dX0_cutStaves_30 : decode cX0_cutStaves 30 = .ok (.iload 4, 2) := by decide +kernel
theorem dX0_cutStaves_32 : decode cX0_cutStaves 32 = .ok (.iconst (-1), 1) := by decide +kernel
theorem dX0_cutStaves_33 : decode cX0_cutStaves 33 = .ok (.ixor, 1) := by decide +kernel
theorem dX0_cutStaves_34 : decode cX0_cutStaves 34 = .ok (.iload 5, 2) := by decide +kernel
theorem dX0_cutStaves_36 : decode cX0_cutStaves 36 = .ok (.ior, 1) := by decide +kernel
theorem dX0_cutStaves_37 : decode cX0_cutStaves 37 = .ok (.iand, 1) := by decide +kernel
theorem dX0_cutStaves_38 : decode cX0_cutStaves 38 = .ok (.ireturn, 1) := by decide +kernel
theorem dX0_costs_0 : decode cX0_costs 0 = .ok (.bipush 10, 2) := by decide +kernel
theorem dX0_costs_2 : decode cX0_costs 2 = .ok (.aload_n 0, 1) := by decide +kernel
theorem dX0_costs_3 : decode cX0_costs 3 = .ok (.iload_n 1, 1) := by decide +kernel
theorem dX0_costs_4 : decode cX0_costs 4 = .ok (.aload_n 2, 1) := by decide +kernel
theorem dX0_costs_5 : decode cX0_costs 5 = .ok (.iload_n 3, 1) := by decide +kernel
theorem dX0_costs_6 : decode cX0_costs 6 = .ok (.invokevirtual 114, 3) := by decide +kernel
theorem dX0_costs_9 : decode cX0_costs 9 = .ok (.invokestatic 118, 3) := by decide +kernel
theorem dX0_costs_12 : decode cX0_costs 12 = .ok (.imul, 1) := by decide +kernel
theorem dX0_costs_13 : decode cX0_costs 13 = .ok (.iconst 5, 1) := by decide +kernel
theorem dX0_costs_14 : decode cX0_costs 14 = .ok (.aload_n 0, 1) := by decide +kernel
theorem dX0_costs_15 : decode cX0_costs 15 = .ok (.iload_n 1, 1) := by decide +kernel
theorem dX0_costs_16 : decode cX0_costs 16 = .ok (.invokevirtual 123, 3) := by decide +kernel
theorem dX0_costs_19 : decode cX0_costs 19 = .ok (.imul, 1) := by decide +kernel
theorem dX0_costs_20 : decode cX0_costs 20 = .ok (.iadd, 1) := by decide +kernel
theorem dX0_costs_21 : decode cX0_costs 21 = .ok (.aload_n 0, 1) := by decide +kernel
theorem dX0_costs_22 : decode cX0_costs 22 = .ok (.iconst 0, 1) := by decide +kernel
theorem dX0_costs_23 : decode cX0_costs 23 = .ok (.iload_n 1, 1) := by decide +kernel
theorem dX0_costs_24 : decode cX0_costs 24 = .ok (.aload_n 2, 1) := by decide +kernel
theorem dX0_costs_25 : decode cX0_costs 25 = .ok (.iload_n 3, 1) := by decide +kernel
theorem dX0_costs_26 : decode cX0_costs 26 = .ok (.invokevirtual 126, 3) := by decide +kernel
theorem dX0_costs_29 : decode cX0_costs 29 = .ok (.iadd, 1) := by decide +kernel
theorem dX0_costs_30 : decode cX0_costs 30 = .ok (.aload_n 0, 1) := by decide +kernel
theorem dX0_costs_31 : decode cX0_costs 31 = .ok (.iconst 1, 1) := by decide +kernel
theorem dX0_costs_32 : decode cX0_costs 32 = .ok (.iload_n 1, 1) := by decide +kernel
theorem dX0_costs_33 : decode cX0_costs 33 = .ok (.aload_n 2, 1) := by decide +kernel
theorem dX0_costs_34 : decode cX0_costs 34 = .ok (.iload_n 3, 1) := by decide +kernel
theorem dX0_costs_35 : decode cX0_costs 35 = .ok (.invokevirtual 126, 3) := by decide +kernel
theorem dX0_costs_38 : decode cX0_costs 38 = .ok (.iadd, 1) := by decide +kernel
theorem dX0_costs_39 : decode cX0_costs 39 = .ok (.ireturn, 1) := by decide +kernel
theorem dX0_countLeftOut_0 : decode cX0_countLeftOut 0 = .ok (.iconst 0, 1) := by decide +kernel
theorem dX0_countLeftOut_1 : decode cX0_countLeftOut 1 = .ok (.istore_n 2, 1) := by decide +kernel
theorem dX0_countLeftOut_2 : decode cX0_countLeftOut 2 = .ok (.iconst 0, 1) := by decide +kernel
theorem dX0_countLeftOut_3 : decode cX0_countLeftOut 3 = .ok (.istore_n 3, 1) := by decide +kernel
theorem dX0_countLeftOut_4 : decode cX0_countLeftOut 4 = .ok (.iload_n 3, 1) := by decide +kernel
theorem dX0_countLeftOut_5 : decode cX0_countLeftOut 5 = .ok (.iconst 4, 1) := by decide +kernel
theorem dX0_countLeftOut_6 : decode cX0_countLeftOut 6 = .ok (.if_icmp .ge 22, 3) := by decide +kernel
theorem dX0_countLeftOut_9 : decode cX0_countLeftOut 9 = .ok (.aload_n 0, 1) := by decide +kernel
theorem dX0_countLeftOut_10 : decode cX0_countLeftOut 10 = .ok (.getfield 18, 3) := by decide +kernel
theorem dX0_countLeftOut_13 : decode cX0_countLeftOut 13 = .ok (.iload_n 3, 1) := by decide +kernel
theorem dX0_countLeftOut_14 : decode cX0_countLeftOut 14 = .ok (.iaload, 1) := by decide +kernel
theorem dX0_countLeftOut_15 : decode cX0_countLeftOut 15 = .ok (.iload_n 1, 1) := by decide +kernel
theorem dX0_countLeftOut_16 : decode cX0_countLeftOut 16 = .ok (.if_icmp .ne 6, 3) := by decide +kernel
theorem dX0_countLeftOut_19 : decode cX0_countLeftOut 19 = .ok (.iinc 2 1, 3) := by decide +kernel
theorem dX0_countLeftOut_22 : decode cX0_countLeftOut 22 = .ok (.iinc 3 1, 3) := by decide +kernel
theorem dX0_countLeftOut_25 : decode cX0_countLeftOut 25 = .ok (.goto (-21), 3) := by decide +kernel
theorem dX0_countLeftOut_28 : decode cX0_countLeftOut 28 = .ok (.iload_n 2, 1) := by decide +kernel
theorem dX0_countLeftOut_29 : decode cX0_countLeftOut 29 = .ok (.ireturn, 1) := by decide +kernel
theorem dX1_init_0 : decode cX1_init 0 = .ok (.aload_n 0, 1) := by decide +kernel
theorem dX1_init_1 : decode cX1_init 1 = .ok (.invokespecial 3, 3) := by decide +kernel
theorem dX1_init_4 : decode cX1_init 4 = .ok (.aload_n 0, 1) := by decide +kernel
theorem dX1_init_5 : decode cX1_init 5 = .ok (.bipush 14, 2) := by decide +kernel
theorem dX1_init_7 : decode cX1_init 7 = .ok (.anewarray 9, 3) := by decide +kernel
theorem dX1_init_10 : decode cX1_init 10 = .ok (.putfield 11, 3) := by decide +kernel
theorem dX1_init_13 : decode cX1_init 13 = .ok (.iconst 0, 1) := by decide +kernel
theorem dX1_init_14 : decode cX1_init 14 = .ok (.istore_n 1, 1) := by decide +kernel
theorem dX1_init_15 : decode cX1_init 15 = .ok (.iload_n 1, 1) := by decide +kernel
theorem dX1_init_16 : decode cX1_init 16 = .ok (.bipush 14, 2) := by decide +kernel
theorem dX1_init_18 : decode cX1_init 18 = .ok (.if_icmp .ge 22, 3) := by decide +kernel
theorem dX1_init_21 : decode cX1_init 21 = .ok (.aload_n 0, 1) := by decide +kernel
theorem dX1_init_22 : decode cX1_init 22 = .ok (.getfield 11, 3) := by decide +kernel
theorem dX1_init_25 : decode cX1_init 25 = .ok (.iload_n 1, 1) := by decide +kernel
theorem dX1_init_26 : decode cX1_init 26 = .ok (.new 9, 3) := by decide +kernel
theorem dX1_init_29 : decode cX1_init 29 = .ok (.dup, 1) := by decide +kernel
theorem dX1_init_30 : decode cX1_init 30 = .ok (.invokespecial 17, 3) := by decide +kernel
theorem dX1_init_33 : decode cX1_init 33 = .ok (.aastore, 1) := by decide +kernel
theorem dX1_init_34 : decode cX1_init 34 = .ok (.iinc 1 1, 3) := by decide +kernel
theorem dX1_init_37 : decode cX1_init 37 = .ok (.goto (-22), 3) := by decide +kernel
theorem dX1_init_40 : decode cX1_init 40 = .ok (.return_, 1) := by decide +kernel
theorem dX1_isEmpty_0 : decode cX1_isEmpty 0 = .ok (.aload_n 0, 1) := by decide +kernel
theorem dX1_isEmpty_1 : decode cX1_isEmpty 1 = .ok (.getfield 18, 3) := by decide +kernel
theorem dX1_isEmpty_4 : decode cX1_isEmpty 4 = .ok (.ifCond .ne 7, 3) := by decide +kernel
theorem dX1_isEmpty_7 : decode cX1_isEmpty 7 = .ok (.iconst 1, 1) := by decide +kernel
theorem dX1_isEmpty_8 : decode cX1_isEmpty 8 = .ok (.goto 4, 3) := by decide +kernel
theorem dX1_isEmpty_11 : decode cX1_isEmpty 11 = .ok (.iconst 0, 1) := by decide +kernel
theorem dX1_isEmpty_12 : decode cX1_isEmpty 12 = .ok (.ireturn, 1) := by decide +kernel
theorem dX1_forget_0 : decode cX1_forget 0 = .ok (.aload_n 0, 1) := by decide +kernel
theorem dX1_forget_1 : decode cX1_forget 1 = .ok (.iconst 0, 1) := by decide +kernel
theorem dX1_forget_2 : decode cX1_forget 2 = .ok (.putfield 18, 3) := by decide +kernel
theorem dX1_forget_5 : decode cX1_forget 5 = .ok (.return_, 1) := by decide +kernel
theorem dX1_remember_0 : decode cX1_remember 0 = .ok (.aload_n 0, 1) := by decide +kernel
theorem dX1_remember_1 : decode cX1_remember 1 = .ok (.getfield 11, 3) := by decide +kernel
theorem dX1_remember_4 : decode cX1_remember 4 = .ok (.aload_n 0, 1) := by decide +kernel
theorem dX1_remember_5 : decode cX1_remember 5 = .ok (.getfield 22, 3) := by decide +kernel
theorem dX1_remember_8 : decode cX1_remember 8 = .ok (.aaload, 1) := by decide +kernel
theorem dX1_remember_9 : decode cX1_remember 9 = .ok (.aload_n 1, 1) := by decide +kernel
theorem dX1_remember_10 : decode cX1_remember 10 = .ok (.invokevirtual 25, 3) := by decide +kernel
theorem dX1_remember_13 : decode cX1_remember 13 = .ok (.aload_n 0, 1) := by decide +kernel
theorem dX1_remember_14 : decode cX1_remember 14 = .ok (.aload_n 0, 1) := by decide +kernel
theorem dX1_remember_15 : decode cX1_remember 15 = .ok (.getfield 22, 3) := by decide +kernel
theorem dX1_remember_18 : decode cX1_remember 18 = .ok (.iconst 1, 1) := by decide +kernel
theorem dX1_remember_19 : decode cX1_remember 19 = .ok (.iadd, 1) := by decide +kernel
theorem dX1_remember_20 : decode cX1_remember 20 = .ok (.bipush 14, 2) := by decide +kernel
theorem dX1_remember_22 : decode cX1_remember 22 = .ok (.irem, 1) := by decide +kernel
theorem dX1_remember_23 : decode cX1_remember 23 = .ok (.putfield 22, 3) := by decide +kernel
theorem dX1_remember_26 : decode cX1_remember 26 = .ok (.aload_n 0, 1) := by decide +kernel
theorem dX1_remember_27 : decode cX1_remember 27 = .ok (.getfield 18, 3) := by decide +kernel
theorem dX1_remember_30 : decode cX1_remember 30 = .ok (.bipush 14, 2) := by decide +kernel
theorem dX1_remember_32 : decode cX1_remember 32 = .ok (.if_icmp .ge 13, 3) := by decide +kernel
theorem dX1_remember_35 : decode cX1_remember 35 = .ok (.aload_n 0, 1) := by decide +kernel
theorem dX1_remember_36 : decode cX1_remember 36 = .ok (.dup, 1) := by decide +kernel
theorem dX1_remember_37 : decode cX1_remember 37 = .ok (.getfield 18, 3) := by decide +kernel
theorem dX1_remember_40 : decode cX1_remember 40 = .ok (.iconst 1, 1) := by decide +kernel
theorem dX1_remember_41 : decode cX1_remember 41 = .ok (.iadd, 1) := by decide +kernel
theorem dX1_remember_42 : decode cX1_remember 42 = .ok (.putfield 18, 3) := by decide +kernel
theorem dX1_remember_45 : decode cX1_remember 45 = .ok (.return_, 1) := by decide +kernel
theorem dX1_takeBack_0 : decode cX1_takeBack 0 = .ok (.aload_n 0, 1) := by decide +kernel
theorem dX1_takeBack_1 : decode cX1_takeBack 1 = .ok (.getfield 18, 3) := by decide +kernel
theorem dX1_takeBack_4 : decode cX1_takeBack 4 = .ok (.ifCond .le 42, 3) := by decide +kernel
theorem dX1_takeBack_7 : decode cX1_takeBack 7 = .ok (.aload_n 0, 1) := by decide +kernel
theorem dX1_takeBack_8 : decode cX1_takeBack 8 = .ok (.aload_n 0, 1) := by decide +kernel
theorem dX1_takeBack_9 : decode cX1_takeBack 9 = .ok (.getfield 22, 3) := by decide +kernel
theorem dX1_takeBack_12 : decode cX1_takeBack 12 = .ok (.bipush 14, 2) := by decide +kernel
theorem dX1_takeBack_14 : decode cX1_takeBack 14 = .ok (.iadd, 1) := by decide +kernel
theorem dX1_takeBack_15 : decode cX1_takeBack 15 = .ok (.iconst 1, 1) := by decide +kernel
theorem dX1_takeBack_16 : decode cX1_takeBack 16 = .ok (.isub, 1) := by decide +kernel
theorem dX1_takeBack_17 : decode cX1_takeBack 17 = .ok (.bipush 14, 2) := by decide +kernel
theorem dX1_takeBack_19 : decode cX1_takeBack 19 = .ok (.irem, 1) := by decide +kernel
theorem dX1_takeBack_20 : decode cX1_takeBack 20 = .ok (.putfield 22, 3) := by decide +kernel
theorem dX1_takeBack_23 : decode cX1_takeBack 23 = .ok (.aload_n 1, 1) := by decide +kernel
theorem dX1_takeBack_24 : decode cX1_takeBack 24 = .ok (.aload_n 0, 1) := by decide +kernel
theorem dX1_takeBack_25 : decode cX1_takeBack 25 = .ok (.getfield 11, 3) := by decide +kernel
theorem dX1_takeBack_28 : decode cX1_takeBack 28 = .ok (.aload_n 0, 1) := by decide +kernel
theorem dX1_takeBack_29 : decode cX1_takeBack 29 = .ok (.getfield 22, 3) := by decide +kernel
theorem dX1_takeBack_32 : decode cX1_takeBack 32 = .ok (.aaload, 1) := by decide +kernel
theorem dX1_takeBack_33 : decode cX1_takeBack 33 = .ok (.invokevirtual 25, 3) := by decide +kernel
theorem dX1_takeBack_36 : decode cX1_takeBack 36 = .ok (.aload_n 0, 1) := by decide +kernel
theorem dX1_takeBack_37 : decode cX1_takeBack 37 = .ok (.dup, 1) := by decide +kernel
theorem dX1_takeBack_38 : decode cX1_takeBack 38 = .ok (.getfield 18, 3) := by decide +kernel
theorem dX1_takeBack_41 : decode cX1_takeBack 41 = .ok (.iconst 1, 1) := by decide +kernel
theorem dX1_takeBack_42 : decode cX1_takeBack 42 = .ok (.isub, 1) := by decide +kernel
theorem dX1_takeBack_43 : decode cX1_takeBack 43 = .ok (.putfield 18, 3) := by decide +kernel
theorem dX1_takeBack_46 : decode cX1_takeBack 46 = .ok (.aload_n 0, 1) := by decide +kernel
theorem dX1_takeBack_47 : decode cX1_takeBack 47 = .ok (.getfield 18, 3) := by decide +kernel
theorem dX1_takeBack_50 : decode cX1_takeBack 50 = .ok (.ireturn, 1) := by decide +kernel
theorem dX2_init_0 : decode cX2_init 0 = .ok (.aload_n 0, 1) := by decide +kernel
theorem dX2_init_1 : decode cX2_init 1 = .ok (.invokespecial 3, 3) := by decide +kernel
theorem dX2_init_4 : decode cX2_init 4 = .ok (.aload_n 0, 1) := by decide +kernel
theorem dX2_init_5 : decode cX2_init 5 = .ok (.bipush 16, 2) := by decide +kernel
theorem dX2_init_7 : decode cX2_init 7 = .ok (.anewarray 9, 3) := by decide +kernel
theorem dX2_init_10 : decode cX2_init 10 = .ok (.putfield 11, 3) := by decide +kernel
theorem dX2_init_13 : decode cX2_init 13 = .ok (.aload_n 0, 1) := by decide +kernel
theorem dX2_init_14 : decode cX2_init 14 = .ok (.new 9, 3) := by decide +kernel
theorem dX2_init_17 : decode cX2_init 17 = .ok (.dup, 1) := by decide +kernel
theorem dX2_init_18 : decode cX2_init 18 = .ok (.invokespecial 17, 3) := by decide +kernel
theorem dX2_init_21 : decode cX2_init 21 = .ok (.putfield 18, 3) := by decide +kernel
theorem dX2_init_24 : decode cX2_init 24 = .ok (.aload_n 0, 1) := by decide +kernel
theorem dX2_init_25 : decode cX2_init 25 = .ok (.bipush 16, 2) := by decide +kernel
theorem dX2_init_27 : decode cX2_init 27 = .ok (.newarray .int, 2) := by decide +kernel
theorem dX2_init_29 : decode cX2_init 29 = .ok (.putfield 22, 3) := by decide +kernel
theorem dX2_init_32 : decode cX2_init 32 = .ok (.aload_n 0, 1) := by decide +kernel
theorem dX2_init_33 : decode cX2_init 33 = .ok (.bipush 16, 2) := by decide +kernel
theorem dX2_init_35 : decode cX2_init 35 = .ok (.iconst 5, 1) := by decide +kernel
theorem dX2_init_36 : decode cX2_init 36 = .ok (.multianewarray 26 2, 4) := by decide +kernel
theorem dX2_init_40 : decode cX2_init 40 = .ok (.putfield 28, 3) := by decide +kernel
theorem dX2_init_43 : decode cX2_init 43 = .ok (.iconst 0, 1) := by decide +kernel
theorem dX2_init_44 : decode cX2_init 44 = .ok (.istore_n 1, 1) := by decide +kernel
theorem dX2_init_45 : decode cX2_init 45 = .ok (.iload_n 1, 1) := by decide +kernel
theorem dX2_init_46 : decode cX2_init 46 = .ok (.bipush 16, 2) := by decide +kernel
theorem dX2_init_48 : decode cX2_init 48 = .ok (.if_icmp .ge 22, 3) := by decide +kernel
theorem dX2_init_51 : decode cX2_init 51 = .ok (.aload_n 0, 1) := by decide +kernel
theorem dX2_init_52 : decode cX2_init 52 = .ok (.getfield 11, 3) := by decide +kernel
theorem dX2_init_55 : decode cX2_init 55 = .ok (.iload_n 1, 1) := by decide +kernel
theorem dX2_init_56 : decode cX2_init 56 = .ok (.new 9, 3) := by decide +kernel
theorem dX2_init_59 : decode cX2_init 59 = .ok (.dup, 1) := by decide +kernel
theorem dX2_init_60 : decode cX2_init 60 = .ok (.invokespecial 17, 3) := by decide +kernel
theorem dX2_init_63 : decode cX2_init 63 = .ok (.aastore, 1) := by decide +kernel
theorem dX2_init_64 : decode cX2_init 64 = .ok (.iinc 1 1, 3) := by decide +kernel
theorem dX2_init_67 : decode cX2_init 67 = .ok (.goto (-22), 3) := by decide +kernel
theorem dX2_init_70 : decode cX2_init 70 = .ok (.return_, 1) := by decide +kernel
theorem dX2_make_0 : decode cX2_make 0 = .ok (.aload_n 0, 1) := by decide +kernel
theorem dX2_make_1 : decode cX2_make 1 = .ok (.aload_n 1, 1) := by decide +kernel
theorem dX2_make_2 : decode cX2_make 2 = .ok (.getfield 31, 3) := by decide +kernel
theorem dX2_make_5 : decode cX2_make 5 = .ok (.putfield 37, 3) := by decide +kernel
theorem dX2_make_8 : decode cX2_make 8 = .ok (.iconst 0, 1) := by decide +kernel
theorem dX2_make_9 : decode cX2_make 9 = .ok (.istore_n 2, 1) := by decide +kernel
theorem dX2_make_10 : decode cX2_make 10 = .ok (.iload_n 2, 1) := by decide +kernel
theorem dX2_make_11 : decode cX2_make 11 = .ok (.aload_n 0, 1) := by decide +kernel
theorem dX2_make_12 : decode cX2_make 12 = .ok (.getfield 37, 3) := by decide +kernel
theorem dX2_make_15 : decode cX2_make 15 = .ok (.if_icmp .ge 20, 3) := by decide +kernel
theorem dX2_make_18 : decode cX2_make 18 = .ok (.aload_n 0, 1) := by decide +kernel
theorem dX2_make_19 : decode cX2_make 19 = .ok (.getfield 11, 3) := by decide +kernel
theorem dX2_make_22 : decode cX2_make 22 = .ok (.iload_n 2, 1) := by decide +kernel
theorem dX2_make_23 : decode cX2_make 23 = .ok (.aaload, 1) := by decide +kernel
theorem dX2_make_24 : decode cX2_make 24 = .ok (.aload_n 1, 1) := by decide +kernel
theorem dX2_make_25 : decode cX2_make 25 = .ok (.iload_n 2, 1) := by decide +kernel
theorem dX2_make_26 : decode cX2_make 26 = .ok (.invokevirtual 38, 3) := by decide +kernel
theorem dX2_make_29 : decode cX2_make 29 = .ok (.iinc 2 1, 3) := by decide +kernel
theorem dX2_make_32 : decode cX2_make 32 = .ok (.goto (-22), 3) := by decide +kernel
theorem dX2_make_35 : decode cX2_make 35 = .ok (.aload_n 0, 1) := by decide +kernel
theorem dX2_make_36 : decode cX2_make 36 = .ok (.aload_n 1, 1) := by decide +kernel
theorem dX2_make_37 : decode cX2_make 37 = .ok (.iconst 5, 1) := by decide +kernel
theorem dX2_make_38 : decode cX2_make 38 = .ok (.invokevirtual 42, 3) := by decide +kernel
theorem dX2_make_41 : decode cX2_make 41 = .ok (.iconst 1, 1) := by decide +kernel
theorem dX2_make_42 : decode cX2_make 42 = .ok (.if_icmp .ne 7, 3) := by decide +kernel
theorem dX2_make_45 : decode cX2_make 45 = .ok (.iconst 1, 1) := by decide +kernel
theorem dX2_make_46 : decode cX2_make 46 = .ok (.goto 4, 3) := by decide +kernel
theorem dX2_make_49 : decode cX2_make 49 = .ok (.iconst 0, 1) := by decide +kernel
theorem dX2_make_50 : decode cX2_make 50 = .ok (.invokevirtual 46, 3) := by decide +kernel
theorem dX2_make_53 : decode cX2_make 53 = .ok (.iconst 0, 1) := by decide +kernel
theorem dX2_make_54 : decode cX2_make 54 = .ok (.istore_n 2, 1) := by decide +kernel
theorem dX2_make_55 : decode cX2_make 55 = .ok (.iload_n 2, 1) := by decide +kernel
theorem dX2_make_56 : decode cX2_make 56 = .ok (.aload_n 0, 1) := by decide +kernel
theorem dX2_make_57 : decode cX2_make 57 = .ok (.getfield 37, 3) := by decide +kernel
theorem dX2_make_60 : decode cX2_make 60 = .ok (.if_icmp .ge 34, 3) := by decide +kernel
theorem dX2_make_63 : decode cX2_make 63 = .ok (.aload_n 0, 1) := by decide +kernel
theorem dX2_make_64 : decode cX2_make 64 = .ok (.getfield 22, 3) := by decide +kernel
theorem dX2_make_67 : decode cX2_make 67 = .ok (.iload_n 2, 1) := by decide +kernel
theorem dX2_make_68 : decode cX2_make 68 = .ok (.aload_n 0, 1) := by decide +kernel
theorem dX2_make_69 : decode cX2_make 69 = .ok (.iload_n 2, 1) := by decide +kernel
theorem dX2_make_70 : decode cX2_make 70 = .ok (.aload_n 0, 1) := by decide +kernel
theorem dX2_make_71 : decode cX2_make 71 = .ok (.iload_n 2, 1) := by decide +kernel
theorem dX2_make_72 : decode cX2_make 72 = .ok (.iconst 1, 1) := by decide +kernel
theorem dX2_make_73 : decode cX2_make 73 = .ok (.isub, 1) := by decide +kernel
theorem dX2_make_74 : decode cX2_make 74 = .ok (.invokevirtual 50, 3) := by decide +kernel
theorem dX2_make_77 : decode cX2_make 77 = .ok (.aload_n 0, 1) := by decide +kernel
theorem dX2_make_78 : decode cX2_make 78 = .ok (.iload_n 2, 1) := by decide +kernel
theorem dX2_make_79 : decode cX2_make 79 = .ok (.iconst 1, 1) := by decide +kernel
theorem dX2_make_80 : decode cX2_make 80 = .ok (.isub, 1) := by decide +kernel
theorem dX2_make_81 : decode cX2_make 81 = .ok (.invokevirtual 54, 3) := by decide +kernel
theorem dX2_make_84 : decode cX2_make 84 = .ok (.invokevirtual 57, 3) := by decide +kernel
theorem dX2_make_87 : decode cX2_make 87 = .ok (.iastore, 1) := by decide +kernel
theorem dX2_make_88 : decode cX2_make 88 = .ok (.iinc 2 1, 3) := by decide +kernel
theorem dX2_make_91 : decode cX2_make 91 = .ok (.goto (-36), 3) := by decide +kernel
theorem dX2_make_94 : decode cX2_make 94 = .ok (.return_, 1) := by decide +kernel
theorem dX2_lookAhead_0 : decode cX2_lookAhead 0 = .ok (.aload_n 0, 1) := by decide +kernel
theorem dX2_lookAhead_1 : decode cX2_lookAhead 1 = .ok (.getfield 37, 3) := by decide +kernel
theorem dX2_lookAhead_4 : decode cX2_lookAhead 4 = .ok (.iconst 1, 1) := by decide +kernel
theorem dX2_lookAhead_5 : decode cX2_lookAhead 5 = .ok (.isub, 1) := by decide +kernel
theorem dX2_lookAhead_6 : decode cX2_lookAhead 6 = .ok (.istore_n 2, 1) := by decide +kernel
theorem dX2_lookAhead_7 : decode cX2_lookAhead 7 = .ok (.iload_n 2, 1) := by decide +kernel
theorem dX2_lookAhead_8 : decode cX2_lookAhead 8 = .ok (.ifCond .lt 111, 3) := by decide +kernel
theorem dX2_lookAhead_11 : decode cX2_lookAhead 11 = .ok (.aload_n 0, 1) := by decide +kernel
theorem dX2_lookAhead_12 : decode cX2_lookAhead 12 = .ok (.iload_n 2, 1) := by decide +kernel
theorem dX2_lookAhead_13 : decode cX2_lookAhead 13 = .ok (.invokevirtual 50, 3) := by decide +kernel
theorem dX2_lookAhead_16 : decode cX2_lookAhead 16 = .ok (.astore_n 3, 1) := by decide +kernel
theorem dX2_lookAhead_17 : decode cX2_lookAhead 17 = .ok (.iconst 0, 1) := by decide +kernel
theorem dX2_lookAhead_18 : decode cX2_lookAhead 18 = .ok (.istore 4, 2) := by decide +kernel
theorem dX2_lookAhead_20 : decode cX2_lookAhead 20 = .ok (.iload 4, 2) := by decide +kernel
theorem dX2_lookAhead_22 : decode cX2_lookAhead 22 = .ok (.iconst 5, 1) := by decide +kernel
theorem dX2_lookAhead_23 : decode cX2_lookAhead 23 = .ok (.if_icmp .ge 90, 3) := by decide +kernel
theorem dX2_lookAhead_26 : decode cX2_lookAhead 26 = .ok (.aload_n 0, 1) := by decide +kernel
theorem dX2_lookAhead_27 : decode cX2_lookAhead 27 = .ok (.getfield 28, 3) := by decide +kernel
theorem dX2_lookAhead_30 : decode cX2_lookAhead 30 = .ok (.iload_n 2, 1) := by decide +kernel
theorem dX2_lookAhead_31 : decode cX2_lookAhead 31 = .ok (.aaload, 1) := by decide +kernel
theorem dX2_lookAhead_32 : decode cX2_lookAhead 32 = .ok (.iload 4, 2) := by decide +kernel
theorem dX2_lookAhead_34 : decode cX2_lookAhead 34 = .ok (.iconst 0, 1) := by decide +kernel
theorem dX2_lookAhead_35 : decode cX2_lookAhead 35 = .ok (.iastore, 1) := by decide +kernel
theorem dX2_lookAhead_36 : decode cX2_lookAhead 36 = .ok (.iload_n 1, 1) := by decide +kernel
theorem dX2_lookAhead_37 : decode cX2_lookAhead 37 = .ok (.ifCond .eq 70, 3) := by decide +kernel
theorem dX2_lookAhead_40 : decode cX2_lookAhead 40 = .ok (.iload_n 2, 1) := by decide +kernel
theorem dX2_lookAhead_41 : decode cX2_lookAhead 41 = .ok (.aload_n 0, 1) := by decide +kernel
theorem dX2_lookAhead_42 : decode cX2_lookAhead 42 = .ok (.getfield 37, 3) := by decide +kernel
theorem dX2_lookAhead_45 : decode cX2_lookAhead 45 = .ok (.iconst 1, 1) := by decide +kernel
theorem dX2_lookAhead_46 : decode cX2_lookAhead 46 = .ok (.isub, 1) := by decide +kernel
theorem dX2_lookAhead_47 : decode cX2_lookAhead 47 = .ok (.if_icmp .ge 60, 3) := by decide +kernel
theorem dX2_lookAhead_50 : decode cX2_lookAhead 50 = .ok (.aload_n 3, 1) := by decide +kernel
theorem dX2_lookAhead_51 : decode cX2_lookAhead 51 = .ok (.iload 4, 2) := by decide +kernel
theorem dX2_lookAhead_53 : decode cX2_lookAhead 53 = .ok (.invokevirtual 61, 3) := by decide +kernel
theorem dX2_lookAhead_56 : decode cX2_lookAhead 56 = .ok (.ifCond .eq 51, 3) := by decide +kernel
theorem dX2_lookAhead_59 : decode cX2_lookAhead 59 = .ok (.aload_n 0, 1) := by decide +kernel
theorem dX2_lookAhead_60 : decode cX2_lookAhead 60 = .ok (.iload_n 2, 1) := by decide +kernel
theorem dX2_lookAhead_61 : decode cX2_lookAhead 61 = .ok (.iconst 1, 1) := by decide +kernel
theorem dX2_lookAhead_62 : decode cX2_lookAhead 62 = .ok (.iadd, 1) := by decide +kernel
theorem dX2_lookAhead_63 : decode cX2_lookAhead 63 = .ok (.aload_n 3, 1) := by decide +kernel
theorem dX2_lookAhead_64 : decode cX2_lookAhead 64 = .ok (.iload 4, 2) := by decide +kernel
theorem dX2_lookAhead_66 : decode cX2_lookAhead 66 = .ok (.invokevirtual 57, 3) := by decide +kernel
theorem dX2_lookAhead_69 : decode cX2_lookAhead 69 = .ok (.istore 5, 2) := by decide +kernel
theorem dX2_lookAhead_71 : decode cX2_lookAhead 71 = .ok (.aload_n 0, 1) := by decide +kernel
theorem dX2_lookAhead_72 : decode cX2_lookAhead 72 = .ok (.getfield 28, 3) := by decide +kernel
theorem dX2_lookAhead_75 : decode cX2_lookAhead 75 = .ok (.iload_n 2, 1) := by decide +kernel
theorem dX2_lookAhead_76 : decode cX2_lookAhead 76 = .ok (.aaload, 1) := by decide +kernel
theorem dX2_lookAhead_77 : decode cX2_lookAhead 77 = .ok (.iload 4, 2) := by decide +kernel
theorem dX2_lookAhead_79 : decode cX2_lookAhead 79 = .ok (.aload_n 0, 1) := by decide +kernel
theorem dX2_lookAhead_80 : decode cX2_lookAhead 80 = .ok (.iload_n 2, 1) := by decide +kernel
theorem dX2_lookAhead_81 : decode cX2_lookAhead 81 = .ok (.iconst 1, 1) := by decide +kernel
theorem dX2_lookAhead_82 : decode cX2_lookAhead 82 = .ok (.iadd, 1) := by decide +kernel
theorem dX2_lookAhead_83 : decode cX2_lookAhead 83 = .ok (.invokevirtual 50, 3) := by decide +kernel
theorem dX2_lookAhead_86 : decode cX2_lookAhead 86 = .ok (.iload 5, 2) := by decide +kernel
theorem dX2_lookAhead_88 : decode cX2_lookAhead 88 = .ok (.aload_n 3, 1) := by decide +kernel
theorem dX2_lookAhead_89 : decode cX2_lookAhead 89 = .ok (.iload 4, 2) := by decide +kernel
theorem dX2_lookAhead_91 : decode cX2_lookAhead 91 = .ok (.invokevirtual 65, 3) := by decide +kernel
theorem dX2_lookAhead_94 : decode cX2_lookAhead 94 = .ok (.aload_n 0, 1) := by decide +kernel
theorem dX2_lookAhead_95 : decode cX2_lookAhead 95 = .ok (.getfield 28, 3) := by decide +kernel
theorem dX2_lookAhead_98 : decode cX2_lookAhead 98 = .ok (.iload_n 2, 1) := by decide +kernel
theorem dX2_lookAhead_99 : decode cX2_lookAhead 99 = .ok (.iconst 1, 1) := by decide +kernel
theorem dX2_lookAhead_100 : decode cX2_lookAhead 100 = .ok (.iadd, 1) := by decide +kernel
theorem dX2_lookAhead_101 : decode cX2_lookAhead 101 = .ok (.aaload, 1) := by decide +kernel
theorem dX2_lookAhead_102 : decode cX2_lookAhead 102 = .ok (.iload 5, 2) := by decide +kernel
theorem dX2_lookAhead_104 : decode cX2_lookAhead 104 = .ok (.iaload, 1) := by decide +kernel
theorem dX2_lookAhead_105 : decode cX2_lookAhead 105 = .ok (.iadd, 1) := by decide +kernel
theorem dX2_lookAhead_106 : decode cX2_lookAhead 106 = .ok (.iastore, 1) := by decide +kernel
theorem dX2_lookAhead_107 : decode cX2_lookAhead 107 = .ok (.iinc 4 1, 3) := by decide +kernel
theorem dX2_lookAhead_110 : decode cX2_lookAhead 110 = .ok (.goto (-90), 3) := by decide +kernel
theorem dX2_lookAhead_113 : decode cX2_lookAhead 113 = .ok (.iinc 2 (-1), 3) := by decide +kernel
theorem dX2_lookAhead_116 : decode cX2_lookAhead 116 = .ok (.goto (-109), 3) := by decide +kernel
theorem dX2_lookAhead_119 : decode cX2_lookAhead 119 = .ok (.return_, 1) := by decide +kernel
theorem dX2_bestSplit_0 : decode cX2_bestSplit 0 = .ok (.aload_n 0, 1) := by decide +kernel
theorem dX2_bestSplit_1 : decode cX2_bestSplit 1 = .ok (.iload_n 1, 1) := by decide +kernel
theorem dX2_bestSplit_2 : decode cX2_bestSplit 2 = .ok (.invokevirtual 50, 3) := by decide +kernel
theorem dX2_bestSplit_5 : decode cX2_bestSplit 5 = .ok (.astore 4, 2) := by decide +kernel
theorem dX2_bestSplit_7 : decode cX2_bestSplit 7 = .ok (.iconst 0, 1) := by decide +kernel
theorem dX2_bestSplit_8 : decode cX2_bestSplit 8 = .ok (.istore 5, 2) := by decide +kernel
theorem dX2_bestSplit_10 : decode cX2_bestSplit 10 = .ok (.ldc 68, 2) := by decide +kernel
theorem dX2_bestSplit_12 : decode cX2_bestSplit 12 = .ok (.istore 6, 2) := by decide +kernel
theorem dX2_bestSplit_14 : decode cX2_bestSplit 14 = .ok (.iconst 0, 1) := by decide +kernel
theorem dX2_bestSplit_15 : decode cX2_bestSplit 15 = .ok (.istore 7, 2) := by decide +kernel
theorem dX2_bestSplit_17 : decode cX2_bestSplit 17 = .ok (.iload 7, 2) := by decide +kernel
theorem dX2_bestSplit_19 : decode cX2_bestSplit 19 = .ok (.iconst 5, 1) := by decide +kernel
theorem dX2_bestSplit_20 : decode cX2_bestSplit 20 = .ok (.if_icmp .ge 55, 3) := by decide +kernel
theorem dX2_bestSplit_23 : decode cX2_bestSplit 23 = .ok (.aload 4, 2) := by decide +kernel
theorem dX2_bestSplit_25 : decode cX2_bestSplit 25 = .ok (.iload 7, 2) := by decide +kernel
theorem dX2_bestSplit_27 : decode cX2_bestSplit 27 = .ok (.invokevirtual 61, 3) := by decide +kernel
theorem dX2_bestSplit_30 : decode cX2_bestSplit 30 = .ok (.ifCond .eq 39, 3) := by decide +kernel
theorem dX2_bestSplit_33 : decode cX2_bestSplit 33 = .ok (.aload 4, 2) := by decide +kernel
theorem dX2_bestSplit_35 : decode cX2_bestSplit 35 = .ok (.iload 7, 2) := by decide +kernel
theorem dX2_bestSplit_37 : decode cX2_bestSplit 37 = .ok (.aload_n 2, 1) := by decide +kernel
theorem dX2_bestSplit_38 : decode cX2_bestSplit 38 = .ok (.iload_n 3, 1) := by decide +kernel
theorem dX2_bestSplit_39 : decode cX2_bestSplit 39 = .ok (.invokevirtual 65, 3) := by decide +kernel
theorem dX2_bestSplit_42 : decode cX2_bestSplit 42 = .ok (.aload_n 0, 1) := by decide +kernel
theorem dX2_bestSplit_43 : decode cX2_bestSplit 43 = .ok (.getfield 28, 3) := by decide +kernel
theorem dX2_bestSplit_46 : decode cX2_bestSplit 46 = .ok (.iload_n 1, 1) := by decide +kernel
theorem dX2_bestSplit_47 : decode cX2_bestSplit 47 = .ok (.aaload, 1) := by decide +kernel
theorem dX2_bestSplit_48 : decode cX2_bestSplit 48 = .ok (.iload 7, 2) := by decide +kernel
theorem dX2_bestSplit_50 : decode cX2_bestSplit 50 = .ok (.iaload, 1) := by decide +kernel
theorem dX2_bestSplit_51 : decode cX2_bestSplit 51 = .ok (.iadd, 1) := by decide +kernel
theorem dX2_bestSplit_52 : decode cX2_bestSplit 52 = .ok (.istore 8, 2) := by decide +kernel
theorem dX2_bestSplit_54 : decode cX2_bestSplit 54 = .ok (.iload 8, 2) := by decide +kernel
theorem dX2_bestSplit_56 : decode cX2_bestSplit 56 = .ok (.iload 6, 2) := by decide +kernel
theorem dX2_bestSplit_58 : decode cX2_bestSplit 58 = .ok (.if_icmp .ge 11, 3) := by decide +kernel
theorem dX2_bestSplit_61 : decode cX2_bestSplit 61 = .ok (.iload 8, 2) := by decide +kernel
theorem dX2_bestSplit_63 : decode cX2_bestSplit 63 = .ok (.istore 6, 2) := by decide +kernel
theorem dX2_bestSplit_65 : decode cX2_bestSplit 65 = .ok (.iload 7, 2) := by decide +kernel
theorem dX2_bestSplit_67 : decode cX2_bestSplit 67 = .ok (.istore 5, 2) := by decide +kernel
theorem dX2_bestSplit_69 : decode cX2_bestSplit 69 = .ok (.iinc 7 1, 3) := by decide +kernel
theorem dX2_bestSplit_72 : decode cX2_bestSplit 72 = .ok (.goto (-55), 3) := by decide +kernel
theorem dX2_bestSplit_75 : decode cX2_bestSplit 75 = .ok (.iload 5, 2) := by decide +kernel
theorem dX2_bestSplit_77 : decode cX2_bestSplit 77 = .ok (.ireturn, 1) := by decide +kernel
theorem dX2_chordAt_0 : decode cX2_chordAt 0 = .ok (.iload_n 1, 1) := by decide +kernel
theorem dX2_chordAt_1 : decode cX2_chordAt 1 = .ok (.ifCond .lt 20, 3) := by decide +kernel
theorem dX2_chordAt_4 : decode cX2_chordAt 4 = .ok (.iload_n 1, 1) := by decide +kernel
theorem dX2_chordAt_5 : decode cX2_chordAt 5 = .ok (.aload_n 0, 1) := by decide +kernel
theorem dX2_chordAt_6 : decode cX2_chordAt 6 = .ok (.getfield 37, 3) := by decide +kernel
theorem dX2_chordAt_9 : decode cX2_chordAt 9 = .ok (.if_icmp .ge 12, 3) := by decide +kernel
theorem dX2_chordAt_12 : decode cX2_chordAt 12 = .ok (.aload_n 0, 1) := by decide +kernel
theorem dX2_chordAt_13 : decode cX2_chordAt 13 = .ok (.getfield 11, 3) := by decide +kernel
theorem dX2_chordAt_16 : decode cX2_chordAt 16 = .ok (.iload_n 1, 1) := by decide +kernel
theorem dX2_chordAt_17 : decode cX2_chordAt 17 = .ok (.aaload, 1) := by decide +kernel
theorem dX2_chordAt_18 : decode cX2_chordAt 18 = .ok (.goto 7, 3) := by decide +kernel
theorem dX2_chordAt_21 : decode cX2_chordAt 21 = .ok (.aload_n 0, 1) := by decide +kernel
theorem dX2_chordAt_22 : decode cX2_chordAt 22 = .ok (.getfield 18, 3) := by decide +kernel
theorem dX2_chordAt_25 : decode cX2_chordAt 25 = .ok (.areturn, 1) := by decide +kernel
theorem dX2_splitAt_0 : decode cX2_splitAt 0 = .ok (.iload_n 1, 1) := by decide +kernel
theorem dX2_splitAt_1 : decode cX2_splitAt 1 = .ok (.ifCond .lt 20, 3) := by decide +kernel
theorem dX2_splitAt_4 : decode cX2_splitAt 4 = .ok (.iload_n 1, 1) := by decide +kernel
theorem dX2_splitAt_5 : decode cX2_splitAt 5 = .ok (.aload_n 0, 1) := by decide +kernel
theorem dX2_splitAt_6 : decode cX2_splitAt 6 = .ok (.getfield 37, 3) := by decide +kernel
theorem dX2_splitAt_9 : decode cX2_splitAt 9 = .ok (.if_icmp .ge 12, 3) := by decide +kernel
theorem dX2_splitAt_12 : decode cX2_splitAt 12 = .ok (.aload_n 0, 1) := by decide +kernel
theorem dX2_splitAt_13 : decode cX2_splitAt 13 = .ok (.getfield 22, 3) := by decide +kernel
theorem dX2_splitAt_16 : decode cX2_splitAt 16 = .ok (.iload_n 1, 1) := by decide +kernel
theorem dX2_splitAt_17 : decode cX2_splitAt 17 = .ok (.iaload, 1) := by decide +kernel
theorem dX2_splitAt_18 : decode cX2_splitAt 18 = .ok (.goto 4, 3) := by decide +kernel
theorem dX2_splitAt_21 : decode cX2_splitAt 21 = .ok (.iconst 0, 1) := by decide +kernel
theorem dX2_splitAt_22 : decode cX2_splitAt 22 = .ok (.ireturn, 1) := by decide +kernel
theorem dX2_cutStaves_0 : decode cX2_cutStaves 0 = .ok (.aload_n 0, 1) := by decide +kernel
theorem dX2_cutStaves_1 : decode cX2_cutStaves 1 = .ok (.iload_n 1, 1) := by decide +kernel
theorem dX2_cutStaves_2 : decode cX2_cutStaves 2 = .ok (.invokevirtual 50, 3) := by decide +kernel
theorem dX2_cutStaves_5 : decode cX2_cutStaves 5 = .ok (.aload_n 0, 1) := by decide +kernel
theorem dX2_cutStaves_6 : decode cX2_cutStaves 6 = .ok (.iload_n 1, 1) := by decide +kernel
theorem dX2_cutStaves_7 : decode cX2_cutStaves 7 = .ok (.invokevirtual 54, 3) := by decide +kernel
theorem dX2_cutStaves_10 : decode cX2_cutStaves 10 = .ok (.aload_n 0, 1) := by decide +kernel
theorem dX2_cutStaves_11 : decode cX2_cutStaves 11 = .ok (.iload_n 1, 1) := by decide +kernel
theorem dX2_cutStaves_12 : decode cX2_cutStaves 12 = .ok (.iconst 1, 1) := by decide +kernel
theorem dX2_cutStaves_13 : decode cX2_cutStaves 13 = .ok (.isub, 1) := by decide +kernel
theorem dX2_cutStaves_14 : decode cX2_cutStaves 14 = .ok (.invokevirtual 50, 3) := by decide +kernel
theorem dX2_cutStaves_17 : decode cX2_cutStaves 17 = .ok (.aload_n 0, 1) := by decide +kernel
theorem dX2_cutStaves_18 : decode cX2_cutStaves 18 = .ok (.iload_n 1, 1) := by decide +kernel
theorem dX2_cutStaves_19 : decode cX2_cutStaves 19 = .ok (.iconst 1, 1) := by decide +kernel
theorem dX2_cutStaves_20 : decode cX2_cutStaves 20 = .ok (.isub, 1) := by decide +kernel
theorem dX2_cutStaves_21 : decode cX2_cutStaves 21 = .ok (.invokevirtual 54, 3) := by decide +kernel
theorem dX2_cutStaves_24 : decode cX2_cutStaves 24 = .ok (.invokevirtual 69, 3) := by decide +kernel
theorem dX2_cutStaves_27 : decode cX2_cutStaves 27 = .ok (.ireturn, 1) := by decide +kernel
theorem dX2_move_0 : decode cX2_move 0 = .ok (.aload_n 0, 1) := by decide +kernel
theorem dX2_move_1 : decode cX2_move 1 = .ok (.iload_n 2, 1) := by decide +kernel
theorem dX2_move_2 : decode cX2_move 2 = .ok (.invokevirtual 50, 3) := by decide +kernel
theorem dX2_move_5 : decode cX2_move 5 = .ok (.iload_n 1, 1) := by decide +kernel
theorem dX2_move_6 : decode cX2_move 6 = .ok (.aload_n 0, 1) := by decide +kernel
theorem dX2_move_7 : decode cX2_move 7 = .ok (.iload_n 2, 1) := by decide +kernel
theorem dX2_move_8 : decode cX2_move 8 = .ok (.invokevirtual 54, 3) := by decide +kernel
theorem dX2_move_11 : decode cX2_move 11 = .ok (.aload_n 0, 1) := by decide +kernel
theorem dX2_move_12 : decode cX2_move 12 = .ok (.iload_n 2, 1) := by decide +kernel
theorem dX2_move_13 : decode cX2_move 13 = .ok (.iconst 1, 1) := by decide +kernel
theorem dX2_move_14 : decode cX2_move 14 = .ok (.isub, 1) := by decide +kernel
theorem dX2_move_15 : decode cX2_move 15 = .ok (.invokevirtual 50, 3) := by decide +kernel
theorem dX2_move_18 : decode cX2_move 18 = .ok (.aload_n 0, 1) := by decide +kernel
theorem dX2_move_19 : decode cX2_move 19 = .ok (.iload_n 2, 1) := by decide +kernel
theorem dX2_move_20 : decode cX2_move 20 = .ok (.iconst 1, 1) := by decide +kernel
theorem dX2_move_21 : decode cX2_move 21 = .ok (.isub, 1) := by decide +kernel
theorem dX2_move_22 : decode cX2_move 22 = .ok (.invokevirtual 54, 3) := by decide +kernel
theorem dX2_move_25 : decode cX2_move 25 = .ok (.invokevirtual 72, 3) := by decide +kernel
theorem dX2_move_28 : decode cX2_move 28 = .ok (.ireturn, 1) := by decide +kernel
theorem dX2_costs_0 : decode cX2_costs 0 = .ok (.aload_n 0, 1) := by decide +kernel
theorem dX2_costs_1 : decode cX2_costs 1 = .ok (.iload_n 1, 1) := by decide +kernel
theorem dX2_costs_2 : decode cX2_costs 2 = .ok (.invokevirtual 50, 3) := by decide +kernel
theorem dX2_costs_5 : decode cX2_costs 5 = .ok (.aload_n 0, 1) := by decide +kernel
theorem dX2_costs_6 : decode cX2_costs 6 = .ok (.iload_n 1, 1) := by decide +kernel
theorem dX2_costs_7 : decode cX2_costs 7 = .ok (.invokevirtual 54, 3) := by decide +kernel
theorem dX2_costs_10 : decode cX2_costs 10 = .ok (.aload_n 0, 1) := by decide +kernel
theorem dX2_costs_11 : decode cX2_costs 11 = .ok (.iload_n 1, 1) := by decide +kernel
theorem dX2_costs_12 : decode cX2_costs 12 = .ok (.iconst 1, 1) := by decide +kernel
theorem dX2_costs_13 : decode cX2_costs 13 = .ok (.isub, 1) := by decide +kernel
theorem dX2_costs_14 : decode cX2_costs 14 = .ok (.invokevirtual 50, 3) := by decide +kernel
theorem dX2_costs_17 : decode cX2_costs 17 = .ok (.aload_n 0, 1) := by decide +kernel
theorem dX2_costs_18 : decode cX2_costs 18 = .ok (.iload_n 1, 1) := by decide +kernel
theorem dX2_costs_19 : decode cX2_costs 19 = .ok (.iconst 1, 1) := by decide +kernel
theorem dX2_costs_20 : decode cX2_costs 20 = .ok (.isub, 1) := by decide +kernel
theorem dX2_costs_21 : decode cX2_costs 21 = .ok (.invokevirtual 54, 3) := by decide +kernel
theorem dX2_costs_24 : decode cX2_costs 24 = .ok (.invokevirtual 65, 3) := by decide +kernel
theorem dX2_costs_27 : decode cX2_costs 27 = .ok (.ireturn, 1) := by decide +kernel
theorem dX2_numberOfNote_0 : decode cX2_numberOfNote 0 = .ok (.aload_n 0, 1) := by decide +kernel
theorem dX2_numberOfNote_1 : decode cX2_numberOfNote 1 = .ok (.iload_n 2, 1) := by decide +kernel
theorem dX2_numberOfNote_2 : decode cX2_numberOfNote 2 = .ok (.invokevirtual 50, 3) := by decide +kernel
theorem dX2_numberOfNote_5 : decode cX2_numberOfNote 5 = .ok (.astore 4, 2) := by decide +kernel
theorem dX2_numberOfNote_7 : decode cX2_numberOfNote 7 = .ok (.aload 4, 2) := by decide +kernel
theorem dX2_numberOfNote_9 : decode cX2_numberOfNote 9 = .ok (.getfield 76, 3) := by decide +kernel
theorem dX2_numberOfNote_12 : decode cX2_numberOfNote 12 = .ok (.iload_n 1, 1) := by decide +kernel
theorem dX2_numberOfNote_13 : decode cX2_numberOfNote 13 = .ok (.iaload, 1) := by decide +kernel
theorem dX2_numberOfNote_14 : decode cX2_numberOfNote 14 = .ok (.istore 5, 2) := by decide +kernel
theorem dX2_numberOfNote_16 : decode cX2_numberOfNote 16 = .ok (.iload 5, 2) := by decide +kernel
theorem dX2_numberOfNote_18 : decode cX2_numberOfNote 18 = .ok (.bipush (-9), 2) := by decide +kernel
theorem dX2_numberOfNote_20 : decode cX2_numberOfNote 20 = .ok (.if_icmp .eq 8, 3) := by decide +kernel
theorem dX2_numberOfNote_23 : decode cX2_numberOfNote 23 = .ok (.iload_n 3, 1) := by decide +kernel
theorem dX2_numberOfNote_24 : decode cX2_numberOfNote 24 = .ok (.iconst 1, 1) := by decide +kernel
theorem dX2_numberOfNote_25 : decode cX2_numberOfNote 25 = .ok (.if_icmp .ne 6, 3) := by decide +kernel
theorem dX2_numberOfNote_28 : decode cX2_numberOfNote 28 = .ok (.iload 5, 2) := by decide +kernel
theorem dX2_numberOfNote_30 : decode cX2_numberOfNote 30 = .ok (.ireturn, 1) := by decide +kernel
theorem dX2_numberOfNote_31 : decode cX2_numberOfNote 31 = .ok (.aload_n 0, 1) := by decide +kernel
theorem dX2_numberOfNote_32 : decode cX2_numberOfNote 32 = .ok (.iload_n 2, 1) := by decide +kernel
theorem dX2_numberOfNote_33 : decode cX2_numberOfNote 33 = .ok (.invokevirtual 79, 3) := by decide +kernel
theorem dX2_numberOfNote_36 : decode cX2_numberOfNote 36 = .ok (.iload_n 1, 1) := by decide +kernel
theorem dX2_numberOfNote_37 : decode cX2_numberOfNote 37 = .ok (.ishr, 1) := by decide +kernel
theorem dX2_numberOfNote_38 : decode cX2_numberOfNote 38 = .ok (.iconst 1, 1) := by decide +kernel
theorem dX2_numberOfNote_39 : decode cX2_numberOfNote 39 = .ok (.iand, 1) := by decide +kernel
theorem dX2_numberOfNote_40 : decode cX2_numberOfNote 40 = .ok (.iconst 1, 1) := by decide +kernel
theorem dX2_numberOfNote_41 : decode cX2_numberOfNote 41 = .ok (.if_icmp .ne 7, 3) := by decide +kernel
theorem dX2_numberOfNote_44 : decode cX2_numberOfNote 44 = .ok (.iconst 1, 1) := by decide +kernel
theorem dX2_numberOfNote_45 : decode cX2_numberOfNote 45 = .ok (.goto 4, 3) := by decide +kernel
theorem dX2_numberOfNote_48 : decode cX2_numberOfNote 48 = .ok (.iconst 0, 1) := by decide +kernel
theorem dX2_numberOfNote_49 : decode cX2_numberOfNote 49 = .ok (.istore 6, 2) := by decide +kernel
theorem dX2_numberOfNote_51 : decode cX2_numberOfNote 51 = .ok (.iload_n 3, 1) := by decide +kernel
theorem dX2_numberOfNote_52 : decode cX2_numberOfNote 52 = .ok (.iconst 3, 1) := by decide +kernel
theorem dX2_numberOfNote_53 : decode cX2_numberOfNote 53 = .ok (.if_icmp .ne 14, 3) := by decide +kernel
theorem dX2_numberOfNote_56 : decode cX2_numberOfNote 56 = .ok (.iload 6, 2) := by decide +kernel
theorem dX2_numberOfNote_58 : decode cX2_numberOfNote 58 = .ok (.ifCond .eq 7, 3) := by decide +kernel
theorem dX2_numberOfNote_61 : decode cX2_numberOfNote 61 = .ok (.iconst 1, 1) := by decide +kernel
theorem dX2_numberOfNote_62 : decode cX2_numberOfNote 62 = .ok (.goto 4, 3) := by decide +kernel
theorem dX2_numberOfNote_65 : decode cX2_numberOfNote 65 = .ok (.iconst 0, 1) := by decide +kernel
theorem dX2_numberOfNote_66 : decode cX2_numberOfNote 66 = .ok (.ireturn, 1) := by decide +kernel
theorem dX2_numberOfNote_67 : decode cX2_numberOfNote 67 = .ok (.iload 5, 2) := by decide +kernel
theorem dX2_numberOfNote_69 : decode cX2_numberOfNote 69 = .ok (.ifCond .eq 6, 3) := by decide +kernel
theorem dX2_numberOfNote_72 : decode cX2_numberOfNote 72 = .ok (.bipush (-9), 2) := by decide +kernel
theorem dX2_numberOfNote_74 : decode cX2_numberOfNote 74 = .ok (.ireturn, 1) := by decide +kernel
theorem dX2_numberOfNote_75 : decode cX2_numberOfNote 75 = .ok (.iload_n 3, 1) := by decide +kernel
theorem dX2_numberOfNote_76 : decode cX2_numberOfNote 76 = .ok (.iconst 2, 1) := by decide +kernel
theorem dX2_numberOfNote_77 : decode cX2_numberOfNote 77 = .ok (.if_icmp .ne 39, 3) := by decide +kernel
theorem dX2_numberOfNote_80 : decode cX2_numberOfNote 80 = .ok (.aload 4, 2) := by decide +kernel
theorem dX2_numberOfNote_82 : decode cX2_numberOfNote 82 = .ok (.getfield 81, 3) := by decide +kernel
theorem dX2_numberOfNote_85 : decode cX2_numberOfNote 85 = .ok (.iload_n 1, 1) := by decide +kernel
theorem dX2_numberOfNote_86 : decode cX2_numberOfNote 86 = .ok (.ishr, 1) := by decide +kernel
theorem dX2_numberOfNote_87 : decode cX2_numberOfNote 87 = .ok (.iconst 1, 1) := by decide +kernel
theorem dX2_numberOfNote_88 : decode cX2_numberOfNote 88 = .ok (.iand, 1) := by decide +kernel
theorem dX2_numberOfNote_89 : decode cX2_numberOfNote 89 = .ok (.iconst 1, 1) := by decide +kernel
theorem dX2_numberOfNote_90 : decode cX2_numberOfNote 90 = .ok (.if_icmp .ne 7, 3) := by decide +kernel
theorem dX2_numberOfNote_93 : decode cX2_numberOfNote 93 = .ok (.iconst 1, 1) := by decide +kernel
theorem dX2_numberOfNote_94 : decode cX2_numberOfNote 94 = .ok (.goto 4, 3) := by decide +kernel
theorem dX2_numberOfNote_97 : decode cX2_numberOfNote 97 = .ok (.iconst 0, 1) := by decide +kernel
theorem dX2_numberOfNote_98 : decode cX2_numberOfNote 98 = .ok (.istore 7, 2) := by decide +kernel
theorem dX2_numberOfNote_100 : decode cX2_numberOfNote 100 = .ok (.iload 7, 2) := by decide +kernel
theorem dX2_numberOfNote_102 : decode cX2_numberOfNote 102 = .ok (.ifCond .eq 12, 3) := by decide +kernel
theorem dX2_numberOfNote_105 : decode cX2_numberOfNote 105 = .ok (.iload 6, 2) := by decide +kernel
theorem dX2_numberOfNote_107 : decode cX2_numberOfNote 107 = .ok (.ifCond .ne 7, 3) := by decide +kernel
theorem dX2_numberOfNote_110 : decode cX2_numberOfNote 110 = .ok (.iconst 0, 1) := by decide +kernel
theorem dX2_numberOfNote_111 : decode cX2_numberOfNote 111 = .ok (.goto 4, 3) := by decide +kernel
theorem dX2_numberOfNote_114 : decode cX2_numberOfNote 114 = .ok (.iconst 1, 1) := by decide +kernel
theorem dX2_numberOfNote_115 : decode cX2_numberOfNote 115 = .ok (.ireturn, 1) := by decide +kernel
theorem dX2_numberOfNote_116 : decode cX2_numberOfNote 116 = .ok (.aload 4, 2) := by decide +kernel
theorem dX2_numberOfNote_118 : decode cX2_numberOfNote 118 = .ok (.iconst 0, 1) := by decide +kernel
theorem dX2_numberOfNote_119 : decode cX2_numberOfNote 119 = .ok (.aload_n 0, 1) := by decide +kernel
theorem dX2_numberOfNote_120 : decode cX2_numberOfNote 120 = .ok (.iload_n 2, 1) := by decide +kernel
theorem dX2_numberOfNote_121 : decode cX2_numberOfNote 121 = .ok (.invokevirtual 54, 3) := by decide +kernel
theorem dX2_numberOfNote_124 : decode cX2_numberOfNote 124 = .ok (.invokevirtual 84, 3) := by decide +kernel
theorem dX2_numberOfNote_127 : decode cX2_numberOfNote 127 = .ok (.iload_n 1, 1) := by decide +kernel
theorem dX2_numberOfNote_128 : decode cX2_numberOfNote 128 = .ok (.ishr, 1) := by decide +kernel
theorem dX2_numberOfNote_129 : decode cX2_numberOfNote 129 = .ok (.iconst 1, 1) := by decide +kernel
theorem dX2_numberOfNote_130 : decode cX2_numberOfNote 130 = .ok (.iand, 1) := by decide +kernel
theorem dX2_numberOfNote_131 : decode cX2_numberOfNote 131 = .ok (.iconst 1, 1) := by decide +kernel
theorem dX2_numberOfNote_132 : decode cX2_numberOfNote 132 = .ok (.if_icmp .ne 7, 3) := by decide +kernel
theorem dX2_numberOfNote_135 : decode cX2_numberOfNote 135 = .ok (.iconst 0, 1) := by decide +kernel
theorem dX2_numberOfNote_136 : decode cX2_numberOfNote 136 = .ok (.goto 4, 3) := by decide +kernel
theorem dX2_numberOfNote_139 : decode cX2_numberOfNote 139 = .ok (.iconst 1, 1) := by decide +kernel
theorem dX2_numberOfNote_140 : decode cX2_numberOfNote 140 = .ok (.ireturn, 1) := by decide +kernel
theorem dX2_numberOfHand_0 : decode cX2_numberOfHand 0 = .ok (.aload_n 0, 1) := by decide +kernel
theorem dX2_numberOfHand_1 : decode cX2_numberOfHand 1 = .ok (.iload_n 2, 1) := by decide +kernel
theorem dX2_numberOfHand_2 : decode cX2_numberOfHand 2 = .ok (.invokevirtual 50, 3) := by decide +kernel
theorem dX2_numberOfHand_5 : decode cX2_numberOfHand 5 = .ok (.astore 4, 2) := by decide +kernel
theorem dX2_numberOfHand_7 : decode cX2_numberOfHand 7 = .ok (.aload_n 0, 1) := by decide +kernel
theorem dX2_numberOfHand_8 : decode cX2_numberOfHand 8 = .ok (.iload_n 2, 1) := by decide +kernel
theorem dX2_numberOfHand_9 : decode cX2_numberOfHand 9 = .ok (.invokevirtual 54, 3) := by decide +kernel
theorem dX2_numberOfHand_12 : decode cX2_numberOfHand 12 = .ok (.istore 5, 2) := by decide +kernel
theorem dX2_numberOfHand_14 : decode cX2_numberOfHand 14 = .ok (.iload_n 3, 1) := by decide +kernel
theorem dX2_numberOfHand_15 : decode cX2_numberOfHand 15 = .ok (.tableswitch 77 0 3 #[29, 38, 49, 60], 29) := by decide +kernel
theorem dX2_numberOfHand_44 : decode cX2_numberOfHand 44 = .ok (.aload 4, 2) := by decide +kernel
theorem dX2_numberOfHand_46 : decode cX2_numberOfHand 46 = .ok (.iload_n 1, 1) := by decide +kernel
theorem dX2_numberOfHand_47 : decode cX2_numberOfHand 47 = .ok (.iload 5, 2) := by decide +kernel
theorem dX2_numberOfHand_49 : decode cX2_numberOfHand 49 = .ok (.invokevirtual 88, 3) := by decide +kernel
theorem dX2_numberOfHand_52 : decode cX2_numberOfHand 52 = .ok (.ireturn, 1) := by decide +kernel
theorem dX2_numberOfHand_53 : decode cX2_numberOfHand 53 = .ok (.aload 4, 2) := by decide +kernel
theorem dX2_numberOfHand_55 : decode cX2_numberOfHand 55 = .ok (.getfield 91, 3) := by decide +kernel
theorem dX2_numberOfHand_58 : decode cX2_numberOfHand 58 = .ok (.iload_n 1, 1) := by decide +kernel
theorem dX2_numberOfHand_59 : decode cX2_numberOfHand 59 = .ok (.aaload, 1) := by decide +kernel
theorem dX2_numberOfHand_60 : decode cX2_numberOfHand 60 = .ok (.iload 5, 2) := by decide +kernel
theorem dX2_numberOfHand_62 : decode cX2_numberOfHand 62 = .ok (.iaload, 1) := by decide +kernel
theorem dX2_numberOfHand_63 : decode cX2_numberOfHand 63 = .ok (.ireturn, 1) := by decide +kernel
theorem dX2_numberOfHand_64 : decode cX2_numberOfHand 64 = .ok (.aload 4, 2) := by decide +kernel
theorem dX2_numberOfHand_66 : decode cX2_numberOfHand 66 = .ok (.getfield 94, 3) := by decide +kernel
theorem dX2_numberOfHand_69 : decode cX2_numberOfHand 69 = .ok (.iload_n 1, 1) := by decide +kernel
theorem dX2_numberOfHand_70 : decode cX2_numberOfHand 70 = .ok (.aaload, 1) := by decide +kernel
theorem dX2_numberOfHand_71 : decode cX2_numberOfHand 71 = .ok (.iload 5, 2) := by decide +kernel
theorem dX2_numberOfHand_73 : decode cX2_numberOfHand 73 = .ok (.iaload, 1) := by decide +kernel
theorem dX2_numberOfHand_74 : decode cX2_numberOfHand 74 = .ok (.ireturn, 1) := by decide +kernel
theorem dX2_numberOfHand_75 : decode cX2_numberOfHand 75 = .ok (.aload 4, 2) := by decide +kernel
theorem dX2_numberOfHand_77 : decode cX2_numberOfHand 77 = .ok (.iload_n 1, 1) := by decide +kernel
theorem dX2_numberOfHand_78 : decode cX2_numberOfHand 78 = .ok (.iload 5, 2) := by decide +kernel
theorem dX2_numberOfHand_80 : decode cX2_numberOfHand 80 = .ok (.invokevirtual 97, 3) := by decide +kernel
theorem dX2_numberOfHand_83 : decode cX2_numberOfHand 83 = .ok (.ifCond .eq 7, 3) := by decide +kernel
theorem dX2_numberOfHand_86 : decode cX2_numberOfHand 86 = .ok (.iconst 1, 1) := by decide +kernel
theorem dX2_numberOfHand_87 : decode cX2_numberOfHand 87 = .ok (.goto 4, 3) := by decide +kernel
theorem dX2_numberOfHand_90 : decode cX2_numberOfHand 90 = .ok (.iconst 0, 1) := by decide +kernel
theorem dX2_numberOfHand_91 : decode cX2_numberOfHand 91 = .ok (.ireturn, 1) := by decide +kernel
theorem dX2_numberOfHand_92 : decode cX2_numberOfHand 92 = .ok (.aload_n 0, 1) := by decide +kernel
theorem dX2_numberOfHand_93 : decode cX2_numberOfHand 93 = .ok (.iload_n 1, 1) := by decide +kernel
theorem dX2_numberOfHand_94 : decode cX2_numberOfHand 94 = .ok (.iload_n 2, 1) := by decide +kernel
theorem dX2_numberOfHand_95 : decode cX2_numberOfHand 95 = .ok (.invokevirtual 101, 3) := by decide +kernel
theorem dX2_numberOfHand_98 : decode cX2_numberOfHand 98 = .ok (.ireturn, 1) := by decide +kernel
theorem dX2_numberOfBeat_0 : decode cX2_numberOfBeat 0 = .ok (.aload_n 0, 1) := by decide +kernel
theorem dX2_numberOfBeat_1 : decode cX2_numberOfBeat 1 = .ok (.iload_n 1, 1) := by decide +kernel
theorem dX2_numberOfBeat_2 : decode cX2_numberOfBeat 2 = .ok (.invokevirtual 50, 3) := by decide +kernel
theorem dX2_numberOfBeat_5 : decode cX2_numberOfBeat 5 = .ok (.astore_n 3, 1) := by decide +kernel
theorem dX2_numberOfBeat_6 : decode cX2_numberOfBeat 6 = .ok (.iload_n 2, 1) := by decide +kernel
theorem dX2_numberOfBeat_7 : decode cX2_numberOfBeat 7 = .ok (.tableswitch 54 0 3 #[29, 35, 43, 49], 29) := by decide +kernel
theorem dX2_numberOfBeat_36 : decode cX2_numberOfBeat 36 = .ok (.aload_n 0, 1) := by decide +kernel
theorem dX2_numberOfBeat_37 : decode cX2_numberOfBeat 37 = .ok (.iload_n 1, 1) := by decide +kernel
theorem dX2_numberOfBeat_38 : decode cX2_numberOfBeat 38 = .ok (.invokevirtual 54, 3) := by decide +kernel
theorem dX2_numberOfBeat_41 : decode cX2_numberOfBeat 41 = .ok (.ireturn, 1) := by decide +kernel
theorem dX2_numberOfBeat_42 : decode cX2_numberOfBeat 42 = .ok (.aload_n 3, 1) := by decide +kernel
theorem dX2_numberOfBeat_43 : decode cX2_numberOfBeat 43 = .ok (.getfield 103, 3) := by decide +kernel
theorem dX2_numberOfBeat_46 : decode cX2_numberOfBeat 46 = .ok (.invokestatic 106, 3) := by decide +kernel
theorem dX2_numberOfBeat_49 : decode cX2_numberOfBeat 49 = .ok (.ireturn, 1) := by decide +kernel
theorem dX2_numberOfBeat_50 : decode cX2_numberOfBeat 50 = .ok (.aload_n 0, 1) := by decide +kernel
theorem dX2_numberOfBeat_51 : decode cX2_numberOfBeat 51 = .ok (.iload_n 1, 1) := by decide +kernel
theorem dX2_numberOfBeat_52 : decode cX2_numberOfBeat 52 = .ok (.invokevirtual 111, 3) := by decide +kernel
theorem dX2_numberOfBeat_55 : decode cX2_numberOfBeat 55 = .ok (.ireturn, 1) := by decide +kernel
theorem dX2_numberOfBeat_56 : decode cX2_numberOfBeat 56 = .ok (.aload_n 3, 1) := by decide +kernel
theorem dX2_numberOfBeat_57 : decode cX2_numberOfBeat 57 = .ok (.getfield 113, 3) := by decide +kernel
theorem dX2_numberOfBeat_60 : decode cX2_numberOfBeat 60 = .ok (.ireturn, 1) := by decide +kernel
theorem dX2_numberOfBeat_61 : decode cX2_numberOfBeat 61 = .ok (.aload_n 3, 1) := by decide +kernel
theorem dX2_numberOfBeat_62 : decode cX2_numberOfBeat 62 = .ok (.getfield 103, 3) := by decide +kernel
theorem dX2_numberOfBeat_65 : decode cX2_numberOfBeat 65 = .ok (.ireturn, 1) := by decide +kernel
theorem dX2_numberOfWhole_0 : decode cX2_numberOfWhole 0 = .ok (.iconst 0, 1) := by decide +kernel
theorem dX2_numberOfWhole_1 : decode cX2_numberOfWhole 1 = .ok (.istore_n 2, 1) := by decide +kernel
theorem dX2_numberOfWhole_2 : decode cX2_numberOfWhole 2 = .ok (.iconst 0, 1) := by decide +kernel
theorem dX2_numberOfWhole_3 : decode cX2_numberOfWhole 3 = .ok (.istore_n 3, 1) := by decide +kernel
theorem dX2_numberOfWhole_4 : decode cX2_numberOfWhole 4 = .ok (.iload_n 3, 1) := by decide +kernel
theorem dX2_numberOfWhole_5 : decode cX2_numberOfWhole 5 = .ok (.aload_n 0, 1) := by decide +kernel
theorem dX2_numberOfWhole_6 : decode cX2_numberOfWhole 6 = .ok (.getfield 37, 3) := by decide +kernel
theorem dX2_numberOfWhole_9 : decode cX2_numberOfWhole 9 = .ok (.if_icmp .ge 18, 3) := by decide +kernel
theorem dX2_numberOfWhole_12 : decode cX2_numberOfWhole 12 = .ok (.iload_n 2, 1) := by decide +kernel
theorem dX2_numberOfWhole_13 : decode cX2_numberOfWhole 13 = .ok (.aload_n 0, 1) := by decide +kernel
theorem dX2_numberOfWhole_14 : decode cX2_numberOfWhole 14 = .ok (.iload_n 3, 1) := by decide +kernel
theorem dX2_numberOfWhole_15 : decode cX2_numberOfWhole 15 = .ok (.iload_n 1, 1) := by decide +kernel
theorem dX2_numberOfWhole_16 : decode cX2_numberOfWhole 16 = .ok (.invokevirtual 116, 3) := by decide +kernel
theorem dX2_numberOfWhole_19 : decode cX2_numberOfWhole 19 = .ok (.iadd, 1) := by decide +kernel
theorem dX2_numberOfWhole_20 : decode cX2_numberOfWhole 20 = .ok (.istore_n 2, 1) := by decide +kernel
theorem dX2_numberOfWhole_21 : decode cX2_numberOfWhole 21 = .ok (.iinc 3 1, 3) := by decide +kernel
theorem dX2_numberOfWhole_24 : decode cX2_numberOfWhole 24 = .ok (.goto (-20), 3) := by decide +kernel
theorem dX2_numberOfWhole_27 : decode cX2_numberOfWhole 27 = .ok (.iload_n 2, 1) := by decide +kernel
theorem dX2_numberOfWhole_28 : decode cX2_numberOfWhole 28 = .ok (.ireturn, 1) := by decide +kernel
theorem dX2_shareOfBeat_0 : decode cX2_shareOfBeat 0 = .ok (.aload_n 0, 1) := by decide +kernel
theorem dX2_shareOfBeat_1 : decode cX2_shareOfBeat 1 = .ok (.iload_n 1, 1) := by decide +kernel
theorem dX2_shareOfBeat_2 : decode cX2_shareOfBeat 2 = .ok (.invokevirtual 50, 3) := by decide +kernel
theorem dX2_shareOfBeat_5 : decode cX2_shareOfBeat 5 = .ok (.astore_n 3, 1) := by decide +kernel
theorem dX2_shareOfBeat_6 : decode cX2_shareOfBeat 6 = .ok (.iload_n 2, 1) := by decide +kernel
theorem dX2_shareOfBeat_7 : decode cX2_shareOfBeat 7 = .ok (.tableswitch 105 0 7 #[45, 105, 105, 105, 51, 60, 70, 84], 45) := by decide +kernel
theorem dX2_shareOfBeat_52 : decode cX2_shareOfBeat 52 = .ok (.aload_n 0, 1) := by decide +kernel
theorem dX2_shareOfBeat_53 : decode cX2_shareOfBeat 53 = .ok (.iload_n 1, 1) := by decide +kernel
theorem dX2_shareOfBeat_54 : decode cX2_shareOfBeat 54 = .ok (.invokevirtual 111, 3) := by decide +kernel
theorem dX2_shareOfBeat_57 : decode cX2_shareOfBeat 57 = .ok (.ireturn, 1) := by decide +kernel
theorem dX2_shareOfBeat_58 : decode cX2_shareOfBeat 58 = .ok (.aload_n 0, 1) := by decide +kernel
theorem dX2_shareOfBeat_59 : decode cX2_shareOfBeat 59 = .ok (.iload_n 1, 1) := by decide +kernel
theorem dX2_shareOfBeat_60 : decode cX2_shareOfBeat 60 = .ok (.invokevirtual 79, 3) := by decide +kernel
theorem dX2_shareOfBeat_63 : decode cX2_shareOfBeat 63 = .ok (.invokestatic 106, 3) := by decide +kernel
theorem dX2_shareOfBeat_66 : decode cX2_shareOfBeat 66 = .ok (.ireturn, 1) := by decide +kernel
theorem dX2_shareOfBeat_67 : decode cX2_shareOfBeat 67 = .ok (.aload_n 3, 1) := by decide +kernel
theorem dX2_shareOfBeat_68 : decode cX2_shareOfBeat 68 = .ok (.aload_n 0, 1) := by decide +kernel
theorem dX2_shareOfBeat_69 : decode cX2_shareOfBeat 69 = .ok (.iload_n 1, 1) := by decide +kernel
theorem dX2_shareOfBeat_70 : decode cX2_shareOfBeat 70 = .ok (.invokevirtual 54, 3) := by decide +kernel
theorem dX2_shareOfBeat_73 : decode cX2_shareOfBeat 73 = .ok (.invokevirtual 119, 3) := by decide +kernel
theorem dX2_shareOfBeat_76 : decode cX2_shareOfBeat 76 = .ok (.ireturn, 1) := by decide +kernel
theorem dX2_shareOfBeat_77 : decode cX2_shareOfBeat 77 = .ok (.aload_n 0, 1) := by decide +kernel
theorem dX2_shareOfBeat_78 : decode cX2_shareOfBeat 78 = .ok (.iconst 0, 1) := by decide +kernel
theorem dX2_shareOfBeat_79 : decode cX2_shareOfBeat 79 = .ok (.iload_n 1, 1) := by decide +kernel
theorem dX2_shareOfBeat_80 : decode cX2_shareOfBeat 80 = .ok (.invokevirtual 101, 3) := by decide +kernel
theorem dX2_shareOfBeat_83 : decode cX2_shareOfBeat 83 = .ok (.aload_n 0, 1) := by decide +kernel
theorem dX2_shareOfBeat_84 : decode cX2_shareOfBeat 84 = .ok (.iconst 1, 1) := by decide +kernel
theorem dX2_shareOfBeat_85 : decode cX2_shareOfBeat 85 = .ok (.iload_n 1, 1) := by decide +kernel
theorem dX2_shareOfBeat_86 : decode cX2_shareOfBeat 86 = .ok (.invokevirtual 101, 3) := by decide +kernel
theorem dX2_shareOfBeat_89 : decode cX2_shareOfBeat 89 = .ok (.iadd, 1) := by decide +kernel
theorem dX2_shareOfBeat_90 : decode cX2_shareOfBeat 90 = .ok (.ireturn, 1) := by decide +kernel
theorem dX2_shareOfBeat_91 : decode cX2_shareOfBeat 91 = .ok (.aload_n 3, 1) := by decide +kernel
theorem dX2_shareOfBeat_92 : decode cX2_shareOfBeat 92 = .ok (.getfield 113, 3) := by decide +kernel
theorem dX2_shareOfBeat_95 : decode cX2_shareOfBeat 95 = .ok (.aload_n 3, 1) := by decide +kernel
theorem dX2_shareOfBeat_96 : decode cX2_shareOfBeat 96 = .ok (.getfield 122, 3) := by decide +kernel
theorem dX2_shareOfBeat_99 : decode cX2_shareOfBeat 99 = .ok (.aload_n 0, 1) := by decide +kernel
theorem dX2_shareOfBeat_100 : decode cX2_shareOfBeat 100 = .ok (.iload_n 1, 1) := by decide +kernel
theorem dX2_shareOfBeat_101 : decode cX2_shareOfBeat 101 = .ok (.invokevirtual 79, 3) := by decide +kernel
theorem dX2_shareOfBeat_104 : decode cX2_shareOfBeat 104 = .ok (.iconst (-1), 1) := by decide +kernel
theorem dX2_shareOfBeat_105 : decode cX2_shareOfBeat 105 = .ok (.ixor, 1) := by decide +kernel
theorem dX2_shareOfBeat_106 : decode cX2_shareOfBeat 106 = .ok (.iand, 1) := by decide +kernel
theorem dX2_shareOfBeat_107 : decode cX2_shareOfBeat 107 = .ok (.invokestatic 106, 3) := by decide +kernel
theorem dX2_shareOfBeat_110 : decode cX2_shareOfBeat 110 = .ok (.isub, 1) := by decide +kernel
theorem dX2_shareOfBeat_111 : decode cX2_shareOfBeat 111 = .ok (.ireturn, 1) := by decide +kernel
theorem dX2_shareOfBeat_112 : decode cX2_shareOfBeat 112 = .ok (.aload_n 3, 1) := by decide +kernel
theorem dX2_shareOfBeat_113 : decode cX2_shareOfBeat 113 = .ok (.iload_n 2, 1) := by decide +kernel
theorem dX2_shareOfBeat_114 : decode cX2_shareOfBeat 114 = .ok (.invokevirtual 125, 3) := by decide +kernel
theorem dX2_shareOfBeat_117 : decode cX2_shareOfBeat 117 = .ok (.ireturn, 1) := by decide +kernel
theorem dX3_init_0 : decode cX3_init 0 = .ok (.aload_n 0, 1) := by decide +kernel
theorem dX3_init_1 : decode cX3_init 1 = .ok (.invokespecial 3, 3) := by decide +kernel
theorem dX3_init_4 : decode cX3_init 4 = .ok (.aload_n 0, 1) := by decide +kernel
theorem dX3_init_5 : decode cX3_init 5 = .ok (.bipush 6, 2) := by decide +kernel
theorem dX3_init_7 : decode cX3_init 7 = .ok (.newarray .int, 2) := by decide +kernel
theorem dX3_init_9 : decode cX3_init 9 = .ok (.putfield 9, 3) := by decide +kernel
theorem dX3_init_12 : decode cX3_init 12 = .ok (.aload_n 0, 1) := by decide +kernel
theorem dX3_init_13 : decode cX3_init 13 = .ok (.bipush 64, 2) := by decide +kernel
theorem dX3_init_15 : decode cX3_init 15 = .ok (.newarray .int, 2) := by decide +kernel
theorem dX3_init_17 : decode cX3_init 17 = .ok (.putfield 15, 3) := by decide +kernel
theorem dX3_init_20 : decode cX3_init 20 = .ok (.aload_n 0, 1) := by decide +kernel
theorem dX3_init_21 : decode cX3_init 21 = .ok (.iconst 1, 1) := by decide +kernel
theorem dX3_init_22 : decode cX3_init 22 = .ok (.iconst 1, 1) := by decide +kernel
theorem dX3_init_23 : decode cX3_init 23 = .ok (.invokevirtual 18, 3) := by decide +kernel
theorem dX3_init_26 : decode cX3_init 26 = .ok (.aload_n 0, 1) := by decide +kernel
theorem dX3_init_27 : decode cX3_init 27 = .ok (.invokevirtual 22, 3) := by decide +kernel
theorem dX3_init_30 : decode cX3_init 30 = .ok (.return_, 1) := by decide +kernel
theorem dX3_becomeRests_0 : decode cX3_becomeRests 0 = .ok (.aload_n 0, 1) := by decide +kernel
theorem dX3_becomeRests_1 : decode cX3_becomeRests 1 = .ok (.iload_n 1, 1) := by decide +kernel
theorem dX3_becomeRests_2 : decode cX3_becomeRests 2 = .ok (.putfield 25, 3) := by decide +kernel
theorem dX3_becomeRests_5 : decode cX3_becomeRests 5 = .ok (.aload_n 0, 1) := by decide +kernel
theorem dX3_becomeRests_6 : decode cX3_becomeRests 6 = .ok (.iload_n 2, 1) := by decide +kernel
theorem dX3_becomeRests_7 : decode cX3_becomeRests 7 = .ok (.putfield 29, 3) := by decide +kernel
theorem dX3_becomeRests_10 : decode cX3_becomeRests 10 = .ok (.iconst 0, 1) := by decide +kernel
theorem dX3_becomeRests_11 : decode cX3_becomeRests 11 = .ok (.istore_n 3, 1) := by decide +kernel
theorem dX3_becomeRests_12 : decode cX3_becomeRests 12 = .ok (.iload_n 3, 1) := by decide +kernel
theorem dX3_becomeRests_13 : decode cX3_becomeRests 13 = .ok (.aload_n 0, 1) := by decide +kernel
theorem dX3_becomeRests_14 : decode cX3_becomeRests 14 = .ok (.getfield 15, 3) := by decide +kernel
theorem dX3_becomeRests_17 : decode cX3_becomeRests 17 = .ok (.arraylength, 1) := by decide +kernel
theorem dX3_becomeRests_18 : decode cX3_becomeRests 18 = .ok (.if_icmp .ge 17, 3) := by decide +kernel
theorem dX3_becomeRests_21 : decode cX3_becomeRests 21 = .ok (.aload_n 0, 1) := by decide +kernel
theorem dX3_becomeRests_22 : decode cX3_becomeRests 22 = .ok (.getfield 15, 3) := by decide +kernel
theorem dX3_becomeRests_25 : decode cX3_becomeRests 25 = .ok (.iload_n 3, 1) := by decide +kernel
theorem dX3_becomeRests_26 : decode cX3_becomeRests 26 = .ok (.bipush (-9), 2) := by decide +kernel
theorem dX3_becomeRests_28 : decode cX3_becomeRests 28 = .ok (.iastore, 1) := by decide +kernel
theorem dX3_becomeRests_29 : decode cX3_becomeRests 29 = .ok (.iinc 3 1, 3) := by decide +kernel
theorem dX3_becomeRests_32 : decode cX3_becomeRests 32 = .ok (.goto (-20), 3) := by decide +kernel
theorem dX3_becomeRests_35 : decode cX3_becomeRests 35 = .ok (.return_, 1) := by decide +kernel
theorem dX3_resetSettings_0 : decode cX3_resetSettings 0 = .ok (.iconst 0, 1) := by decide +kernel
theorem dX3_resetSettings_1 : decode cX3_resetSettings 1 = .ok (.istore_n 1, 1) := by decide +kernel
theorem dX3_resetSettings_2 : decode cX3_resetSettings 2 = .ok (.iload_n 1, 1) := by decide +kernel
theorem dX3_resetSettings_3 : decode cX3_resetSettings 3 = .ok (.bipush 6, 2) := by decide +kernel
theorem dX3_resetSettings_5 : decode cX3_resetSettings 5 = .ok (.if_icmp .ge 20, 3) := by decide +kernel
theorem dX3_resetSettings_8 : decode cX3_resetSettings 8 = .ok (.aload_n 0, 1) := by decide +kernel
theorem dX3_resetSettings_9 : decode cX3_resetSettings 9 = .ok (.getfield 9, 3) := by decide +kernel
theorem dX3_resetSettings_12 : decode cX3_resetSettings 12 = .ok (.iload_n 1, 1) := by decide +kernel
theorem dX3_resetSettings_13 : decode cX3_resetSettings 13 = .ok (.getstatic 32, 3) := by decide +kernel
theorem dX3_resetSettings_16 : decode cX3_resetSettings 16 = .ok (.iload_n 1, 1) := by decide +kernel
theorem dX3_resetSettings_17 : decode cX3_resetSettings 17 = .ok (.iaload, 1) := by decide +kernel
theorem dX3_resetSettings_18 : decode cX3_resetSettings 18 = .ok (.iastore, 1) := by decide +kernel
theorem dX3_resetSettings_19 : decode cX3_resetSettings 19 = .ok (.iinc 1 1, 3) := by decide +kernel
theorem dX3_resetSettings_22 : decode cX3_resetSettings 22 = .ok (.goto (-20), 3) := by decide +kernel
theorem dX3_resetSettings_25 : decode cX3_resetSettings 25 = .ok (.return_, 1) := by decide +kernel
theorem dX3_takeFrom_0 : decode cX3_takeFrom 0 = .ok (.aload_n 0, 1) := by decide +kernel
theorem dX3_takeFrom_1 : decode cX3_takeFrom 1 = .ok (.aload_n 1, 1) := by decide +kernel
theorem dX3_takeFrom_2 : decode cX3_takeFrom 2 = .ok (.getfield 25, 3) := by decide +kernel
theorem dX3_takeFrom_5 : decode cX3_takeFrom 5 = .ok (.putfield 25, 3) := by decide +kernel
theorem dX3_takeFrom_8 : decode cX3_takeFrom 8 = .ok (.aload_n 0, 1) := by decide +kernel
theorem dX3_takeFrom_9 : decode cX3_takeFrom 9 = .ok (.aload_n 1, 1) := by decide +kernel
theorem dX3_takeFrom_10 : decode cX3_takeFrom 10 = .ok (.getfield 29, 3) := by decide +kernel
theorem dX3_takeFrom_13 : decode cX3_takeFrom 13 = .ok (.putfield 29, 3) := by decide +kernel
theorem dX3_takeFrom_16 : decode cX3_takeFrom 16 = .ok (.iconst 0, 1) := by decide +kernel
theorem dX3_takeFrom_17 : decode cX3_takeFrom 17 = .ok (.istore_n 2, 1) := by decide +kernel
theorem dX3_takeFrom_18 : decode cX3_takeFrom 18 = .ok (.iload_n 2, 1) := by decide +kernel
theorem dX3_takeFrom_19 : decode cX3_takeFrom 19 = .ok (.bipush 6, 2) := by decide +kernel
theorem dX3_takeFrom_21 : decode cX3_takeFrom 21 = .ok (.if_icmp .ge 21, 3) := by decide +kernel
theorem dX3_takeFrom_24 : decode cX3_takeFrom 24 = .ok (.aload_n 0, 1) := by decide +kernel
theorem dX3_takeFrom_25 : decode cX3_takeFrom 25 = .ok (.getfield 9, 3) := by decide +kernel
theorem dX3_takeFrom_28 : decode cX3_takeFrom 28 = .ok (.iload_n 2, 1) := by decide +kernel
theorem dX3_takeFrom_29 : decode cX3_takeFrom 29 = .ok (.aload_n 1, 1) := by decide +kernel
theorem dX3_takeFrom_30 : decode cX3_takeFrom 30 = .ok (.getfield 9, 3) := by decide +kernel
theorem dX3_takeFrom_33 : decode cX3_takeFrom 33 = .ok (.iload_n 2, 1) := by decide +kernel
theorem dX3_takeFrom_34 : decode cX3_takeFrom 34 = .ok (.iaload, 1) := by decide +kernel
theorem dX3_takeFrom_35 : decode cX3_takeFrom 35 = .ok (.iastore, 1) := by decide +kernel
theorem dX3_takeFrom_36 : decode cX3_takeFrom 36 = .ok (.iinc 2 1, 3) := by decide +kernel
theorem dX3_takeFrom_39 : decode cX3_takeFrom 39 = .ok (.goto (-21), 3) := by decide +kernel
theorem dX3_takeFrom_42 : decode cX3_takeFrom 42 = .ok (.iconst 0, 1) := by decide +kernel
theorem dX3_takeFrom_43 : decode cX3_takeFrom 43 = .ok (.istore_n 2, 1) := by decide +kernel
theorem dX3_takeFrom_44 : decode cX3_takeFrom 44 = .ok (.iload_n 2, 1) := by decide +kernel
theorem dX3_takeFrom_45 : decode cX3_takeFrom 45 = .ok (.aload_n 0, 1) := by decide +kernel
theorem dX3_takeFrom_46 : decode cX3_takeFrom 46 = .ok (.getfield 15, 3) := by decide +kernel
theorem dX3_takeFrom_49 : decode cX3_takeFrom 49 = .ok (.arraylength, 1) := by decide +kernel
theorem dX3_takeFrom_50 : decode cX3_takeFrom 50 = .ok (.if_icmp .ge 21, 3) := by decide +kernel
theorem dX3_takeFrom_53 : decode cX3_takeFrom 53 = .ok (.aload_n 0, 1) := by decide +kernel
theorem dX3_takeFrom_54 : decode cX3_takeFrom 54 = .ok (.getfield 15, 3) := by decide +kernel
theorem dX3_takeFrom_57 : decode cX3_takeFrom 57 = .ok (.iload_n 2, 1) := by decide +kernel
theorem dX3_takeFrom_58 : decode cX3_takeFrom 58 = .ok (.aload_n 1, 1) := by decide +kernel
theorem dX3_takeFrom_59 : decode cX3_takeFrom 59 = .ok (.getfield 15, 3) := by decide +kernel
theorem dX3_takeFrom_62 : decode cX3_takeFrom 62 = .ok (.iload_n 2, 1) := by decide +kernel
theorem dX3_takeFrom_63 : decode cX3_takeFrom 63 = .ok (.iaload, 1) := by decide +kernel
theorem dX3_takeFrom_64 : decode cX3_takeFrom 64 = .ok (.iastore, 1) := by decide +kernel
theorem dX3_takeFrom_65 : decode cX3_takeFrom 65 = .ok (.iinc 2 1, 3) := by decide +kernel
theorem dX3_takeFrom_68 : decode cX3_takeFrom 68 = .ok (.goto (-24), 3) := by decide +kernel
theorem dX3_takeFrom_71 : decode cX3_takeFrom 71 = .ok (.return_, 1) := by decide +kernel
theorem dX3_isPitch_0 : decode cX3_isPitch 0 = .ok (.iload_n 0, 1) := by decide +kernel
theorem dX3_isPitch_1 : decode cX3_isPitch 1 = .ok (.ifCond .lt 13, 3) := by decide +kernel
theorem dX3_isPitch_4 : decode cX3_isPitch 4 = .ok (.iload_n 0, 1) := by decide +kernel
theorem dX3_isPitch_5 : decode cX3_isPitch 5 = .ok (.bipush 60, 2) := by decide +kernel
theorem dX3_isPitch_7 : decode cX3_isPitch 7 = .ok (.if_icmp .gt 7, 3) := by decide +kernel
theorem dX3_isPitch_10 : decode cX3_isPitch 10 = .ok (.iconst 1, 1) := by decide +kernel
theorem dX3_isPitch_11 : decode cX3_isPitch 11 = .ok (.goto 4, 3) := by decide +kernel
theorem dX3_isPitch_14 : decode cX3_isPitch 14 = .ok (.iconst 0, 1) := by decide +kernel
theorem dX3_isPitch_15 : decode cX3_isPitch 15 = .ok (.ireturn, 1) := by decide +kernel
theorem dX3_isSetting_0 : decode cX3_isSetting 0 = .ok (.iload_n 0, 1) := by decide +kernel
theorem dX3_isSetting_1 : decode cX3_isSetting 1 = .ok (.ifCond .lt 13, 3) := by decide +kernel
theorem dX3_isSetting_4 : decode cX3_isSetting 4 = .ok (.iload_n 0, 1) := by decide +kernel
theorem dX3_isSetting_5 : decode cX3_isSetting 5 = .ok (.bipush 6, 2) := by decide +kernel
theorem dX3_isSetting_7 : decode cX3_isSetting 7 = .ok (.if_icmp .ge 7, 3) := by decide +kernel
theorem dX3_isSetting_10 : decode cX3_isSetting 10 = .ok (.iconst 1, 1) := by decide +kernel
theorem dX3_isSetting_11 : decode cX3_isSetting 11 = .ok (.goto 4, 3) := by decide +kernel
theorem dX3_isSetting_14 : decode cX3_isSetting 14 = .ok (.iconst 0, 1) := by decide +kernel
theorem dX3_isSetting_15 : decode cX3_isSetting 15 = .ok (.ireturn, 1) := by decide +kernel
theorem dX3_allowsSetting_0 : decode cX3_allowsSetting 0 = .ok (.iload_n 0, 1) := by decide +kernel
theorem dX3_allowsSetting_1 : decode cX3_allowsSetting 1 = .ok (.invokestatic 35, 3) := by decide +kernel
theorem dX3_allowsSetting_4 : decode cX3_allowsSetting 4 = .ok (.ifCond .eq 25, 3) := by decide +kernel
theorem dX3_allowsSetting_7 : decode cX3_allowsSetting 7 = .ok (.iload_n 1, 1) := by decide +kernel
theorem dX3_allowsSetting_8 : decode cX3_allowsSetting 8 = .ok (.getstatic 39, 3) := by decide +kernel
theorem dX3_allowsSetting_11 : decode cX3_allowsSetting 11 = .ok (.iload_n 0, 1) := by decide +kernel
theorem dX3_allowsSetting_12 : decode cX3_allowsSetting 12 = .ok (.iaload, 1) := by decide +kernel
theorem dX3_allowsSetting_13 : decode cX3_allowsSetting 13 = .ok (.if_icmp .lt 16, 3) := by decide +kernel
theorem dX3_allowsSetting_16 : decode cX3_allowsSetting 16 = .ok (.iload_n 1, 1) := by decide +kernel
theorem dX3_allowsSetting_17 : decode cX3_allowsSetting 17 = .ok (.getstatic 42, 3) := by decide +kernel
theorem dX3_allowsSetting_20 : decode cX3_allowsSetting 20 = .ok (.iload_n 0, 1) := by decide +kernel
theorem dX3_allowsSetting_21 : decode cX3_allowsSetting 21 = .ok (.iaload, 1) := by decide +kernel
theorem dX3_allowsSetting_22 : decode cX3_allowsSetting 22 = .ok (.if_icmp .gt 7, 3) := by decide +kernel
theorem dX3_allowsSetting_25 : decode cX3_allowsSetting 25 = .ok (.iconst 1, 1) := by decide +kernel
theorem dX3_allowsSetting_26 : decode cX3_allowsSetting 26 = .ok (.goto 4, 3) := by decide +kernel
theorem dX3_allowsSetting_29 : decode cX3_allowsSetting 29 = .ok (.iconst 0, 1) := by decide +kernel
theorem dX3_allowsSetting_30 : decode cX3_allowsSetting 30 = .ok (.ireturn, 1) := by decide +kernel
theorem dX3_hasStaff_0 : decode cX3_hasStaff 0 = .ok (.iload_n 1, 1) := by decide +kernel
theorem dX3_hasStaff_1 : decode cX3_hasStaff 1 = .ok (.ifCond .lt 15, 3) := by decide +kernel
theorem dX3_hasStaff_4 : decode cX3_hasStaff 4 = .ok (.iload_n 1, 1) := by decide +kernel
theorem dX3_hasStaff_5 : decode cX3_hasStaff 5 = .ok (.aload_n 0, 1) := by decide +kernel
theorem dX3_hasStaff_6 : decode cX3_hasStaff 6 = .ok (.getfield 25, 3) := by decide +kernel
theorem dX3_hasStaff_9 : decode cX3_hasStaff 9 = .ok (.if_icmp .ge 7, 3) := by decide +kernel
theorem dX3_hasStaff_12 : decode cX3_hasStaff 12 = .ok (.iconst 1, 1) := by decide +kernel
theorem dX3_hasStaff_13 : decode cX3_hasStaff 13 = .ok (.goto 4, 3) := by decide +kernel
theorem dX3_hasStaff_16 : decode cX3_hasStaff 16 = .ok (.iconst 0, 1) := by decide +kernel
theorem dX3_hasStaff_17 : decode cX3_hasStaff 17 = .ok (.ireturn, 1) := by decide +kernel
theorem dX3_hasBeat_0 : decode cX3_hasBeat 0 = .ok (.iload_n 1, 1) := by decide +kernel
theorem dX3_hasBeat_1 : decode cX3_hasBeat 1 = .ok (.ifCond .lt 15, 3) := by decide +kernel
theorem dX3_hasBeat_4 : decode cX3_hasBeat 4 = .ok (.iload_n 1, 1) := by decide +kernel
theorem dX3_hasBeat_5 : decode cX3_hasBeat 5 = .ok (.aload_n 0, 1) := by decide +kernel
theorem dX3_hasBeat_6 : decode cX3_hasBeat 6 = .ok (.getfield 29, 3) := by decide +kernel
theorem dX3_hasBeat_9 : decode cX3_hasBeat 9 = .ok (.if_icmp .ge 7, 3) := by decide +kernel
theorem dX3_hasBeat_12 : decode cX3_hasBeat 12 = .ok (.iconst 1, 1) := by decide +kernel
theorem dX3_hasBeat_13 : decode cX3_hasBeat 13 = .ok (.goto 4, 3) := by decide +kernel
theorem dX3_hasBeat_16 : decode cX3_hasBeat 16 = .ok (.iconst 0, 1) := by decide +kernel
theorem dX3_hasBeat_17 : decode cX3_hasBeat 17 = .ok (.ireturn, 1) := by decide +kernel
theorem dX3_hasCell_0 : decode cX3_hasCell 0 = .ok (.aload_n 0, 1) := by decide +kernel
theorem dX3_hasCell_1 : decode cX3_hasCell 1 = .ok (.iload_n 1, 1) := by decide +kernel
theorem dX3_hasCell_2 : decode cX3_hasCell 2 = .ok (.invokevirtual 45, 3) := by decide +kernel
theorem dX3_hasCell_5 : decode cX3_hasCell 5 = .ok (.ifCond .eq 15, 3) := by decide +kernel
theorem dX3_hasCell_8 : decode cX3_hasCell 8 = .ok (.aload_n 0, 1) := by decide +kernel
theorem dX3_hasCell_9 : decode cX3_hasCell 9 = .ok (.iload_n 2, 1) := by decide +kernel
theorem dX3_hasCell_10 : decode cX3_hasCell 10 = .ok (.invokevirtual 48, 3) := by decide +kernel
theorem dX3_hasCell_13 : decode cX3_hasCell 13 = .ok (.ifCond .eq 7, 3) := by decide +kernel
theorem dX3_hasCell_16 : decode cX3_hasCell 16 = .ok (.iconst 1, 1) := by decide +kernel
theorem dX3_hasCell_17 : decode cX3_hasCell 17 = .ok (.goto 4, 3) := by decide +kernel
theorem dX3_hasCell_20 : decode cX3_hasCell 20 = .ok (.iconst 0, 1) := by decide +kernel
theorem dX3_hasCell_21 : decode cX3_hasCell 21 = .ok (.ireturn, 1) := by decide +kernel
theorem dX3_allowsHold_0 : decode cX3_allowsHold 0 = .ok (.aload_n 0, 1) := by decide +kernel
theorem dX3_allowsHold_1 : decode cX3_allowsHold 1 = .ok (.iload_n 1, 1) := by decide +kernel
theorem dX3_allowsHold_2 : decode cX3_allowsHold 2 = .ok (.iload_n 2, 1) := by decide +kernel
theorem dX3_allowsHold_3 : decode cX3_allowsHold 3 = .ok (.iconst 1, 1) := by decide +kernel
theorem dX3_allowsHold_4 : decode cX3_allowsHold 4 = .ok (.isub, 1) := by decide +kernel
theorem dX3_allowsHold_5 : decode cX3_allowsHold 5 = .ok (.invokevirtual 51, 3) := by decide +kernel
theorem dX3_allowsHold_8 : decode cX3_allowsHold 8 = .ok (.bipush (-9), 2) := by decide +kernel
theorem dX3_allowsHold_10 : decode cX3_allowsHold 10 = .ok (.if_icmp .eq 7, 3) := by decide +kernel
theorem dX3_allowsHold_13 : decode cX3_allowsHold 13 = .ok (.iconst 1, 1) := by decide +kernel
theorem dX3_allowsHold_14 : decode cX3_allowsHold 14 = .ok (.goto 4, 3) := by decide +kernel
theorem dX3_allowsHold_17 : decode cX3_allowsHold 17 = .ok (.iconst 0, 1) := by decide +kernel
theorem dX3_allowsHold_18 : decode cX3_allowsHold 18 = .ok (.ireturn, 1) := by decide +kernel
theorem dX3_allowsMoving_0 : decode cX3_allowsMoving 0 = .ok (.iconst 0, 1) := by decide +kernel
theorem dX3_allowsMoving_1 : decode cX3_allowsMoving 1 = .ok (.istore_n 3, 1) := by decide +kernel
theorem dX3_allowsMoving_2 : decode cX3_allowsMoving 2 = .ok (.iload_n 3, 1) := by decide +kernel
theorem dX3_allowsMoving_3 : decode cX3_allowsMoving 3 = .ok (.aload_n 0, 1) := by decide +kernel
theorem dX3_allowsMoving_4 : decode cX3_allowsMoving 4 = .ok (.getfield 29, 3) := by decide +kernel
theorem dX3_allowsMoving_7 : decode cX3_allowsMoving 7 = .ok (.if_icmp .ge 37, 3) := by decide +kernel
theorem dX3_allowsMoving_10 : decode cX3_allowsMoving 10 = .ok (.aload_n 0, 1) := by decide +kernel
theorem dX3_allowsMoving_11 : decode cX3_allowsMoving 11 = .ok (.iload_n 1, 1) := by decide +kernel
theorem dX3_allowsMoving_12 : decode cX3_allowsMoving 12 = .ok (.iload_n 3, 1) := by decide +kernel
theorem dX3_allowsMoving_13 : decode cX3_allowsMoving 13 = .ok (.invokevirtual 51, 3) := by decide +kernel
theorem dX3_allowsMoving_16 : decode cX3_allowsMoving 16 = .ok (.istore 4, 2) := by decide +kernel
theorem dX3_allowsMoving_18 : decode cX3_allowsMoving 18 = .ok (.iload 4, 2) := by decide +kernel
theorem dX3_allowsMoving_20 : decode cX3_allowsMoving 20 = .ok (.invokestatic 55, 3) := by decide +kernel
theorem dX3_allowsMoving_23 : decode cX3_allowsMoving 23 = .ok (.ifCond .eq 15, 3) := by decide +kernel
theorem dX3_allowsMoving_26 : decode cX3_allowsMoving 26 = .ok (.iload 4, 2) := by decide +kernel
theorem dX3_allowsMoving_28 : decode cX3_allowsMoving 28 = .ok (.iload_n 2, 1) := by decide +kernel
theorem dX3_allowsMoving_29 : decode cX3_allowsMoving 29 = .ok (.iadd, 1) := by decide +kernel
theorem dX3_allowsMoving_30 : decode cX3_allowsMoving 30 = .ok (.invokestatic 55, 3) := by decide +kernel
theorem dX3_allowsMoving_33 : decode cX3_allowsMoving 33 = .ok (.ifCond .ne 5, 3) := by decide +kernel
theorem dX3_allowsMoving_36 : decode cX3_allowsMoving 36 = .ok (.iconst 0, 1) := by decide +kernel
theorem dX3_allowsMoving_37 : decode cX3_allowsMoving 37 = .ok (.ireturn, 1) := by decide +kernel
theorem dX3_allowsMoving_38 : decode cX3_allowsMoving 38 = .ok (.iinc 3 1, 3) := by decide +kernel
theorem dX3_allowsMoving_41 : decode cX3_allowsMoving 41 = .ok (.goto (-39), 3) := by decide +kernel
theorem dX3_allowsMoving_44 : decode cX3_allowsMoving 44 = .ok (.iconst 1, 1) := by decide +kernel
theorem dX3_allowsMoving_45 : decode cX3_allowsMoving 45 = .ok (.ireturn, 1) := by decide +kernel
theorem dX3_settingAt_0 : decode cX3_settingAt 0 = .ok (.iload_n 1, 1) := by decide +kernel
theorem dX3_settingAt_1 : decode cX3_settingAt 1 = .ok (.invokestatic 35, 3) := by decide +kernel
theorem dX3_settingAt_4 : decode cX3_settingAt 4 = .ok (.ifCond .eq 12, 3) := by decide +kernel
theorem dX3_settingAt_7 : decode cX3_settingAt 7 = .ok (.aload_n 0, 1) := by decide +kernel
theorem dX3_settingAt_8 : decode cX3_settingAt 8 = .ok (.getfield 9, 3) := by decide +kernel
theorem dX3_settingAt_11 : decode cX3_settingAt 11 = .ok (.iload_n 1, 1) := by decide +kernel
theorem dX3_settingAt_12 : decode cX3_settingAt 12 = .ok (.iaload, 1) := by decide +kernel
theorem dX3_settingAt_13 : decode cX3_settingAt 13 = .ok (.goto 4, 3) := by decide +kernel
theorem dX3_settingAt_16 : decode cX3_settingAt 16 = .ok (.iconst 0, 1) := by decide +kernel
theorem dX3_settingAt_17 : decode cX3_settingAt 17 = .ok (.ireturn, 1) := by decide +kernel
theorem dX3_written_0 : decode cX3_written 0 = .ok (.iload_n 1, 1) := by decide +kernel
theorem dX3_written_1 : decode cX3_written 1 = .ok (.ifCond .lt 37, 3) := by decide +kernel
theorem dX3_written_4 : decode cX3_written 4 = .ok (.iload_n 1, 1) := by decide +kernel
theorem dX3_written_5 : decode cX3_written 5 = .ok (.aload_n 0, 1) := by decide +kernel
theorem dX3_written_6 : decode cX3_written 6 = .ok (.getfield 25, 3) := by decide +kernel
theorem dX3_written_9 : decode cX3_written 9 = .ok (.if_icmp .ge 29, 3) := by decide +kernel
theorem dX3_written_12 : decode cX3_written 12 = .ok (.iload_n 2, 1) := by decide +kernel
theorem dX3_written_13 : decode cX3_written 13 = .ok (.ifCond .lt 25, 3) := by decide +kernel
theorem dX3_written_16 : decode cX3_written 16 = .ok (.iload_n 2, 1) := by decide +kernel
theorem dX3_written_17 : decode cX3_written 17 = .ok (.aload_n 0, 1) := by decide +kernel
theorem dX3_written_18 : decode cX3_written 18 = .ok (.getfield 29, 3) := by decide +kernel
theorem dX3_written_21 : decode cX3_written 21 = .ok (.if_icmp .ge 17, 3) := by decide +kernel
theorem dX3_written_24 : decode cX3_written 24 = .ok (.aload_n 0, 1) := by decide +kernel
theorem dX3_written_25 : decode cX3_written 25 = .ok (.getfield 15, 3) := by decide +kernel
theorem dX3_written_28 : decode cX3_written 28 = .ok (.iload_n 1, 1) := by decide +kernel
theorem dX3_written_29 : decode cX3_written 29 = .ok (.bipush 16, 2) := by decide +kernel
theorem dX3_written_31 : decode cX3_written 31 = .ok (.imul, 1) := by decide +kernel
theorem dX3_written_32 : decode cX3_written 32 = .ok (.iload_n 2, 1) := by decide +kernel
theorem dX3_written_33 : decode cX3_written 33 = .ok (.iadd, 1) := by decide +kernel
theorem dX3_written_34 : decode cX3_written 34 = .ok (.iaload, 1) := by decide +kernel
theorem dX3_written_35 : decode cX3_written 35 = .ok (.goto 5, 3) := by decide +kernel
theorem dX3_written_38 : decode cX3_written 38 = .ok (.bipush (-9), 2) := by decide +kernel
theorem dX3_written_40 : decode cX3_written 40 = .ok (.ireturn, 1) := by decide +kernel
theorem dX3_sounding_0 : decode cX3_sounding 0 = .ok (.iload_n 2, 1) := by decide +kernel
theorem dX3_sounding_1 : decode cX3_sounding 1 = .ok (.istore_n 3, 1) := by decide +kernel
theorem dX3_sounding_2 : decode cX3_sounding 2 = .ok (.iload_n 3, 1) := by decide +kernel
theorem dX3_sounding_3 : decode cX3_sounding 3 = .ok (.ifCond .lt 27, 3) := by decide +kernel
theorem dX3_sounding_6 : decode cX3_sounding 6 = .ok (.aload_n 0, 1) := by decide +kernel
theorem dX3_sounding_7 : decode cX3_sounding 7 = .ok (.iload_n 1, 1) := by decide +kernel
theorem dX3_sounding_8 : decode cX3_sounding 8 = .ok (.iload_n 3, 1) := by decide +kernel
theorem dX3_sounding_9 : decode cX3_sounding 9 = .ok (.invokevirtual 51, 3) := by decide +kernel
theorem dX3_sounding_12 : decode cX3_sounding 12 = .ok (.istore 4, 2) := by decide +kernel
theorem dX3_sounding_14 : decode cX3_sounding 14 = .ok (.iload 4, 2) := by decide +kernel
theorem dX3_sounding_16 : decode cX3_sounding 16 = .ok (.bipush 99, 2) := by decide +kernel
theorem dX3_sounding_18 : decode cX3_sounding 18 = .ok (.if_icmp .eq 6, 3) := by decide +kernel
theorem dX3_sounding_21 : decode cX3_sounding 21 = .ok (.iload 4, 2) := by decide +kernel
theorem dX3_sounding_23 : decode cX3_sounding 23 = .ok (.ireturn, 1) := by decide +kernel
theorem dX3_sounding_24 : decode cX3_sounding 24 = .ok (.iinc 3 (-1), 3) := by decide +kernel
theorem dX3_sounding_27 : decode cX3_sounding 27 = .ok (.goto (-25), 3) := by decide +kernel
theorem dX3_sounding_30 : decode cX3_sounding 30 = .ok (.bipush (-9), 2) := by decide +kernel
theorem dX3_sounding_32 : decode cX3_sounding 32 = .ok (.ireturn, 1) := by decide +kernel
theorem dX3_countStruck_0 : decode cX3_countStruck 0 = .ok (.iconst 0, 1) := by decide +kernel
theorem dX3_countStruck_1 : decode cX3_countStruck 1 = .ok (.istore_n 1, 1) := by decide +kernel
theorem dX3_countStruck_2 : decode cX3_countStruck 2 = .ok (.iconst 0, 1) := by decide +kernel
theorem dX3_countStruck_3 : decode cX3_countStruck 3 = .ok (.istore_n 2, 1) := by decide +kernel
theorem dX3_countStruck_4 : decode cX3_countStruck 4 = .ok (.iload_n 2, 1) := by decide +kernel
theorem dX3_countStruck_5 : decode cX3_countStruck 5 = .ok (.aload_n 0, 1) := by decide +kernel
theorem dX3_countStruck_6 : decode cX3_countStruck 6 = .ok (.getfield 25, 3) := by decide +kernel
theorem dX3_countStruck_9 : decode cX3_countStruck 9 = .ok (.if_icmp .ge 17, 3) := by decide +kernel
theorem dX3_countStruck_12 : decode cX3_countStruck 12 = .ok (.iload_n 1, 1) := by decide +kernel
theorem dX3_countStruck_13 : decode cX3_countStruck 13 = .ok (.aload_n 0, 1) := by decide +kernel
theorem dX3_countStruck_14 : decode cX3_countStruck 14 = .ok (.iload_n 2, 1) := by decide +kernel
theorem dX3_countStruck_15 : decode cX3_countStruck 15 = .ok (.invokevirtual 58, 3) := by decide +kernel
theorem dX3_countStruck_18 : decode cX3_countStruck 18 = .ok (.iadd, 1) := by decide +kernel
theorem dX3_countStruck_19 : decode cX3_countStruck 19 = .ok (.istore_n 1, 1) := by decide +kernel
theorem dX3_countStruck_20 : decode cX3_countStruck 20 = .ok (.iinc 2 1, 3) := by decide +kernel
theorem dX3_countStruck_23 : decode cX3_countStruck 23 = .ok (.goto (-19), 3) := by decide +kernel
theorem dX3_countStruck_26 : decode cX3_countStruck 26 = .ok (.iload_n 1, 1) := by decide +kernel
theorem dX3_countStruck_27 : decode cX3_countStruck 27 = .ok (.ireturn, 1) := by decide +kernel
theorem dX3_countStruckOf_0 : decode cX3_countStruckOf 0 = .ok (.iconst 0, 1) := by decide +kernel
theorem dX3_countStruckOf_1 : decode cX3_countStruckOf 1 = .ok (.istore_n 2, 1) := by decide +kernel
theorem dX3_countStruckOf_2 : decode cX3_countStruckOf 2 = .ok (.iconst 0, 1) := by decide +kernel
theorem dX3_countStruckOf_3 : decode cX3_countStruckOf 3 = .ok (.istore_n 3, 1) := by decide +kernel
theorem dX3_countStruckOf_4 : decode cX3_countStruckOf 4 = .ok (.iload_n 3, 1) := by decide +kernel
theorem dX3_countStruckOf_5 : decode cX3_countStruckOf 5 = .ok (.aload_n 0, 1) := by decide +kernel
theorem dX3_countStruckOf_6 : decode cX3_countStruckOf 6 = .ok (.getfield 29, 3) := by decide +kernel
theorem dX3_countStruckOf_9 : decode cX3_countStruckOf 9 = .ok (.if_icmp .ge 24, 3) := by decide +kernel
theorem dX3_countStruckOf_12 : decode cX3_countStruckOf 12 = .ok (.aload_n 0, 1) := by decide +kernel
theorem dX3_countStruckOf_13 : decode cX3_countStruckOf 13 = .ok (.iload_n 1, 1) := by decide +kernel
theorem dX3_countStruckOf_14 : decode cX3_countStruckOf 14 = .ok (.iload_n 3, 1) := by decide +kernel
theorem dX3_countStruckOf_15 : decode cX3_countStruckOf 15 = .ok (.invokevirtual 51, 3) := by decide +kernel
theorem dX3_countStruckOf_18 : decode cX3_countStruckOf 18 = .ok (.invokestatic 55, 3) := by decide +kernel
theorem dX3_countStruckOf_21 : decode cX3_countStruckOf 21 = .ok (.ifCond .eq 6, 3) := by decide +kernel
theorem dX3_countStruckOf_24 : decode cX3_countStruckOf 24 = .ok (.iinc 2 1, 3) := by decide +kernel
theorem dX3_countStruckOf_27 : decode cX3_countStruckOf 27 = .ok (.iinc 3 1, 3) := by decide +kernel
theorem dX3_countStruckOf_30 : decode cX3_countStruckOf 30 = .ok (.goto (-26), 3) := by decide +kernel
theorem dX3_countStruckOf_33 : decode cX3_countStruckOf 33 = .ok (.iload_n 2, 1) := by decide +kernel
theorem dX3_countStruckOf_34 : decode cX3_countStruckOf 34 = .ok (.ireturn, 1) := by decide +kernel
theorem dX3_countHolds_0 : decode cX3_countHolds 0 = .ok (.iconst 0, 1) := by decide +kernel
theorem dX3_countHolds_1 : decode cX3_countHolds 1 = .ok (.istore_n 1, 1) := by decide +kernel
theorem dX3_countHolds_2 : decode cX3_countHolds 2 = .ok (.iconst 0, 1) := by decide +kernel
theorem dX3_countHolds_3 : decode cX3_countHolds 3 = .ok (.istore_n 2, 1) := by decide +kernel
theorem dX3_countHolds_4 : decode cX3_countHolds 4 = .ok (.iload_n 2, 1) := by decide +kernel
theorem dX3_countHolds_5 : decode cX3_countHolds 5 = .ok (.aload_n 0, 1) := by decide +kernel
theorem dX3_countHolds_6 : decode cX3_countHolds 6 = .ok (.getfield 25, 3) := by decide +kernel
theorem dX3_countHolds_9 : decode cX3_countHolds 9 = .ok (.if_icmp .ge 39, 3) := by decide +kernel
theorem dX3_countHolds_12 : decode cX3_countHolds 12 = .ok (.iconst 0, 1) := by decide +kernel
theorem dX3_countHolds_13 : decode cX3_countHolds 13 = .ok (.istore_n 3, 1) := by decide +kernel
theorem dX3_countHolds_14 : decode cX3_countHolds 14 = .ok (.iload_n 3, 1) := by decide +kernel
theorem dX3_countHolds_15 : decode cX3_countHolds 15 = .ok (.aload_n 0, 1) := by decide +kernel
theorem dX3_countHolds_16 : decode cX3_countHolds 16 = .ok (.getfield 29, 3) := by decide +kernel
theorem dX3_countHolds_19 : decode cX3_countHolds 19 = .ok (.if_icmp .ge 23, 3) := by decide +kernel
theorem dX3_countHolds_22 : decode cX3_countHolds 22 = .ok (.aload_n 0, 1) := by decide +kernel
theorem dX3_countHolds_23 : decode cX3_countHolds 23 = .ok (.iload_n 2, 1) := by decide +kernel
theorem dX3_countHolds_24 : decode cX3_countHolds 24 = .ok (.iload_n 3, 1) := by decide +kernel
theorem dX3_countHolds_25 : decode cX3_countHolds 25 = .ok (.invokevirtual 51, 3) := by decide +kernel
theorem dX3_countHolds_28 : decode cX3_countHolds 28 = .ok (.bipush 99, 2) := by decide +kernel
theorem dX3_countHolds_30 : decode cX3_countHolds 30 = .ok (.if_icmp .ne 6, 3) := by decide +kernel
theorem dX3_countHolds_33 : decode cX3_countHolds 33 = .ok (.iinc 1 1, 3) := by decide +kernel
theorem dX3_countHolds_36 : decode cX3_countHolds 36 = .ok (.iinc 3 1, 3) := by decide +kernel
theorem dX3_countHolds_39 : decode cX3_countHolds 39 = .ok (.goto (-25), 3) := by decide +kernel
theorem dX3_countHolds_42 : decode cX3_countHolds 42 = .ok (.iinc 2 1, 3) := by decide +kernel
theorem dX3_countHolds_45 : decode cX3_countHolds 45 = .ok (.goto (-41), 3) := by decide +kernel
theorem dX3_countHolds_48 : decode cX3_countHolds 48 = .ok (.iload_n 1, 1) := by decide +kernel
theorem dX3_countHolds_49 : decode cX3_countHolds 49 = .ok (.ireturn, 1) := by decide +kernel
theorem dX3_changeSetting_0 : decode cX3_changeSetting 0 = .ok (.iload_n 1, 1) := by decide +kernel
theorem dX3_changeSetting_1 : decode cX3_changeSetting 1 = .ok (.invokestatic 35, 3) := by decide +kernel
theorem dX3_changeSetting_4 : decode cX3_changeSetting 4 = .ok (.ifCond .eq 10, 3) := by decide +kernel
theorem dX3_changeSetting_7 : decode cX3_changeSetting 7 = .ok (.aload_n 0, 1) := by decide +kernel
theorem dX3_changeSetting_8 : decode cX3_changeSetting 8 = .ok (.getfield 9, 3) := by decide +kernel
theorem dX3_changeSetting_11 : decode cX3_changeSetting 11 = .ok (.iload_n 1, 1) := by decide +kernel
theorem dX3_changeSetting_12 : decode cX3_changeSetting 12 = .ok (.iload_n 2, 1) := by decide +kernel
theorem dX3_changeSetting_13 : decode cX3_changeSetting 13 = .ok (.iastore, 1) := by decide +kernel
theorem dX3_changeSetting_14 : decode cX3_changeSetting 14 = .ok (.return_, 1) := by decide +kernel
theorem dX3_put_0 : decode cX3_put 0 = .ok (.aload_n 0, 1) := by decide +kernel
theorem dX3_put_1 : decode cX3_put 1 = .ok (.iload_n 1, 1) := by decide +kernel
theorem dX3_put_2 : decode cX3_put 2 = .ok (.iload_n 2, 1) := by decide +kernel
theorem dX3_put_3 : decode cX3_put 3 = .ok (.invokevirtual 62, 3) := by decide +kernel
theorem dX3_put_6 : decode cX3_put 6 = .ok (.ifCond .eq 15, 3) := by decide +kernel
theorem dX3_put_9 : decode cX3_put 9 = .ok (.aload_n 0, 1) := by decide +kernel
theorem dX3_put_10 : decode cX3_put 10 = .ok (.getfield 15, 3) := by decide +kernel
theorem dX3_put_13 : decode cX3_put 13 = .ok (.iload_n 1, 1) := by decide +kernel
theorem dX3_put_14 : decode cX3_put 14 = .ok (.bipush 16, 2) := by decide +kernel
theorem dX3_put_16 : decode cX3_put 16 = .ok (.imul, 1) := by decide +kernel
theorem dX3_put_17 : decode cX3_put 17 = .ok (.iload_n 2, 1) := by decide +kernel
theorem dX3_put_18 : decode cX3_put 18 = .ok (.iadd, 1) := by decide +kernel
theorem dX3_put_19 : decode cX3_put 19 = .ok (.iload_n 3, 1) := by decide +kernel
theorem dX3_put_20 : decode cX3_put 20 = .ok (.iastore, 1) := by decide +kernel
theorem dX3_put_21 : decode cX3_put 21 = .ok (.return_, 1) := by decide +kernel
theorem dX3_silenceStaff_0 : decode cX3_silenceStaff 0 = .ok (.iconst 0, 1) := by decide +kernel
theorem dX3_silenceStaff_1 : decode cX3_silenceStaff 1 = .ok (.istore_n 2, 1) := by decide +kernel
theorem dX3_silenceStaff_2 : decode cX3_silenceStaff 2 = .ok (.iload_n 2, 1) := by decide +kernel
theorem dX3_silenceStaff_3 : decode cX3_silenceStaff 3 = .ok (.aload_n 0, 1) := by decide +kernel
theorem dX3_silenceStaff_4 : decode cX3_silenceStaff 4 = .ok (.getfield 29, 3) := by decide +kernel
theorem dX3_silenceStaff_7 : decode cX3_silenceStaff 7 = .ok (.if_icmp .ge 17, 3) := by decide +kernel
theorem dX3_silenceStaff_10 : decode cX3_silenceStaff 10 = .ok (.aload_n 0, 1) := by decide +kernel
theorem dX3_silenceStaff_11 : decode cX3_silenceStaff 11 = .ok (.iload_n 1, 1) := by decide +kernel
theorem dX3_silenceStaff_12 : decode cX3_silenceStaff 12 = .ok (.iload_n 2, 1) := by decide +kernel
theorem dX3_silenceStaff_13 : decode cX3_silenceStaff 13 = .ok (.bipush (-9), 2) := by decide +kernel
theorem dX3_silenceStaff_15 : decode cX3_silenceStaff 15 = .ok (.invokevirtual 66, 3) := by decide +kernel
theorem dX3_silenceStaff_18 : decode cX3_silenceStaff 18 = .ok (.iinc 2 1, 3) := by decide +kernel
theorem dX3_silenceStaff_21 : decode cX3_silenceStaff 21 = .ok (.goto (-19), 3) := by decide +kernel
theorem dX3_silenceStaff_24 : decode cX3_silenceStaff 24 = .ok (.return_, 1) := by decide +kernel
theorem dX3_moveStaff_0 : decode cX3_moveStaff 0 = .ok (.iconst 0, 1) := by decide +kernel
theorem dX3_moveStaff_1 : decode cX3_moveStaff 1 = .ok (.istore_n 3, 1) := by decide +kernel
theorem dX3_moveStaff_2 : decode cX3_moveStaff 2 = .ok (.iload_n 3, 1) := by decide +kernel
theorem dX3_moveStaff_3 : decode cX3_moveStaff 3 = .ok (.aload_n 0, 1) := by decide +kernel
theorem dX3_moveStaff_4 : decode cX3_moveStaff 4 = .ok (.getfield 29, 3) := by decide +kernel
theorem dX3_moveStaff_7 : decode cX3_moveStaff 7 = .ok (.if_icmp .ge 35, 3) := by decide +kernel
theorem dX3_moveStaff_10 : decode cX3_moveStaff 10 = .ok (.aload_n 0, 1) := by decide +kernel
theorem dX3_moveStaff_11 : decode cX3_moveStaff 11 = .ok (.iload_n 1, 1) := by decide +kernel
theorem dX3_moveStaff_12 : decode cX3_moveStaff 12 = .ok (.iload_n 3, 1) := by decide +kernel
theorem dX3_moveStaff_13 : decode cX3_moveStaff 13 = .ok (.invokevirtual 51, 3) := by decide +kernel
theorem dX3_moveStaff_16 : decode cX3_moveStaff 16 = .ok (.istore 4, 2) := by decide +kernel
theorem dX3_moveStaff_18 : decode cX3_moveStaff 18 = .ok (.iload 4, 2) := by decide +kernel
theorem dX3_moveStaff_20 : decode cX3_moveStaff 20 = .ok (.invokestatic 55, 3) := by decide +kernel
theorem dX3_moveStaff_23 : decode cX3_moveStaff 23 = .ok (.ifCond .eq 13, 3) := by decide +kernel
theorem dX3_moveStaff_26 : decode cX3_moveStaff 26 = .ok (.aload_n 0, 1) := by decide +kernel
theorem dX3_moveStaff_27 : decode cX3_moveStaff 27 = .ok (.iload_n 1, 1) := by decide +kernel
theorem dX3_moveStaff_28 : decode cX3_moveStaff 28 = .ok (.iload_n 3, 1) := by decide +kernel
theorem dX3_moveStaff_29 : decode cX3_moveStaff 29 = .ok (.iload 4, 2) := by decide +kernel
theorem dX3_moveStaff_31 : decode cX3_moveStaff 31 = .ok (.iload_n 2, 1) := by decide +kernel
theorem dX3_moveStaff_32 : decode cX3_moveStaff 32 = .ok (.iadd, 1) := by decide +kernel
theorem dX3_moveStaff_33 : decode cX3_moveStaff 33 = .ok (.invokevirtual 66, 3) := by decide +kernel
theorem dX3_moveStaff_36 : decode cX3_moveStaff 36 = .ok (.iinc 3 1, 3) := by decide +kernel
theorem dX3_moveStaff_39 : decode cX3_moveStaff 39 = .ok (.goto (-37), 3) := by decide +kernel
theorem dX3_moveStaff_42 : decode cX3_moveStaff 42 = .ok (.aload_n 0, 1) := by decide +kernel
theorem dX3_moveStaff_43 : decode cX3_moveStaff 43 = .ok (.iload_n 1, 1) := by decide +kernel
theorem dX3_moveStaff_44 : decode cX3_moveStaff 44 = .ok (.invokevirtual 58, 3) := by decide +kernel
theorem dX3_moveStaff_47 : decode cX3_moveStaff 47 = .ok (.ireturn, 1) := by decide +kernel
theorem dX3_swapStaves_0 : decode cX3_swapStaves 0 = .ok (.iconst 0, 1) := by decide +kernel
theorem dX3_swapStaves_1 : decode cX3_swapStaves 1 = .ok (.istore_n 3, 1) := by decide +kernel
theorem dX3_swapStaves_2 : decode cX3_swapStaves 2 = .ok (.iconst 0, 1) := by decide +kernel
theorem dX3_swapStaves_3 : decode cX3_swapStaves 3 = .ok (.istore 4, 2) := by decide +kernel
theorem dX3_swapStaves_5 : decode cX3_swapStaves 5 = .ok (.iload 4, 2) := by decide +kernel
theorem dX3_swapStaves_7 : decode cX3_swapStaves 7 = .ok (.aload_n 0, 1) := by decide +kernel
theorem dX3_swapStaves_8 : decode cX3_swapStaves 8 = .ok (.getfield 29, 3) := by decide +kernel
theorem dX3_swapStaves_11 : decode cX3_swapStaves 11 = .ok (.if_icmp .ge 55, 3) := by decide +kernel
theorem dX3_swapStaves_14 : decode cX3_swapStaves 14 = .ok (.aload_n 0, 1) := by decide +kernel
theorem dX3_swapStaves_15 : decode cX3_swapStaves 15 = .ok (.iload_n 1, 1) := by decide +kernel
theorem dX3_swapStaves_16 : decode cX3_swapStaves 16 = .ok (.iload 4, 2) := by decide +kernel
theorem dX3_swapStaves_18 : decode cX3_swapStaves 18 = .ok (.invokevirtual 51, 3) := by decide +kernel
theorem dX3_swapStaves_21 : decode cX3_swapStaves 21 = .ok (.istore 5, 2) := by decide +kernel
theorem dX3_swapStaves_23 : decode cX3_swapStaves 23 = .ok (.aload_n 0, 1) := by decide +kernel
theorem dX3_swapStaves_24 : decode cX3_swapStaves 24 = .ok (.iload_n 2, 1) := by decide +kernel
theorem dX3_swapStaves_25 : decode cX3_swapStaves 25 = .ok (.iload 4, 2) := by decide +kernel
theorem dX3_swapStaves_27 : decode cX3_swapStaves 27 = .ok (.invokevirtual 51, 3) := by decide +kernel
theorem dX3_swapStaves_30 : decode cX3_swapStaves 30 = .ok (.istore 6, 2) := by decide +kernel
theorem dX3_swapStaves_32 : decode cX3_swapStaves 32 = .ok (.iload 5, 2) := by decide +kernel
theorem dX3_swapStaves_34 : decode cX3_swapStaves 34 = .ok (.iload 6, 2) := by decide +kernel
theorem dX3_swapStaves_36 : decode cX3_swapStaves 36 = .ok (.if_icmp .eq 24, 3) := by decide +kernel
theorem dX3_swapStaves_39 : decode cX3_swapStaves 39 = .ok (.iinc 3 1, 3) := by decide +kernel
theorem dX3_swapStaves_42 : decode cX3_swapStaves 42 = .ok (.aload_n 0, 1) := by decide +kernel
theorem dX3_swapStaves_43 : decode cX3_swapStaves 43 = .ok (.iload_n 1, 1) := by decide +kernel
theorem dX3_swapStaves_44 : decode cX3_swapStaves 44 = .ok (.iload 4, 2) := by decide +kernel
theorem dX3_swapStaves_46 : decode cX3_swapStaves 46 = .ok (.iload 6, 2) := by decide +kernel
theorem dX3_swapStaves_48 : decode cX3_swapStaves 48 = .ok (.invokevirtual 66, 3) := by decide +kernel
theorem dX3_swapStaves_51 : decode cX3_swapStaves 51 = .ok (.aload_n 0, 1) := by decide +kernel
theorem dX3_swapStaves_52 : decode cX3_swapStaves 52 = .ok (.iload_n 2, 1) := by decide +kernel
theorem dX3_swapStaves_53 : decode cX3_swapStaves 53 = .ok (.iload 4, 2) := by decide +kernel
theorem dX3_swapStaves_55 : decode cX3_swapStaves 55 = .ok (.iload 5, 2) := by decide +kernel
theorem dX3_swapStaves_57 : decode cX3_swapStaves 57 = .ok (.invokevirtual 66, 3) := by decide +kernel
theorem dX3_swapStaves_60 : decode cX3_swapStaves 60 = .ok (.iinc 4 1, 3) := by decide +kernel
theorem dX3_swapStaves_63 : decode cX3_swapStaves 63 = .ok (.goto (-58), 3) := by decide +kernel
theorem dX3_swapStaves_66 : decode cX3_swapStaves 66 = .ok (.iload_n 3, 1) := by decide +kernel
theorem dX3_swapStaves_67 : decode cX3_swapStaves 67 = .ok (.ireturn, 1) := by decide +kernel
theorem dX3_addStaff_0 : decode cX3_addStaff 0 = .ok (.aload_n 0, 1) := by decide +kernel
theorem dX3_addStaff_1 : decode cX3_addStaff 1 = .ok (.getfield 25, 3) := by decide +kernel
theorem dX3_addStaff_4 : decode cX3_addStaff 4 = .ok (.iconst 4, 1) := by decide +kernel
theorem dX3_addStaff_5 : decode cX3_addStaff 5 = .ok (.if_icmp .ge 23, 3) := by decide +kernel
theorem dX3_addStaff_8 : decode cX3_addStaff 8 = .ok (.aload_n 0, 1) := by decide +kernel
theorem dX3_addStaff_9 : decode cX3_addStaff 9 = .ok (.dup, 1) := by decide +kernel
theorem dX3_addStaff_10 : decode cX3_addStaff 10 = .ok (.getfield 25, 3) := by decide +kernel
theorem dX3_addStaff_13 : decode cX3_addStaff 13 = .ok (.iconst 1, 1) := by decide +kernel
theorem dX3_addStaff_14 : decode cX3_addStaff 14 = .ok (.iadd, 1) := by decide +kernel
theorem dX3_addStaff_15 : decode cX3_addStaff 15 = .ok (.putfield 25, 3) := by decide +kernel
theorem dX3_addStaff_18 : decode cX3_addStaff 18 = .ok (.aload_n 0, 1) := by decide +kernel
theorem dX3_addStaff_19 : decode cX3_addStaff 19 = .ok (.aload_n 0, 1) := by decide +kernel
theorem dX3_addStaff_20 : decode cX3_addStaff 20 = .ok (.getfield 25, 3) := by decide +kernel
theorem dX3_addStaff_23 : decode cX3_addStaff 23 = .ok (.iconst 1, 1) := by decide +kernel
theorem dX3_addStaff_24 : decode cX3_addStaff 24 = .ok (.isub, 1) := by decide +kernel
theorem dX3_addStaff_25 : decode cX3_addStaff 25 = .ok (.invokevirtual 70, 3) := by decide +kernel
theorem dX3_addStaff_28 : decode cX3_addStaff 28 = .ok (.return_, 1) := by decide +kernel
theorem dX3_dropStaff_0 : decode cX3_dropStaff 0 = .ok (.aload_n 0, 1) := by decide +kernel
theorem dX3_dropStaff_1 : decode cX3_dropStaff 1 = .ok (.getfield 25, 3) := by decide +kernel
theorem dX3_dropStaff_4 : decode cX3_dropStaff 4 = .ok (.iconst 1, 1) := by decide +kernel
theorem dX3_dropStaff_5 : decode cX3_dropStaff 5 = .ok (.if_icmp .le 13, 3) := by decide +kernel
theorem dX3_dropStaff_8 : decode cX3_dropStaff 8 = .ok (.aload_n 0, 1) := by decide +kernel
theorem dX3_dropStaff_9 : decode cX3_dropStaff 9 = .ok (.dup, 1) := by decide +kernel
theorem dX3_dropStaff_10 : decode cX3_dropStaff 10 = .ok (.getfield 25, 3) := by decide +kernel
theorem dX3_dropStaff_13 : decode cX3_dropStaff 13 = .ok (.iconst 1, 1) := by decide +kernel
theorem dX3_dropStaff_14 : decode cX3_dropStaff 14 = .ok (.isub, 1) := by decide +kernel
theorem dX3_dropStaff_15 : decode cX3_dropStaff 15 = .ok (.putfield 25, 3) := by decide +kernel
theorem dX3_dropStaff_18 : decode cX3_dropStaff 18 = .ok (.return_, 1) := by decide +kernel
theorem dX3_openBeat_0 : decode cX3_openBeat 0 = .ok (.aload_n 0, 1) := by decide +kernel
theorem dX3_openBeat_1 : decode cX3_openBeat 1 = .ok (.getfield 29, 3) := by decide +kernel
theorem dX3_openBeat_4 : decode cX3_openBeat 4 = .ok (.bipush 16, 2) := by decide +kernel
theorem dX3_openBeat_6 : decode cX3_openBeat 6 = .ok (.if_icmp .lt 4, 3) := by decide +kernel
theorem dX3_openBeat_9 : decode cX3_openBeat 9 = .ok (.return_, 1) := by decide +kernel
theorem dX3_openBeat_10 : decode cX3_openBeat 10 = .ok (.aload_n 0, 1) := by decide +kernel
theorem dX3_openBeat_11 : decode cX3_openBeat 11 = .ok (.dup, 1) := by decide +kernel
theorem dX3_openBeat_12 : decode cX3_openBeat 12 = .ok (.getfield 29, 3) := by decide +kernel
theorem dX3_openBeat_15 : decode cX3_openBeat 15 = .ok (.iconst 1, 1) := by decide +kernel
theorem dX3_openBeat_16 : decode cX3_openBeat 16 = .ok (.iadd, 1) := by decide +kernel
theorem dX3_openBeat_17 : decode cX3_openBeat 17 = .ok (.putfield 29, 3) := by decide +kernel
theorem dX3_openBeat_20 : decode cX3_openBeat 20 = .ok (.iconst 0, 1) := by decide +kernel
theorem dX3_openBeat_21 : decode cX3_openBeat 21 = .ok (.istore_n 2, 1) := by decide +kernel
theorem dX3_openBeat_22 : decode cX3_openBeat 22 = .ok (.iload_n 2, 1) := by decide +kernel
theorem dX3_openBeat_23 : decode cX3_openBeat 23 = .ok (.aload_n 0, 1) := by decide +kernel
theorem dX3_openBeat_24 : decode cX3_openBeat 24 = .ok (.getfield 25, 3) := by decide +kernel
theorem dX3_openBeat_27 : decode cX3_openBeat 27 = .ok (.if_icmp .ge 49, 3) := by decide +kernel
theorem dX3_openBeat_30 : decode cX3_openBeat 30 = .ok (.aload_n 0, 1) := by decide +kernel
theorem dX3_openBeat_31 : decode cX3_openBeat 31 = .ok (.getfield 29, 3) := by decide +kernel
theorem dX3_openBeat_34 : decode cX3_openBeat 34 = .ok (.iconst 1, 1) := by decide +kernel
theorem dX3_openBeat_35 : decode cX3_openBeat 35 = .ok (.isub, 1) := by decide +kernel
theorem dX3_openBeat_36 : decode cX3_openBeat 36 = .ok (.istore_n 3, 1) := by decide +kernel
theorem dX3_openBeat_37 : decode cX3_openBeat 37 = .ok (.iload_n 3, 1) := by decide +kernel
theorem dX3_openBeat_38 : decode cX3_openBeat 38 = .ok (.iload_n 1, 1) := by decide +kernel
theorem dX3_openBeat_39 : decode cX3_openBeat 39 = .ok (.if_icmp .le 23, 3) := by decide +kernel
theorem dX3_openBeat_42 : decode cX3_openBeat 42 = .ok (.aload_n 0, 1) := by decide +kernel
theorem dX3_openBeat_43 : decode cX3_openBeat 43 = .ok (.iload_n 2, 1) := by decide +kernel
theorem dX3_openBeat_44 : decode cX3_openBeat 44 = .ok (.iload_n 3, 1) := by decide +kernel
theorem dX3_openBeat_45 : decode cX3_openBeat 45 = .ok (.aload_n 0, 1) := by decide +kernel
theorem dX3_openBeat_46 : decode cX3_openBeat 46 = .ok (.iload_n 2, 1) := by decide +kernel
theorem dX3_openBeat_47 : decode cX3_openBeat 47 = .ok (.iload_n 3, 1) := by decide +kernel
theorem dX3_openBeat_48 : decode cX3_openBeat 48 = .ok (.iconst 1, 1) := by decide +kernel
theorem dX3_openBeat_49 : decode cX3_openBeat 49 = .ok (.isub, 1) := by decide +kernel
theorem dX3_openBeat_50 : decode cX3_openBeat 50 = .ok (.invokevirtual 51, 3) := by decide +kernel
theorem dX3_openBeat_53 : decode cX3_openBeat 53 = .ok (.invokevirtual 66, 3) := by decide +kernel
theorem dX3_openBeat_56 : decode cX3_openBeat 56 = .ok (.iinc 3 (-1), 3) := by decide +kernel
theorem dX3_openBeat_59 : decode cX3_openBeat 59 = .ok (.goto (-22), 3) := by decide +kernel
theorem dX3_openBeat_62 : decode cX3_openBeat 62 = .ok (.aload_n 0, 1) := by decide +kernel
theorem dX3_openBeat_63 : decode cX3_openBeat 63 = .ok (.iload_n 2, 1) := by decide +kernel
theorem dX3_openBeat_64 : decode cX3_openBeat 64 = .ok (.iload_n 1, 1) := by decide +kernel
theorem dX3_openBeat_65 : decode cX3_openBeat 65 = .ok (.bipush (-9), 2) := by decide +kernel
theorem dX3_openBeat_67 : decode cX3_openBeat 67 = .ok (.invokevirtual 66, 3) := by decide +kernel
theorem dX3_openBeat_70 : decode cX3_openBeat 70 = .ok (.iinc 2 1, 3) := by decide +kernel
theorem dX3_openBeat_73 : decode cX3_openBeat 73 = .ok (.goto (-51), 3) := by decide +kernel
theorem dX3_openBeat_76 : decode cX3_openBeat 76 = .ok (.return_, 1) := by decide +kernel
theorem dX3_closeBeat_0 : decode cX3_closeBeat 0 = .ok (.aload_n 0, 1) := by decide +kernel
theorem dX3_closeBeat_1 : decode cX3_closeBeat 1 = .ok (.getfield 29, 3) := by decide +kernel
theorem dX3_closeBeat_4 : decode cX3_closeBeat 4 = .ok (.iconst 1, 1) := by decide +kernel
theorem dX3_closeBeat_5 : decode cX3_closeBeat 5 = .ok (.if_icmp .gt 4, 3) := by decide +kernel
theorem dX3_closeBeat_8 : decode cX3_closeBeat 8 = .ok (.return_, 1) := by decide +kernel
theorem dX3_closeBeat_9 : decode cX3_closeBeat 9 = .ok (.iconst 0, 1) := by decide +kernel
theorem dX3_closeBeat_10 : decode cX3_closeBeat 10 = .ok (.istore_n 2, 1) := by decide +kernel
theorem dX3_closeBeat_11 : decode cX3_closeBeat 11 = .ok (.iload_n 2, 1) := by decide +kernel
theorem dX3_closeBeat_12 : decode cX3_closeBeat 12 = .ok (.aload_n 0, 1) := by decide +kernel
theorem dX3_closeBeat_13 : decode cX3_closeBeat 13 = .ok (.getfield 25, 3) := by decide +kernel
theorem dX3_closeBeat_16 : decode cX3_closeBeat 16 = .ok (.if_icmp .ge 41, 3) := by decide +kernel
theorem dX3_closeBeat_19 : decode cX3_closeBeat 19 = .ok (.iload_n 1, 1) := by decide +kernel
theorem dX3_closeBeat_20 : decode cX3_closeBeat 20 = .ok (.istore_n 3, 1) := by decide +kernel
theorem dX3_closeBeat_21 : decode cX3_closeBeat 21 = .ok (.iload_n 3, 1) := by decide +kernel
theorem dX3_closeBeat_22 : decode cX3_closeBeat 22 = .ok (.aload_n 0, 1) := by decide +kernel
theorem dX3_closeBeat_23 : decode cX3_closeBeat 23 = .ok (.getfield 29, 3) := by decide +kernel
theorem dX3_closeBeat_26 : decode cX3_closeBeat 26 = .ok (.iconst 1, 1) := by decide +kernel
theorem dX3_closeBeat_27 : decode cX3_closeBeat 27 = .ok (.isub, 1) := by decide +kernel
theorem dX3_closeBeat_28 : decode cX3_closeBeat 28 = .ok (.if_icmp .ge 23, 3) := by decide +kernel
theorem dX3_closeBeat_31 : decode cX3_closeBeat 31 = .ok (.aload_n 0, 1) := by decide +kernel
theorem dX3_closeBeat_32 : decode cX3_closeBeat 32 = .ok (.iload_n 2, 1) := by decide +kernel
theorem dX3_closeBeat_33 : decode cX3_closeBeat 33 = .ok (.iload_n 3, 1) := by decide +kernel
theorem dX3_closeBeat_34 : decode cX3_closeBeat 34 = .ok (.aload_n 0, 1) := by decide +kernel
theorem dX3_closeBeat_35 : decode cX3_closeBeat 35 = .ok (.iload_n 2, 1) := by decide +kernel
theorem dX3_closeBeat_36 : decode cX3_closeBeat 36 = .ok (.iload_n 3, 1) := by decide +kernel
theorem dX3_closeBeat_37 : decode cX3_closeBeat 37 = .ok (.iconst 1, 1) := by decide +kernel
theorem dX3_closeBeat_38 : decode cX3_closeBeat 38 = .ok (.iadd, 1) := by decide +kernel
theorem dX3_closeBeat_39 : decode cX3_closeBeat 39 = .ok (.invokevirtual 51, 3) := by decide +kernel
theorem dX3_closeBeat_42 : decode cX3_closeBeat 42 = .ok (.invokevirtual 66, 3) := by decide +kernel
theorem dX3_closeBeat_45 : decode cX3_closeBeat 45 = .ok (.iinc 3 1, 3) := by decide +kernel
theorem dX3_closeBeat_48 : decode cX3_closeBeat 48 = .ok (.goto (-27), 3) := by decide +kernel
theorem dX3_closeBeat_51 : decode cX3_closeBeat 51 = .ok (.iinc 2 1, 3) := by decide +kernel
theorem dX3_closeBeat_54 : decode cX3_closeBeat 54 = .ok (.goto (-43), 3) := by decide +kernel
theorem dX3_closeBeat_57 : decode cX3_closeBeat 57 = .ok (.aload_n 0, 1) := by decide +kernel
theorem dX3_closeBeat_58 : decode cX3_closeBeat 58 = .ok (.dup, 1) := by decide +kernel
theorem dX3_closeBeat_59 : decode cX3_closeBeat 59 = .ok (.getfield 29, 3) := by decide +kernel
theorem dX3_closeBeat_62 : decode cX3_closeBeat 62 = .ok (.iconst 1, 1) := by decide +kernel
theorem dX3_closeBeat_63 : decode cX3_closeBeat 63 = .ok (.isub, 1) := by decide +kernel
theorem dX3_closeBeat_64 : decode cX3_closeBeat 64 = .ok (.putfield 29, 3) := by decide +kernel
theorem dX3_closeBeat_67 : decode cX3_closeBeat 67 = .ok (.return_, 1) := by decide +kernel
theorem dX3_dropLooseHolds_0 : decode cX3_dropLooseHolds 0 = .ok (.iconst 0, 1) := by decide +kernel
theorem dX3_dropLooseHolds_1 : decode cX3_dropLooseHolds 1 = .ok (.istore_n 1, 1) := by decide +kernel
theorem dX3_dropLooseHolds_2 : decode cX3_dropLooseHolds 2 = .ok (.iload_n 1, 1) := by decide +kernel
theorem dX3_dropLooseHolds_3 : decode cX3_dropLooseHolds 3 = .ok (.aload_n 0, 1) := by decide +kernel
theorem dX3_dropLooseHolds_4 : decode cX3_dropLooseHolds 4 = .ok (.getfield 25, 3) := by decide +kernel
theorem dX3_dropLooseHolds_7 : decode cX3_dropLooseHolds 7 = .ok (.if_icmp .ge 53, 3) := by decide +kernel
theorem dX3_dropLooseHolds_10 : decode cX3_dropLooseHolds 10 = .ok (.iconst 0, 1) := by decide +kernel
theorem dX3_dropLooseHolds_11 : decode cX3_dropLooseHolds 11 = .ok (.istore_n 2, 1) := by decide +kernel
theorem dX3_dropLooseHolds_12 : decode cX3_dropLooseHolds 12 = .ok (.iload_n 2, 1) := by decide +kernel
theorem dX3_dropLooseHolds_13 : decode cX3_dropLooseHolds 13 = .ok (.aload_n 0, 1) := by decide +kernel
theorem dX3_dropLooseHolds_14 : decode cX3_dropLooseHolds 14 = .ok (.getfield 29, 3) := by decide +kernel
theorem dX3_dropLooseHolds_17 : decode cX3_dropLooseHolds 17 = .ok (.if_icmp .ge 37, 3) := by decide +kernel
theorem dX3_dropLooseHolds_20 : decode cX3_dropLooseHolds 20 = .ok (.aload_n 0, 1) := by decide +kernel
theorem dX3_dropLooseHolds_21 : decode cX3_dropLooseHolds 21 = .ok (.iload_n 1, 1) := by decide +kernel
theorem dX3_dropLooseHolds_22 : decode cX3_dropLooseHolds 22 = .ok (.iload_n 2, 1) := by decide +kernel
theorem dX3_dropLooseHolds_23 : decode cX3_dropLooseHolds 23 = .ok (.invokevirtual 51, 3) := by decide +kernel
theorem dX3_dropLooseHolds_26 : decode cX3_dropLooseHolds 26 = .ok (.bipush 99, 2) := by decide +kernel
theorem dX3_dropLooseHolds_28 : decode cX3_dropLooseHolds 28 = .ok (.if_icmp .ne 20, 3) := by decide +kernel
theorem dX3_dropLooseHolds_31 : decode cX3_dropLooseHolds 31 = .ok (.aload_n 0, 1) := by decide +kernel
theorem dX3_dropLooseHolds_32 : decode cX3_dropLooseHolds 32 = .ok (.iload_n 1, 1) := by decide +kernel
theorem dX3_dropLooseHolds_33 : decode cX3_dropLooseHolds 33 = .ok (.iload_n 2, 1) := by decide +kernel
theorem dX3_dropLooseHolds_34 : decode cX3_dropLooseHolds 34 = .ok (.invokevirtual 74, 3) := by decide +kernel
theorem dX3_dropLooseHolds_37 : decode cX3_dropLooseHolds 37 = .ok (.ifCond .ne 11, 3) := by decide +kernel
theorem dX3_dropLooseHolds_40 : decode cX3_dropLooseHolds 40 = .ok (.aload_n 0, 1) := by decide +kernel
theorem dX3_dropLooseHolds_41 : decode cX3_dropLooseHolds 41 = .ok (.iload_n 1, 1) := by decide +kernel
theorem dX3_dropLooseHolds_42 : decode cX3_dropLooseHolds 42 = .ok (.iload_n 2, 1) := by decide +kernel
theorem dX3_dropLooseHolds_43 : decode cX3_dropLooseHolds 43 = .ok (.bipush (-9), 2) := by decide +kernel
theorem dX3_dropLooseHolds_45 : decode cX3_dropLooseHolds 45 = .ok (.invokevirtual 66, 3) := by decide +kernel
theorem dX3_dropLooseHolds_48 : decode cX3_dropLooseHolds 48 = .ok (.iinc 2 1, 3) := by decide +kernel
theorem dX3_dropLooseHolds_51 : decode cX3_dropLooseHolds 51 = .ok (.goto (-39), 3) := by decide +kernel
theorem dX3_dropLooseHolds_54 : decode cX3_dropLooseHolds 54 = .ok (.iinc 1 1, 3) := by decide +kernel
theorem dX3_dropLooseHolds_57 : decode cX3_dropLooseHolds 57 = .ok (.goto (-55), 3) := by decide +kernel
theorem dX3_dropLooseHolds_60 : decode cX3_dropLooseHolds 60 = .ok (.return_, 1) := by decide +kernel
theorem dX4_init_0 : decode cX4_init 0 = .ok (.aload_n 0, 1) := by decide +kernel
theorem dX4_init_1 : decode cX4_init 1 = .ok (.invokespecial 3, 3) := by decide +kernel
theorem dX4_init_4 : decode cX4_init 4 = .ok (.aload_n 0, 1) := by decide +kernel
theorem dX4_init_5 : decode cX4_init 5 = .ok (.sipush 140, 3) := by decide +kernel
theorem dX4_init_8 : decode cX4_init 8 = .ok (.newarray .char, 2) := by decide +kernel
theorem dX4_init_10 : decode cX4_init 10 = .ok (.putfield 9, 3) := by decide +kernel
theorem dX4_init_13 : decode cX4_init 13 = .ok (.return_, 1) := by decide +kernel
theorem dX4_isFull_0 : decode cX4_isFull 0 = .ok (.aload_n 0, 1) := by decide +kernel
theorem dX4_isFull_1 : decode cX4_isFull 1 = .ok (.getfield 15, 3) := by decide +kernel
theorem dX4_isFull_4 : decode cX4_isFull 4 = .ok (.sipush 140, 3) := by decide +kernel
theorem dX4_isFull_7 : decode cX4_isFull 7 = .ok (.if_icmp .lt 7, 3) := by decide +kernel
theorem dX4_isFull_10 : decode cX4_isFull 10 = .ok (.iconst 1, 1) := by decide +kernel
theorem dX4_isFull_11 : decode cX4_isFull 11 = .ok (.goto 4, 3) := by decide +kernel
theorem dX4_isFull_14 : decode cX4_isFull 14 = .ok (.iconst 0, 1) := by decide +kernel
theorem dX4_isFull_15 : decode cX4_isFull 15 = .ok (.ireturn, 1) := by decide +kernel
theorem dX4_add_0 : decode cX4_add 0 = .ok (.aload_n 0, 1) := by decide +kernel
theorem dX4_add_1 : decode cX4_add 1 = .ok (.invokevirtual 19, 3) := by decide +kernel
theorem dX4_add_4 : decode cX4_add 4 = .ok (.ifCond .ne 23, 3) := by decide +kernel
theorem dX4_add_7 : decode cX4_add 7 = .ok (.aload_n 0, 1) := by decide +kernel
theorem dX4_add_8 : decode cX4_add 8 = .ok (.getfield 9, 3) := by decide +kernel
theorem dX4_add_11 : decode cX4_add 11 = .ok (.aload_n 0, 1) := by decide +kernel
theorem dX4_add_12 : decode cX4_add 12 = .ok (.getfield 15, 3) := by decide +kernel
theorem dX4_add_15 : decode cX4_add 15 = .ok (.iload_n 1, 1) := by decide +kernel
theorem dX4_add_16 : decode cX4_add 16 = .ok (.castore, 1) := by decide +kernel
theorem dX4_add_17 : decode cX4_add 17 = .ok (.aload_n 0, 1) := by decide +kernel
theorem dX4_add_18 : decode cX4_add 18 = .ok (.dup, 1) := by decide +kernel
theorem dX4_add_19 : decode cX4_add 19 = .ok (.getfield 15, 3) := by decide +kernel
theorem dX4_add_22 : decode cX4_add 22 = .ok (.iconst 1, 1) := by decide +kernel
theorem dX4_add_23 : decode cX4_add 23 = .ok (.iadd, 1) := by decide +kernel
theorem dX4_add_24 : decode cX4_add 24 = .ok (.putfield 15, 3) := by decide +kernel
theorem dX4_add_27 : decode cX4_add 27 = .ok (.aload_n 0, 1) := by decide +kernel
theorem dX4_add_28 : decode cX4_add 28 = .ok (.getfield 15, 3) := by decide +kernel
theorem dX4_add_31 : decode cX4_add 31 = .ok (.ireturn, 1) := by decide +kernel
theorem dX4_empty_0 : decode cX4_empty 0 = .ok (.aload_n 0, 1) := by decide +kernel
theorem dX4_empty_1 : decode cX4_empty 1 = .ok (.getfield 15, 3) := by decide +kernel
theorem dX4_empty_4 : decode cX4_empty 4 = .ok (.istore_n 1, 1) := by decide +kernel
theorem dX4_empty_5 : decode cX4_empty 5 = .ok (.aload_n 0, 1) := by decide +kernel
theorem dX4_empty_6 : decode cX4_empty 6 = .ok (.iconst 0, 1) := by decide +kernel
theorem dX4_empty_7 : decode cX4_empty 7 = .ok (.putfield 15, 3) := by decide +kernel
theorem dX4_empty_10 : decode cX4_empty 10 = .ok (.iload_n 1, 1) := by decide +kernel
theorem dX4_empty_11 : decode cX4_empty 11 = .ok (.ireturn, 1) := by decide +kernel
theorem dX4_readInto_0 : decode cX4_readInto 0 = .ok (.aload_n 0, 1) := by decide +kernel
theorem dX4_readInto_1 : decode cX4_readInto 1 = .ok (.iconst 0, 1) := by decide +kernel
theorem dX4_readInto_2 : decode cX4_readInto 2 = .ok (.invokevirtual 23, 3) := by decide +kernel
theorem dX4_readInto_5 : decode cX4_readInto 5 = .ok (.bipush 77, 2) := by decide +kernel
theorem dX4_readInto_7 : decode cX4_readInto 7 = .ok (.if_icmp .eq 5, 3) := by decide +kernel
theorem dX4_readInto_10 : decode cX4_readInto 10 = .ok (.iconst 0, 1) := by decide +kernel
theorem dX4_readInto_11 : decode cX4_readInto 11 = .ok (.ireturn, 1) := by decide +kernel
theorem dX4_readInto_12 : decode cX4_readInto 12 = .ok (.aload_n 0, 1) := by decide +kernel
theorem dX4_readInto_13 : decode cX4_readInto 13 = .ok (.iconst 1, 1) := by decide +kernel
theorem dX4_readInto_14 : decode cX4_readInto 14 = .ok (.invokevirtual 27, 3) := by decide +kernel
theorem dX4_readInto_17 : decode cX4_readInto 17 = .ok (.istore_n 2, 1) := by decide +kernel
theorem dX4_readInto_18 : decode cX4_readInto 18 = .ok (.iload_n 2, 1) := by decide +kernel
theorem dX4_readInto_19 : decode cX4_readInto 19 = .ok (.iconst 1, 1) := by decide +kernel
theorem dX4_readInto_20 : decode cX4_readInto 20 = .ok (.if_icmp .lt 8, 3) := by decide +kernel
theorem dX4_readInto_23 : decode cX4_readInto 23 = .ok (.iload_n 2, 1) := by decide +kernel
theorem dX4_readInto_24 : decode cX4_readInto 24 = .ok (.iconst 4, 1) := by decide +kernel
theorem dX4_readInto_25 : decode cX4_readInto 25 = .ok (.if_icmp .le 5, 3) := by decide +kernel
theorem dX4_readInto_28 : decode cX4_readInto 28 = .ok (.iconst 1, 1) := by decide +kernel
theorem dX4_readInto_29 : decode cX4_readInto 29 = .ok (.ireturn, 1) := by decide +kernel
theorem dX4_readInto_30 : decode cX4_readInto 30 = .ok (.aload_n 0, 1) := by decide +kernel
theorem dX4_readInto_31 : decode cX4_readInto 31 = .ok (.iconst 2, 1) := by decide +kernel
theorem dX4_readInto_32 : decode cX4_readInto 32 = .ok (.invokevirtual 27, 3) := by decide +kernel
theorem dX4_readInto_35 : decode cX4_readInto 35 = .ok (.istore_n 3, 1) := by decide +kernel
theorem dX4_readInto_36 : decode cX4_readInto 36 = .ok (.iload_n 3, 1) := by decide +kernel
theorem dX4_readInto_37 : decode cX4_readInto 37 = .ok (.ifCond .lt 8, 3) := by decide +kernel
theorem dX4_readInto_40 : decode cX4_readInto 40 = .ok (.iload_n 3, 1) := by decide +kernel
theorem dX4_readInto_41 : decode cX4_readInto 41 = .ok (.iconst 1, 1) := by decide +kernel
theorem dX4_readInto_42 : decode cX4_readInto 42 = .ok (.if_icmp .le 5, 3) := by decide +kernel
theorem dX4_readInto_45 : decode cX4_readInto 45 = .ok (.iconst 2, 1) := by decide +kernel
theorem dX4_readInto_46 : decode cX4_readInto 46 = .ok (.ireturn, 1) := by decide +kernel
theorem dX4_readInto_47 : decode cX4_readInto 47 = .ok (.aload_n 0, 1) := by decide +kernel
theorem dX4_readInto_48 : decode cX4_readInto 48 = .ok (.iconst 3, 1) := by decide +kernel
theorem dX4_readInto_49 : decode cX4_readInto 49 = .ok (.invokevirtual 27, 3) := by decide +kernel
theorem dX4_readInto_52 : decode cX4_readInto 52 = .ok (.istore 4, 2) := by decide +kernel
theorem dX4_readInto_54 : decode cX4_readInto 54 = .ok (.bipush 10, 2) := by decide +kernel
theorem dX4_readInto_56 : decode cX4_readInto 56 = .ok (.iload_n 3, 1) := by decide +kernel
theorem dX4_readInto_57 : decode cX4_readInto 57 = .ok (.imul, 1) := by decide +kernel
theorem dX4_readInto_58 : decode cX4_readInto 58 = .ok (.iload 4, 2) := by decide +kernel
theorem dX4_readInto_60 : decode cX4_readInto 60 = .ok (.iadd, 1) := by decide +kernel
theorem dX4_readInto_61 : decode cX4_readInto 61 = .ok (.istore 5, 2) := by decide +kernel
theorem dX4_readInto_63 : decode cX4_readInto 63 = .ok (.iload 4, 2) := by decide +kernel
theorem dX4_readInto_65 : decode cX4_readInto 65 = .ok (.iconst (-1), 1) := by decide +kernel
theorem dX4_readInto_66 : decode cX4_readInto 66 = .ok (.if_icmp .eq 16, 3) := by decide +kernel
theorem dX4_readInto_69 : decode cX4_readInto 69 = .ok (.iload 5, 2) := by decide +kernel
theorem dX4_readInto_71 : decode cX4_readInto 71 = .ok (.iconst 1, 1) := by decide +kernel
theorem dX4_readInto_72 : decode cX4_readInto 72 = .ok (.if_icmp .lt 10, 3) := by decide +kernel
theorem dX4_readInto_75 : decode cX4_readInto 75 = .ok (.iload 5, 2) := by decide +kernel
theorem dX4_readInto_77 : decode cX4_readInto 77 = .ok (.bipush 16, 2) := by decide +kernel
theorem dX4_readInto_79 : decode cX4_readInto 79 = .ok (.if_icmp .le 5, 3) := by decide +kernel
theorem dX4_readInto_82 : decode cX4_readInto 82 = .ok (.iconst 3, 1) := by decide +kernel
theorem dX4_readInto_83 : decode cX4_readInto 83 = .ok (.ireturn, 1) := by decide +kernel
theorem dX4_readInto_84 : decode cX4_readInto 84 = .ok (.aload_n 1, 1) := by decide +kernel
theorem dX4_readInto_85 : decode cX4_readInto 85 = .ok (.iload_n 2, 1) := by decide +kernel
theorem dX4_readInto_86 : decode cX4_readInto 86 = .ok (.iload 5, 2) := by decide +kernel
theorem dX4_readInto_88 : decode cX4_readInto 88 = .ok (.invokevirtual 30, 3) := by decide +kernel
theorem dX4_readInto_91 : decode cX4_readInto 91 = .ok (.aload_n 0, 1) := by decide +kernel
theorem dX4_readInto_92 : decode cX4_readInto 92 = .ok (.iconst 4, 1) := by decide +kernel
theorem dX4_readInto_93 : decode cX4_readInto 93 = .ok (.putfield 36, 3) := by decide +kernel
theorem dX4_readInto_96 : decode cX4_readInto 96 = .ok (.iconst 0, 1) := by decide +kernel
theorem dX4_readInto_97 : decode cX4_readInto 97 = .ok (.istore 6, 2) := by decide +kernel
theorem dX4_readInto_99 : decode cX4_readInto 99 = .ok (.iload 6, 2) := by decide +kernel
theorem dX4_readInto_101 : decode cX4_readInto 101 = .ok (.iload_n 2, 1) := by decide +kernel
theorem dX4_readInto_102 : decode cX4_readInto 102 = .ok (.if_icmp .ge 42, 3) := by decide +kernel
theorem dX4_readInto_105 : decode cX4_readInto 105 = .ok (.iconst 0, 1) := by decide +kernel
theorem dX4_readInto_106 : decode cX4_readInto 106 = .ok (.istore 7, 2) := by decide +kernel
theorem dX4_readInto_108 : decode cX4_readInto 108 = .ok (.iload 7, 2) := by decide +kernel
theorem dX4_readInto_110 : decode cX4_readInto 110 = .ok (.iload 5, 2) := by decide +kernel
theorem dX4_readInto_112 : decode cX4_readInto 112 = .ok (.if_icmp .ge 26, 3) := by decide +kernel
theorem dX4_readInto_115 : decode cX4_readInto 115 = .ok (.aload_n 0, 1) := by decide +kernel
theorem dX4_readInto_116 : decode cX4_readInto 116 = .ok (.aload_n 1, 1) := by decide +kernel
theorem dX4_readInto_117 : decode cX4_readInto 117 = .ok (.iload 6, 2) := by decide +kernel
theorem dX4_readInto_119 : decode cX4_readInto 119 = .ok (.iload 7, 2) := by decide +kernel
theorem dX4_readInto_121 : decode cX4_readInto 121 = .ok (.invokevirtual 39, 3) := by decide +kernel
theorem dX4_readInto_124 : decode cX4_readInto 124 = .ok (.ifCond .ne 8, 3) := by decide +kernel
theorem dX4_readInto_127 : decode cX4_readInto 127 = .ok (.aload_n 0, 1) := by decide +kernel
theorem dX4_readInto_128 : decode cX4_readInto 128 = .ok (.getfield 36, 3) := by decide +kernel
theorem dX4_readInto_131 : decode cX4_readInto 131 = .ok (.ireturn, 1) := by decide +kernel
theorem dX4_readInto_132 : decode cX4_readInto 132 = .ok (.iinc 7 1, 3) := by decide +kernel
theorem dX4_readInto_135 : decode cX4_readInto 135 = .ok (.goto (-27), 3) := by decide +kernel
theorem dX4_readInto_138 : decode cX4_readInto 138 = .ok (.iinc 6 1, 3) := by decide +kernel
theorem dX4_readInto_141 : decode cX4_readInto 141 = .ok (.goto (-42), 3) := by decide +kernel
theorem dX4_readInto_144 : decode cX4_readInto 144 = .ok (.aload_n 0, 1) := by decide +kernel
theorem dX4_readInto_145 : decode cX4_readInto 145 = .ok (.getfield 36, 3) := by decide +kernel
theorem dX4_readInto_148 : decode cX4_readInto 148 = .ok (.aload_n 0, 1) := by decide +kernel
theorem dX4_readInto_149 : decode cX4_readInto 149 = .ok (.getfield 15, 3) := by decide +kernel
theorem dX4_readInto_152 : decode cX4_readInto 152 = .ok (.if_icmp .ne 8, 3) := by decide +kernel
theorem dX4_readInto_155 : decode cX4_readInto 155 = .ok (.bipush (-9), 2) := by decide +kernel
theorem dX4_readInto_157 : decode cX4_readInto 157 = .ok (.goto 7, 3) := by decide +kernel
theorem dX4_readInto_160 : decode cX4_readInto 160 = .ok (.aload_n 0, 1) := by decide +kernel
theorem dX4_readInto_161 : decode cX4_readInto 161 = .ok (.getfield 36, 3) := by decide +kernel
theorem dX4_readInto_164 : decode cX4_readInto 164 = .ok (.ireturn, 1) := by decide +kernel
theorem dX4_readCell_0 : decode cX4_readCell 0 = .ok (.aload_n 0, 1) := by decide +kernel
theorem dX4_readCell_1 : decode cX4_readCell 1 = .ok (.aload_n 0, 1) := by decide +kernel
theorem dX4_readCell_2 : decode cX4_readCell 2 = .ok (.getfield 36, 3) := by decide +kernel
theorem dX4_readCell_5 : decode cX4_readCell 5 = .ok (.invokevirtual 23, 3) := by decide +kernel
theorem dX4_readCell_8 : decode cX4_readCell 8 = .ok (.istore 4, 2) := by decide +kernel
theorem dX4_readCell_10 : decode cX4_readCell 10 = .ok (.iload 4, 2) := by decide +kernel
theorem dX4_readCell_12 : decode cX4_readCell 12 = .ok (.bipush 45, 2) := by decide +kernel
theorem dX4_readCell_14 : decode cX4_readCell 14 = .ok (.if_icmp .eq 19, 3) := by decide +kernel
theorem dX4_readCell_17 : decode cX4_readCell 17 = .ok (.iload 4, 2) := by decide +kernel
theorem dX4_readCell_19 : decode cX4_readCell 19 = .ok (.bipush 61, 2) := by decide +kernel
theorem dX4_readCell_21 : decode cX4_readCell 21 = .ok (.if_icmp .ne 44, 3) := by decide +kernel
theorem dX4_readCell_24 : decode cX4_readCell 24 = .ok (.aload_n 1, 1) := by decide +kernel
theorem dX4_readCell_25 : decode cX4_readCell 25 = .ok (.iload_n 2, 1) := by decide +kernel
theorem dX4_readCell_26 : decode cX4_readCell 26 = .ok (.iload_n 3, 1) := by decide +kernel
theorem dX4_readCell_27 : decode cX4_readCell 27 = .ok (.invokevirtual 43, 3) := by decide +kernel
theorem dX4_readCell_30 : decode cX4_readCell 30 = .ok (.ifCond .eq 35, 3) := by decide +kernel
theorem dX4_readCell_33 : decode cX4_readCell 33 = .ok (.aload_n 1, 1) := by decide +kernel
theorem dX4_readCell_34 : decode cX4_readCell 34 = .ok (.iload_n 2, 1) := by decide +kernel
theorem dX4_readCell_35 : decode cX4_readCell 35 = .ok (.iload_n 3, 1) := by decide +kernel
theorem dX4_readCell_36 : decode cX4_readCell 36 = .ok (.iload 4, 2) := by decide +kernel
theorem dX4_readCell_38 : decode cX4_readCell 38 = .ok (.bipush 45, 2) := by decide +kernel
theorem dX4_readCell_40 : decode cX4_readCell 40 = .ok (.if_icmp .ne 8, 3) := by decide +kernel
theorem dX4_readCell_43 : decode cX4_readCell 43 = .ok (.bipush (-9), 2) := by decide +kernel
theorem dX4_readCell_45 : decode cX4_readCell 45 = .ok (.goto 5, 3) := by decide +kernel
theorem dX4_readCell_48 : decode cX4_readCell 48 = .ok (.bipush 99, 2) := by decide +kernel
theorem dX4_readCell_50 : decode cX4_readCell 50 = .ok (.invokevirtual 47, 3) := by decide +kernel
theorem dX4_readCell_53 : decode cX4_readCell 53 = .ok (.aload_n 0, 1) := by decide +kernel
theorem dX4_readCell_54 : decode cX4_readCell 54 = .ok (.dup, 1) := by decide +kernel
theorem dX4_readCell_55 : decode cX4_readCell 55 = .ok (.getfield 36, 3) := by decide +kernel
theorem dX4_readCell_58 : decode cX4_readCell 58 = .ok (.iconst 1, 1) := by decide +kernel
theorem dX4_readCell_59 : decode cX4_readCell 59 = .ok (.iadd, 1) := by decide +kernel
theorem dX4_readCell_60 : decode cX4_readCell 60 = .ok (.putfield 36, 3) := by decide +kernel
theorem dX4_readCell_63 : decode cX4_readCell 63 = .ok (.iconst 1, 1) := by decide +kernel
theorem dX4_readCell_64 : decode cX4_readCell 64 = .ok (.ireturn, 1) := by decide +kernel
theorem dX4_readCell_65 : decode cX4_readCell 65 = .ok (.aload_n 0, 1) := by decide +kernel
theorem dX4_readCell_66 : decode cX4_readCell 66 = .ok (.aload_n 0, 1) := by decide +kernel
theorem dX4_readCell_67 : decode cX4_readCell 67 = .ok (.getfield 36, 3) := by decide +kernel
theorem dX4_readCell_70 : decode cX4_readCell 70 = .ok (.invokevirtual 27, 3) := by decide +kernel
theorem dX4_readCell_73 : decode cX4_readCell 73 = .ok (.istore 5, 2) := by decide +kernel
theorem dX4_readCell_75 : decode cX4_readCell 75 = .ok (.iload 5, 2) := by decide +kernel
theorem dX4_readCell_77 : decode cX4_readCell 77 = .ok (.ifCond .lt 10, 3) := by decide +kernel
theorem dX4_readCell_80 : decode cX4_readCell 80 = .ok (.iload 5, 2) := by decide +kernel
theorem dX4_readCell_82 : decode cX4_readCell 82 = .ok (.bipush 6, 2) := by decide +kernel
theorem dX4_readCell_84 : decode cX4_readCell 84 = .ok (.if_icmp .le 5, 3) := by decide +kernel
theorem dX4_readCell_87 : decode cX4_readCell 87 = .ok (.iconst 0, 1) := by decide +kernel
theorem dX4_readCell_88 : decode cX4_readCell 88 = .ok (.ireturn, 1) := by decide +kernel
theorem dX4_readCell_89 : decode cX4_readCell 89 = .ok (.aload_n 0, 1) := by decide +kernel
theorem dX4_readCell_90 : decode cX4_readCell 90 = .ok (.dup, 1) := by decide +kernel
theorem dX4_readCell_91 : decode cX4_readCell 91 = .ok (.getfield 36, 3) := by decide +kernel
theorem dX4_readCell_94 : decode cX4_readCell 94 = .ok (.iconst 1, 1) := by decide +kernel
theorem dX4_readCell_95 : decode cX4_readCell 95 = .ok (.iadd, 1) := by decide +kernel
theorem dX4_readCell_96 : decode cX4_readCell 96 = .ok (.putfield 36, 3) := by decide +kernel
theorem dX4_readCell_99 : decode cX4_readCell 99 = .ok (.aload_n 0, 1) := by decide +kernel
theorem dX4_readCell_100 : decode cX4_readCell 100 = .ok (.aload_n 0, 1) := by decide +kernel
theorem dX4_readCell_101 : decode cX4_readCell 101 = .ok (.getfield 36, 3) := by decide +kernel
theorem dX4_readCell_104 : decode cX4_readCell 104 = .ok (.invokevirtual 27, 3) := by decide +kernel
theorem dX4_readCell_107 : decode cX4_readCell 107 = .ok (.istore 6, 2) := by decide +kernel
theorem dX4_readCell_109 : decode cX4_readCell 109 = .ok (.bipush 10, 2) := by decide +kernel
theorem dX4_readCell_111 : decode cX4_readCell 111 = .ok (.iload 5, 2) := by decide +kernel
theorem dX4_readCell_113 : decode cX4_readCell 113 = .ok (.imul, 1) := by decide +kernel
theorem dX4_readCell_114 : decode cX4_readCell 114 = .ok (.iload 6, 2) := by decide +kernel
theorem dX4_readCell_116 : decode cX4_readCell 116 = .ok (.iadd, 1) := by decide +kernel
theorem dX4_readCell_117 : decode cX4_readCell 117 = .ok (.istore 7, 2) := by decide +kernel
theorem dX4_readCell_119 : decode cX4_readCell 119 = .ok (.iload 6, 2) := by decide +kernel
theorem dX4_readCell_121 : decode cX4_readCell 121 = .ok (.iconst (-1), 1) := by decide +kernel
theorem dX4_readCell_122 : decode cX4_readCell 122 = .ok (.if_icmp .eq 11, 3) := by decide +kernel
theorem dX4_readCell_125 : decode cX4_readCell 125 = .ok (.iload 7, 2) := by decide +kernel
theorem dX4_readCell_127 : decode cX4_readCell 127 = .ok (.invokestatic 51, 3) := by decide +kernel
theorem dX4_readCell_130 : decode cX4_readCell 130 = .ok (.ifCond .ne 5, 3) := by decide +kernel
theorem dX4_readCell_133 : decode cX4_readCell 133 = .ok (.iconst 0, 1) := by decide +kernel
theorem dX4_readCell_134 : decode cX4_readCell 134 = .ok (.ireturn, 1) := by decide +kernel
theorem dX4_readCell_135 : decode cX4_readCell 135 = .ok (.aload_n 0, 1) := by decide +kernel
theorem dX4_readCell_136 : decode cX4_readCell 136 = .ok (.dup, 1) := by decide +kernel
theorem dX4_readCell_137 : decode cX4_readCell 137 = .ok (.getfield 36, 3) := by decide +kernel
theorem dX4_readCell_140 : decode cX4_readCell 140 = .ok (.iconst 1, 1) := by decide +kernel
theorem dX4_readCell_141 : decode cX4_readCell 141 = .ok (.iadd, 1) := by decide +kernel
theorem dX4_readCell_142 : decode cX4_readCell 142 = .ok (.putfield 36, 3) := by decide +kernel
theorem dX4_readCell_145 : decode cX4_readCell 145 = .ok (.aload_n 1, 1) := by decide +kernel
theorem dX4_readCell_146 : decode cX4_readCell 146 = .ok (.iload_n 2, 1) := by decide +kernel
theorem dX4_readCell_147 : decode cX4_readCell 147 = .ok (.iload_n 3, 1) := by decide +kernel
theorem dX4_readCell_148 : decode cX4_readCell 148 = .ok (.iload 7, 2) := by decide +kernel
theorem dX4_readCell_150 : decode cX4_readCell 150 = .ok (.invokevirtual 47, 3) := by decide +kernel
theorem dX4_readCell_153 : decode cX4_readCell 153 = .ok (.iconst 1, 1) := by decide +kernel
theorem dX4_readCell_154 : decode cX4_readCell 154 = .ok (.ireturn, 1) := by decide +kernel
theorem dX4_signAt_0 : decode cX4_signAt 0 = .ok (.iload_n 1, 1) := by decide +kernel
theorem dX4_signAt_1 : decode cX4_signAt 1 = .ok (.ifCond .lt 20, 3) := by decide +kernel
theorem dX4_signAt_4 : decode cX4_signAt 4 = .ok (.iload_n 1, 1) := by decide +kernel
theorem dX4_signAt_5 : decode cX4_signAt 5 = .ok (.aload_n 0, 1) := by decide +kernel
theorem dX4_signAt_6 : decode cX4_signAt 6 = .ok (.getfield 15, 3) := by decide +kernel
theorem dX4_signAt_9 : decode cX4_signAt 9 = .ok (.if_icmp .ge 12, 3) := by decide +kernel
theorem dX4_signAt_12 : decode cX4_signAt 12 = .ok (.aload_n 0, 1) := by decide +kernel
theorem dX4_signAt_13 : decode cX4_signAt 13 = .ok (.getfield 9, 3) := by decide +kernel
theorem dX4_signAt_16 : decode cX4_signAt 16 = .ok (.iload_n 1, 1) := by decide +kernel
theorem dX4_signAt_17 : decode cX4_signAt 17 = .ok (.caload, 1) := by decide +kernel
theorem dX4_signAt_18 : decode cX4_signAt 18 = .ok (.goto 4, 3) := by decide +kernel
theorem dX4_signAt_21 : decode cX4_signAt 21 = .ok (.iconst (-1), 1) := by decide +kernel
theorem dX4_signAt_22 : decode cX4_signAt 22 = .ok (.ireturn, 1) := by decide +kernel
theorem dX4_digitAt_0 : decode cX4_digitAt 0 = .ok (.aload_n 0, 1) := by decide +kernel
theorem dX4_digitAt_1 : decode cX4_digitAt 1 = .ok (.iload_n 1, 1) := by decide +kernel
theorem dX4_digitAt_2 : decode cX4_digitAt 2 = .ok (.invokevirtual 23, 3) := by decide +kernel
theorem dX4_digitAt_5 : decode cX4_digitAt 5 = .ok (.istore_n 2, 1) := by decide +kernel
theorem dX4_digitAt_6 : decode cX4_digitAt 6 = .ok (.iload_n 2, 1) := by decide +kernel
theorem dX4_digitAt_7 : decode cX4_digitAt 7 = .ok (.bipush 48, 2) := by decide +kernel
theorem dX4_digitAt_9 : decode cX4_digitAt 9 = .ok (.if_icmp .lt 16, 3) := by decide +kernel
theorem dX4_digitAt_12 : decode cX4_digitAt 12 = .ok (.iload_n 2, 1) := by decide +kernel
theorem dX4_digitAt_13 : decode cX4_digitAt 13 = .ok (.bipush 57, 2) := by decide +kernel
theorem dX4_digitAt_15 : decode cX4_digitAt 15 = .ok (.if_icmp .gt 10, 3) := by decide +kernel
theorem dX4_digitAt_18 : decode cX4_digitAt 18 = .ok (.iload_n 2, 1) := by decide +kernel
theorem dX4_digitAt_19 : decode cX4_digitAt 19 = .ok (.bipush 48, 2) := by decide +kernel
theorem dX4_digitAt_21 : decode cX4_digitAt 21 = .ok (.isub, 1) := by decide +kernel
theorem dX4_digitAt_22 : decode cX4_digitAt 22 = .ok (.goto 4, 3) := by decide +kernel
theorem dX4_digitAt_25 : decode cX4_digitAt 25 = .ok (.iconst (-1), 1) := by decide +kernel
theorem dX4_digitAt_26 : decode cX4_digitAt 26 = .ok (.ireturn, 1) := by decide +kernel
theorem dJ6_bitCount_0f7a4_0 : decode cJ6_bitCount_0f7a4 0 = .ok (.iload_n 0, 1) := by decide +kernel
theorem dJ6_bitCount_0f7a4_1 : decode cJ6_bitCount_0f7a4 1 = .ok (.iload_n 0, 1) := by decide +kernel
theorem dJ6_bitCount_0f7a4_2 : decode cJ6_bitCount_0f7a4 2 = .ok (.iconst 1, 1) := by decide +kernel
theorem dJ6_bitCount_0f7a4_3 : decode cJ6_bitCount_0f7a4 3 = .ok (.iushr, 1) := by decide +kernel
theorem dJ6_bitCount_0f7a4_4 : decode cJ6_bitCount_0f7a4 4 = .ok (.ldc_w 265, 3) := by decide +kernel
theorem dJ6_bitCount_0f7a4_7 : decode cJ6_bitCount_0f7a4 7 = .ok (.iand, 1) := by decide +kernel
theorem dJ6_bitCount_0f7a4_8 : decode cJ6_bitCount_0f7a4 8 = .ok (.isub, 1) := by decide +kernel
theorem dJ6_bitCount_0f7a4_9 : decode cJ6_bitCount_0f7a4 9 = .ok (.istore_n 0, 1) := by decide +kernel
theorem dJ6_bitCount_0f7a4_10 : decode cJ6_bitCount_0f7a4 10 = .ok (.iload_n 0, 1) := by decide +kernel
theorem dJ6_bitCount_0f7a4_11 : decode cJ6_bitCount_0f7a4 11 = .ok (.ldc_w 266, 3) := by decide +kernel
theorem dJ6_bitCount_0f7a4_14 : decode cJ6_bitCount_0f7a4 14 = .ok (.iand, 1) := by decide +kernel
theorem dJ6_bitCount_0f7a4_15 : decode cJ6_bitCount_0f7a4 15 = .ok (.iload_n 0, 1) := by decide +kernel
theorem dJ6_bitCount_0f7a4_16 : decode cJ6_bitCount_0f7a4 16 = .ok (.iconst 2, 1) := by decide +kernel
theorem dJ6_bitCount_0f7a4_17 : decode cJ6_bitCount_0f7a4 17 = .ok (.iushr, 1) := by decide +kernel
theorem dJ6_bitCount_0f7a4_18 : decode cJ6_bitCount_0f7a4 18 = .ok (.ldc_w 266, 3) := by decide +kernel
theorem dJ6_bitCount_0f7a4_21 : decode cJ6_bitCount_0f7a4 21 = .ok (.iand, 1) := by decide +kernel
theorem dJ6_bitCount_0f7a4_22 : decode cJ6_bitCount_0f7a4 22 = .ok (.iadd, 1) := by decide +kernel
theorem dJ6_bitCount_0f7a4_23 : decode cJ6_bitCount_0f7a4 23 = .ok (.istore_n 0, 1) := by decide +kernel
theorem dJ6_bitCount_0f7a4_24 : decode cJ6_bitCount_0f7a4 24 = .ok (.iload_n 0, 1) := by decide +kernel
theorem dJ6_bitCount_0f7a4_25 : decode cJ6_bitCount_0f7a4 25 = .ok (.iload_n 0, 1) := by decide +kernel
theorem dJ6_bitCount_0f7a4_26 : decode cJ6_bitCount_0f7a4 26 = .ok (.iconst 4, 1) := by decide +kernel
theorem dJ6_bitCount_0f7a4_27 : decode cJ6_bitCount_0f7a4 27 = .ok (.iushr, 1) := by decide +kernel
theorem dJ6_bitCount_0f7a4_28 : decode cJ6_bitCount_0f7a4 28 = .ok (.iadd, 1) := by decide +kernel
theorem dJ6_bitCount_0f7a4_29 : decode cJ6_bitCount_0f7a4 29 = .ok (.ldc_w 267, 3) := by decide +kernel
theorem dJ6_bitCount_0f7a4_32 : decode cJ6_bitCount_0f7a4 32 = .ok (.iand, 1) := by decide +kernel
theorem dJ6_bitCount_0f7a4_33 : decode cJ6_bitCount_0f7a4 33 = .ok (.istore_n 0, 1) := by decide +kernel
theorem dJ6_bitCount_0f7a4_34 : decode cJ6_bitCount_0f7a4 34 = .ok (.iload_n 0, 1) := by decide +kernel
theorem dJ6_bitCount_0f7a4_35 : decode cJ6_bitCount_0f7a4 35 = .ok (.iload_n 0, 1) := by decide +kernel
theorem dJ6_bitCount_0f7a4_36 : decode cJ6_bitCount_0f7a4 36 = .ok (.bipush 8, 2) := by decide +kernel
theorem dJ6_bitCount_0f7a4_38 : decode cJ6_bitCount_0f7a4 38 = .ok (.iushr, 1) := by decide +kernel
theorem dJ6_bitCount_0f7a4_39 : decode cJ6_bitCount_0f7a4 39 = .ok (.iadd, 1) := by decide +kernel
theorem dJ6_bitCount_0f7a4_40 : decode cJ6_bitCount_0f7a4 40 = .ok (.istore_n 0, 1) := by decide +kernel
theorem dJ6_bitCount_0f7a4_41 : decode cJ6_bitCount_0f7a4 41 = .ok (.iload_n 0, 1) := by decide +kernel
theorem dJ6_bitCount_0f7a4_42 : decode cJ6_bitCount_0f7a4 42 = .ok (.iload_n 0, 1) := by decide +kernel
theorem dJ6_bitCount_0f7a4_43 : decode cJ6_bitCount_0f7a4 43 = .ok (.bipush 16, 2) := by decide +kernel
theorem dJ6_bitCount_0f7a4_45 : decode cJ6_bitCount_0f7a4 45 = .ok (.iushr, 1) := by decide +kernel
theorem dJ6_bitCount_0f7a4_46 : decode cJ6_bitCount_0f7a4 46 = .ok (.iadd, 1) := by decide +kernel
theorem dJ6_bitCount_0f7a4_47 : decode cJ6_bitCount_0f7a4 47 = .ok (.istore_n 0, 1) := by decide +kernel
theorem dJ6_bitCount_0f7a4_48 : decode cJ6_bitCount_0f7a4 48 = .ok (.iload_n 0, 1) := by decide +kernel
theorem dJ6_bitCount_0f7a4_49 : decode cJ6_bitCount_0f7a4 49 = .ok (.bipush 63, 2) := by decide +kernel
theorem dJ6_bitCount_0f7a4_51 : decode cJ6_bitCount_0f7a4 51 = .ok (.iand, 1) := by decide +kernel
theorem dJ6_bitCount_0f7a4_52 : decode cJ6_bitCount_0f7a4 52 = .ok (.ireturn, 1) := by decide +kernel
theorem dJ9_abs_0f7a4_0 : decode cJ9_abs_0f7a4 0 = .ok (.iload_n 0, 1) := by decide +kernel
theorem dJ9_abs_0f7a4_1 : decode cJ9_abs_0f7a4 1 = .ok (.ifCond .ge 8, 3) := by decide +kernel
theorem dJ9_abs_0f7a4_4 : decode cJ9_abs_0f7a4 4 = .ok (.iload_n 0, 1) := by decide +kernel
theorem dJ9_abs_0f7a4_5 : decode cJ9_abs_0f7a4 5 = .ok (.ineg, 1) := by decide +kernel
theorem dJ9_abs_0f7a4_6 : decode cJ9_abs_0f7a4 6 = .ok (.goto 4, 3) := by decide +kernel
theorem dJ9_abs_0f7a4_9 : decode cJ9_abs_0f7a4 9 = .ok (.iload_n 0, 1) := by decide +kernel
theorem dJ9_abs_0f7a4_10 : decode cJ9_abs_0f7a4 10 = .ok (.ireturn, 1) := by decide +kernel
