theorem dX6_init_0 : decode cX6_init 0 = .ok (.aload_n 0, 1) := by decide +kernel
theorem dX6_init_1 : decode cX6_init 1 = .ok (.invokespecial 1, 3) := by decide +kernel
theorem dX6_init_4 : decode cX6_init 4 = .ok (.aload_n 0, 1) := by decide +kernel
theorem dX6_init_5 : decode cX6_init 5 = .ok (.sipush 140, 3) := by decide +kernel
theorem dX6_init_8 : decode cX6_init 8 = .ok (.newarray .int, 2) := by decide +kernel
theorem dX6_init_10 : decode cX6_init 10 = .ok (.putfield 7, 3) := by decide +kernel
theorem dX6_init_13 : decode cX6_init 13 = .ok (.aload_n 0, 1) := by decide +kernel
theorem dX6_init_14 : decode cX6_init 14 = .ok (.bipush 72, 2) := by decide +kernel
theorem dX6_init_16 : decode cX6_init 16 = .ok (.newarray .int, 2) := by decide +kernel
theorem dX6_init_18 : decode cX6_init 18 = .ok (.putfield 13, 3) := by decide +kernel
theorem dX6_init_21 : decode cX6_init 21 = .ok (.aload_n 0, 1) := by decide +kernel
theorem dX6_init_22 : decode cX6_init 22 = .ok (.bipush 72, 2) := by decide +kernel
theorem dX6_init_24 : decode cX6_init 24 = .ok (.newarray .int, 2) := by decide +kernel
theorem dX6_init_26 : decode cX6_init 26 = .ok (.putfield 16, 3) := by decide +kernel
theorem dX6_init_29 : decode cX6_init 29 = .ok (.aload_n 0, 1) := by decide +kernel
theorem dX6_init_30 : decode cX6_init 30 = .ok (.bipush 72, 2) := by decide +kernel
theorem dX6_init_32 : decode cX6_init 32 = .ok (.newarray .int, 2) := by decide +kernel
theorem dX6_init_34 : decode cX6_init 34 = .ok (.putfield 19, 3) := by decide +kernel
theorem dX6_init_37 : decode cX6_init 37 = .ok (.aload_n 0, 1) := by decide +kernel
theorem dX6_init_38 : decode cX6_init 38 = .ok (.bipush 72, 2) := by decide +kernel
theorem dX6_init_40 : decode cX6_init 40 = .ok (.newarray .int, 2) := by decide +kernel
theorem dX6_init_42 : decode cX6_init 42 = .ok (.putfield 22, 3) := by decide +kernel
theorem dX6_init_45 : decode cX6_init 45 = .ok (.aload_n 0, 1) := by decide +kernel
theorem dX6_init_46 : decode cX6_init 46 = .ok (.sipush 1008, 3) := by decide +kernel
theorem dX6_init_49 : decode cX6_init 49 = .ok (.newarray .int, 2) := by decide +kernel
theorem dX6_init_51 : decode cX6_init 51 = .ok (.putfield 25, 3) := by decide +kernel
theorem dX6_init_54 : decode cX6_init 54 = .ok (.aload_n 0, 1) := by decide +kernel
theorem dX6_init_55 : decode cX6_init 55 = .ok (.sipush 144, 3) := by decide +kernel
theorem dX6_init_58 : decode cX6_init 58 = .ok (.newarray .int, 2) := by decide +kernel
theorem dX6_init_60 : decode cX6_init 60 = .ok (.putfield 28, 3) := by decide +kernel
theorem dX6_init_63 : decode cX6_init 63 = .ok (.aload_n 0, 1) := by decide +kernel
theorem dX6_init_64 : decode cX6_init 64 = .ok (.iconst 2, 1) := by decide +kernel
theorem dX6_init_65 : decode cX6_init 65 = .ok (.newarray .boolean, 2) := by decide +kernel
theorem dX6_init_67 : decode cX6_init 67 = .ok (.putfield 31, 3) := by decide +kernel
theorem dX6_init_70 : decode cX6_init 70 = .ok (.aload_n 0, 1) := by decide +kernel
theorem dX6_init_71 : decode cX6_init 71 = .ok (.bipush 64, 2) := by decide +kernel
theorem dX6_init_73 : decode cX6_init 73 = .ok (.newarray .int, 2) := by decide +kernel
theorem dX6_init_75 : decode cX6_init 75 = .ok (.putfield 35, 3) := by decide +kernel
theorem dX6_init_78 : decode cX6_init 78 = .ok (.aload_n 0, 1) := by decide +kernel
theorem dX6_init_79 : decode cX6_init 79 = .ok (.bipush 64, 2) := by decide +kernel
theorem dX6_init_81 : decode cX6_init 81 = .ok (.newarray .int, 2) := by decide +kernel
theorem dX6_init_83 : decode cX6_init 83 = .ok (.putfield 38, 3) := by decide +kernel
theorem dX6_init_86 : decode cX6_init 86 = .ok (.aload_n 0, 1) := by decide +kernel
theorem dX6_init_87 : decode cX6_init 87 = .ok (.bipush 64, 2) := by decide +kernel
theorem dX6_init_89 : decode cX6_init 89 = .ok (.newarray .int, 2) := by decide +kernel
theorem dX6_init_91 : decode cX6_init 91 = .ok (.putfield 41, 3) := by decide +kernel
theorem dX6_init_94 : decode cX6_init 94 = .ok (.aload_n 0, 1) := by decide +kernel
theorem dX6_init_95 : decode cX6_init 95 = .ok (.bipush 16, 2) := by decide +kernel
theorem dX6_init_97 : decode cX6_init 97 = .ok (.newarray .int, 2) := by decide +kernel
theorem dX6_init_99 : decode cX6_init 99 = .ok (.putfield 44, 3) := by decide +kernel
theorem dX6_init_102 : decode cX6_init 102 = .ok (.aload_n 0, 1) := by decide +kernel
theorem dX6_init_103 : decode cX6_init 103 = .ok (.bipush 16, 2) := by decide +kernel
theorem dX6_init_105 : decode cX6_init 105 = .ok (.newarray .int, 2) := by decide +kernel
theorem dX6_init_107 : decode cX6_init 107 = .ok (.putfield 47, 3) := by decide +kernel
theorem dX6_init_110 : decode cX6_init 110 = .ok (.aload_n 0, 1) := by decide +kernel
theorem dX6_init_111 : decode cX6_init 111 = .ok (.bipush 16, 2) := by decide +kernel
theorem dX6_init_113 : decode cX6_init 113 = .ok (.newarray .int, 2) := by decide +kernel
theorem dX6_init_115 : decode cX6_init 115 = .ok (.putfield 50, 3) := by decide +kernel
theorem dX6_init_118 : decode cX6_init 118 = .ok (.aload_n 0, 1) := by decide +kernel
theorem dX6_init_119 : decode cX6_init 119 = .ok (.bipush 80, 2) := by decide +kernel
theorem dX6_init_121 : decode cX6_init 121 = .ok (.newarray .int, 2) := by decide +kernel
theorem dX6_init_123 : decode cX6_init 123 = .ok (.putfield 53, 3) := by decide +kernel
theorem dX6_init_126 : decode cX6_init 126 = .ok (.aload_n 0, 1) := by decide +kernel
theorem dX6_init_127 : decode cX6_init 127 = .ok (.getfield 16, 3) := by decide +kernel
theorem dX6_init_130 : decode cX6_init 130 = .ok (.invokestatic 56, 3) := by decide +kernel
theorem dX6_init_133 : decode cX6_init 133 = .ok (.aload_n 0, 1) := by decide +kernel
theorem dX6_init_134 : decode cX6_init 134 = .ok (.getfield 16, 3) := by decide +kernel
theorem dX6_init_137 : decode cX6_init 137 = .ok (.bipush 6, 2) := by decide +kernel
theorem dX6_init_139 : decode cX6_init 139 = .ok (.iconst 1, 1) := by decide +kernel
theorem dX6_init_140 : decode cX6_init 140 = .ok (.iastore, 1) := by decide +kernel
theorem dX6_init_141 : decode cX6_init 141 = .ok (.aload_n 0, 1) := by decide +kernel
theorem dX6_init_142 : decode cX6_init 142 = .ok (.getfield 16, 3) := by decide +kernel
theorem dX6_init_145 : decode cX6_init 145 = .ok (.bipush 7, 2) := by decide +kernel
theorem dX6_init_147 : decode cX6_init 147 = .ok (.iconst 1, 1) := by decide +kernel
theorem dX6_init_148 : decode cX6_init 148 = .ok (.iastore, 1) := by decide +kernel
theorem dX6_init_149 : decode cX6_init 149 = .ok (.return_, 1) := by decide +kernel
theorem dX6_thrown_0 : decode cX6_thrown 0 = .ok (.aload_n 0, 1) := by decide +kernel
theorem dX6_thrown_1 : decode cX6_thrown 1 = .ok (.getfield 60, 3) := by decide +kernel
theorem dX6_thrown_4 : decode cX6_thrown 4 = .ok (.ireturn, 1) := by decide +kernel
theorem dX6_refused_0 : decode cX6_refused 0 = .ok (.aload_n 0, 1) := by decide +kernel
theorem dX6_refused_1 : decode cX6_refused 1 = .ok (.iload_n 1, 1) := by decide +kernel
theorem dX6_refused_2 : decode cX6_refused 2 = .ok (.putfield 60, 3) := by decide +kernel
theorem dX6_refused_5 : decode cX6_refused 5 = .ok (.iload_n 1, 1) := by decide +kernel
theorem dX6_refused_6 : decode cX6_refused 6 = .ok (.ifCond .le 7, 3) := by decide +kernel
theorem dX6_refused_9 : decode cX6_refused 9 = .ok (.iconst 1, 1) := by decide +kernel
theorem dX6_refused_10 : decode cX6_refused 10 = .ok (.goto 4, 3) := by decide +kernel
theorem dX6_refused_13 : decode cX6_refused 13 = .ok (.iconst 0, 1) := by decide +kernel
theorem dX6_refused_14 : decode cX6_refused 14 = .ok (.ireturn, 1) := by decide +kernel
theorem dX6_in_0 : decode cX6_in 0 = .ok (.lload_n 0, 1) := by decide +kernel
theorem dX6_in_1 : decode cX6_in 1 = .ok (.lload_n 2, 1) := by decide +kernel
theorem dX6_in_2 : decode cX6_in 2 = .ok (.lcmp, 1) := by decide +kernel
theorem dX6_in_3 : decode cX6_in 3 = .ok (.ifCond .lt 14, 3) := by decide +kernel
theorem dX6_in_6 : decode cX6_in 6 = .ok (.lload_n 0, 1) := by decide +kernel
theorem dX6_in_7 : decode cX6_in 7 = .ok (.lload 4, 2) := by decide +kernel
theorem dX6_in_9 : decode cX6_in 9 = .ok (.lcmp, 1) := by decide +kernel
theorem dX6_in_10 : decode cX6_in 10 = .ok (.ifCond .gt 7, 3) := by decide +kernel
theorem dX6_in_13 : decode cX6_in 13 = .ok (.iconst 1, 1) := by decide +kernel
theorem dX6_in_14 : decode cX6_in 14 = .ok (.goto 4, 3) := by decide +kernel
theorem dX6_in_17 : decode cX6_in 17 = .ok (.iconst 0, 1) := by decide +kernel
theorem dX6_in_18 : decode cX6_in 18 = .ok (.ireturn, 1) := by decide +kernel
theorem dX6_copyPage_0 : decode cX6_copyPage 0 = .ok (.iconst 0, 1) := by decide +kernel
theorem dX6_copyPage_1 : decode cX6_copyPage 1 = .ok (.istore 4, 2) := by decide +kernel
theorem dX6_copyPage_3 : decode cX6_copyPage 3 = .ok (.iload 4, 2) := by decide +kernel
theorem dX6_copyPage_5 : decode cX6_copyPage 5 = .ok (.bipush 72, 2) := by decide +kernel
theorem dX6_copyPage_7 : decode cX6_copyPage 7 = .ok (.if_icmp .ge 21, 3) := by decide +kernel
theorem dX6_copyPage_10 : decode cX6_copyPage 10 = .ok (.aload_n 2, 1) := by decide +kernel
theorem dX6_copyPage_11 : decode cX6_copyPage 11 = .ok (.iload_n 3, 1) := by decide +kernel
theorem dX6_copyPage_12 : decode cX6_copyPage 12 = .ok (.iload 4, 2) := by decide +kernel
theorem dX6_copyPage_14 : decode cX6_copyPage 14 = .ok (.iadd, 1) := by decide +kernel
theorem dX6_copyPage_15 : decode cX6_copyPage 15 = .ok (.aload_n 0, 1) := by decide +kernel
theorem dX6_copyPage_16 : decode cX6_copyPage 16 = .ok (.iload_n 1, 1) := by decide +kernel
theorem dX6_copyPage_17 : decode cX6_copyPage 17 = .ok (.iload 4, 2) := by decide +kernel
theorem dX6_copyPage_19 : decode cX6_copyPage 19 = .ok (.iadd, 1) := by decide +kernel
theorem dX6_copyPage_20 : decode cX6_copyPage 20 = .ok (.iaload, 1) := by decide +kernel
theorem dX6_copyPage_21 : decode cX6_copyPage 21 = .ok (.iastore, 1) := by decide +kernel
theorem dX6_copyPage_22 : decode cX6_copyPage 22 = .ok (.iinc 4 1, 3) := by decide +kernel
theorem dX6_copyPage_25 : decode cX6_copyPage 25 = .ok (.goto (-22), 3) := by decide +kernel
theorem dX6_copyPage_28 : decode cX6_copyPage 28 = .ok (.return_, 1) := by decide +kernel
theorem dX6_begin_0 : decode cX6_begin 0 = .ok (.aload_n 0, 1) := by decide +kernel
theorem dX6_begin_1 : decode cX6_begin 1 = .ok (.iconst 0, 1) := by decide +kernel
theorem dX6_begin_2 : decode cX6_begin 2 = .ok (.bipush 12, 2) := by decide +kernel
theorem dX6_begin_4 : decode cX6_begin 4 = .ok (.iastore, 1) := by decide +kernel
theorem dX6_begin_5 : decode cX6_begin 5 = .ok (.aload_n 0, 1) := by decide +kernel
theorem dX6_begin_6 : decode cX6_begin 6 = .ok (.iconst 1, 1) := by decide +kernel
theorem dX6_begin_7 : decode cX6_begin 7 = .ok (.bipush 12, 2) := by decide +kernel
theorem dX6_begin_9 : decode cX6_begin 9 = .ok (.iastore, 1) := by decide +kernel
theorem dX6_begin_10 : decode cX6_begin 10 = .ok (.aload_n 0, 1) := by decide +kernel
theorem dX6_begin_11 : decode cX6_begin 11 = .ok (.iconst 2, 1) := by decide +kernel
theorem dX6_begin_12 : decode cX6_begin 12 = .ok (.iconst 5, 1) := by decide +kernel
theorem dX6_begin_13 : decode cX6_begin 13 = .ok (.iastore, 1) := by decide +kernel
theorem dX6_begin_14 : decode cX6_begin 14 = .ok (.aload_n 0, 1) := by decide +kernel
theorem dX6_begin_15 : decode cX6_begin 15 = .ok (.iconst 3, 1) := by decide +kernel
theorem dX6_begin_16 : decode cX6_begin 16 = .ok (.iconst 3, 1) := by decide +kernel
theorem dX6_begin_17 : decode cX6_begin 17 = .ok (.iastore, 1) := by decide +kernel
theorem dX6_begin_18 : decode cX6_begin 18 = .ok (.aload_n 0, 1) := by decide +kernel
theorem dX6_begin_19 : decode cX6_begin 19 = .ok (.iconst 4, 1) := by decide +kernel
theorem dX6_begin_20 : decode cX6_begin 20 = .ok (.iconst 1, 1) := by decide +kernel
theorem dX6_begin_21 : decode cX6_begin 21 = .ok (.iastore, 1) := by decide +kernel
theorem dX6_begin_22 : decode cX6_begin 22 = .ok (.aload_n 0, 1) := by decide +kernel
theorem dX6_begin_23 : decode cX6_begin 23 = .ok (.iconst 5, 1) := by decide +kernel
theorem dX6_begin_24 : decode cX6_begin 24 = .ok (.iconst 0, 1) := by decide +kernel
theorem dX6_begin_25 : decode cX6_begin 25 = .ok (.iastore, 1) := by decide +kernel
theorem dX6_begin_26 : decode cX6_begin 26 = .ok (.bipush 8, 2) := by decide +kernel
theorem dX6_begin_28 : decode cX6_begin 28 = .ok (.istore_n 1, 1) := by decide +kernel
theorem dX6_begin_29 : decode cX6_begin 29 = .ok (.iload_n 1, 1) := by decide +kernel
theorem dX6_begin_30 : decode cX6_begin 30 = .ok (.bipush 72, 2) := by decide +kernel
theorem dX6_begin_32 : decode cX6_begin 32 = .ok (.if_icmp .ge 14, 3) := by decide +kernel
theorem dX6_begin_35 : decode cX6_begin 35 = .ok (.aload_n 0, 1) := by decide +kernel
theorem dX6_begin_36 : decode cX6_begin 36 = .ok (.iload_n 1, 1) := by decide +kernel
theorem dX6_begin_37 : decode cX6_begin 37 = .ok (.bipush (-9), 2) := by decide +kernel
theorem dX6_begin_39 : decode cX6_begin 39 = .ok (.iastore, 1) := by decide +kernel
theorem dX6_begin_40 : decode cX6_begin 40 = .ok (.iinc 1 1, 3) := by decide +kernel
theorem dX6_begin_43 : decode cX6_begin 43 = .ok (.goto (-14), 3) := by decide +kernel
theorem dX6_begin_46 : decode cX6_begin 46 = .ok (.return_, 1) := by decide +kernel
theorem dX6_at_0 : decode cX6_at 0 = .ok (.bipush 16, 2) := by decide +kernel
theorem dX6_at_2 : decode cX6_at 2 = .ok (.iload_n 0, 1) := by decide +kernel
theorem dX6_at_3 : decode cX6_at 3 = .ok (.imul, 1) := by decide +kernel
theorem dX6_at_4 : decode cX6_at 4 = .ok (.iload_n 1, 1) := by decide +kernel
theorem dX6_at_5 : decode cX6_at 5 = .ok (.iadd, 1) := by decide +kernel
theorem dX6_at_6 : decode cX6_at 6 = .ok (.ireturn, 1) := by decide +kernel
theorem dX6_isSetting_0 : decode cX6_isSetting 0 = .ok (.iload_n 0, 1) := by decide +kernel
theorem dX6_isSetting_1 : decode cX6_isSetting 1 = .ok (.iconst 3, 1) := by decide +kernel
theorem dX6_isSetting_2 : decode cX6_isSetting 2 = .ok (.if_icmp .ge 7, 3) := by decide +kernel
theorem dX6_isSetting_5 : decode cX6_isSetting 5 = .ok (.iconst 1, 1) := by decide +kernel
theorem dX6_isSetting_6 : decode cX6_isSetting 6 = .ok (.goto 4, 3) := by decide +kernel
theorem dX6_isSetting_9 : decode cX6_isSetting 9 = .ok (.iconst 0, 1) := by decide +kernel
theorem dX6_isSetting_10 : decode cX6_isSetting 10 = .ok (.istore_n 2, 1) := by decide +kernel
theorem dX6_isSetting_11 : decode cX6_isSetting 11 = .ok (.iload_n 0, 1) := by decide +kernel
theorem dX6_isSetting_12 : decode cX6_isSetting 12 = .ok (.iconst 2, 1) := by decide +kernel
theorem dX6_isSetting_13 : decode cX6_isSetting 13 = .ok (.if_icmp .ge 8, 3) := by decide +kernel
theorem dX6_isSetting_16 : decode cX6_isSetting 16 = .ok (.bipush 24, 2) := by decide +kernel
theorem dX6_isSetting_18 : decode cX6_isSetting 18 = .ok (.goto 23, 3) := by decide +kernel
theorem dX6_isSetting_21 : decode cX6_isSetting 21 = .ok (.iload_n 0, 1) := by decide +kernel
theorem dX6_isSetting_22 : decode cX6_isSetting 22 = .ok (.iconst 2, 1) := by decide +kernel
theorem dX6_isSetting_23 : decode cX6_isSetting 23 = .ok (.if_icmp .ne 7, 3) := by decide +kernel
theorem dX6_isSetting_26 : decode cX6_isSetting 26 = .ok (.iconst 5, 1) := by decide +kernel
theorem dX6_isSetting_27 : decode cX6_isSetting 27 = .ok (.goto 14, 3) := by decide +kernel
theorem dX6_isSetting_30 : decode cX6_isSetting 30 = .ok (.iload_n 0, 1) := by decide +kernel
theorem dX6_isSetting_31 : decode cX6_isSetting 31 = .ok (.iconst 3, 1) := by decide +kernel
theorem dX6_isSetting_32 : decode cX6_isSetting 32 = .ok (.if_icmp .ne 8, 3) := by decide +kernel
theorem dX6_isSetting_35 : decode cX6_isSetting 35 = .ok (.bipush 9, 2) := by decide +kernel
theorem dX6_isSetting_37 : decode cX6_isSetting 37 = .ok (.goto 4, 3) := by decide +kernel
theorem dX6_isSetting_40 : decode cX6_isSetting 40 = .ok (.iconst 1, 1) := by decide +kernel
theorem dX6_isSetting_41 : decode cX6_isSetting 41 = .ok (.istore_n 3, 1) := by decide +kernel
theorem dX6_isSetting_42 : decode cX6_isSetting 42 = .ok (.iload_n 0, 1) := by decide +kernel
theorem dX6_isSetting_43 : decode cX6_isSetting 43 = .ok (.i2l, 1) := by decide +kernel
theorem dX6_isSetting_44 : decode cX6_isSetting 44 = .ok (.lconst 0, 1) := by decide +kernel
theorem dX6_isSetting_45 : decode cX6_isSetting 45 = .ok (.ldc2_w 64, 3) := by decide +kernel
theorem dX6_isSetting_48 : decode cX6_isSetting 48 = .ok (.invokestatic 66, 3) := by decide +kernel
theorem dX6_isSetting_51 : decode cX6_isSetting 51 = .ok (.ifCond .eq 19, 3) := by decide +kernel
theorem dX6_isSetting_54 : decode cX6_isSetting 54 = .ok (.iload_n 1, 1) := by decide +kernel
theorem dX6_isSetting_55 : decode cX6_isSetting 55 = .ok (.i2l, 1) := by decide +kernel
theorem dX6_isSetting_56 : decode cX6_isSetting 56 = .ok (.iload_n 2, 1) := by decide +kernel
theorem dX6_isSetting_57 : decode cX6_isSetting 57 = .ok (.i2l, 1) := by decide +kernel
theorem dX6_isSetting_58 : decode cX6_isSetting 58 = .ok (.iload_n 3, 1) := by decide +kernel
theorem dX6_isSetting_59 : decode cX6_isSetting 59 = .ok (.i2l, 1) := by decide +kernel
theorem dX6_isSetting_60 : decode cX6_isSetting 60 = .ok (.invokestatic 66, 3) := by decide +kernel
theorem dX6_isSetting_63 : decode cX6_isSetting 63 = .ok (.ifCond .eq 7, 3) := by decide +kernel
theorem dX6_isSetting_66 : decode cX6_isSetting 66 = .ok (.iconst 1, 1) := by decide +kernel
theorem dX6_isSetting_67 : decode cX6_isSetting 67 = .ok (.goto 4, 3) := by decide +kernel
theorem dX6_isSetting_70 : decode cX6_isSetting 70 = .ok (.iconst 0, 1) := by decide +kernel
theorem dX6_isSetting_71 : decode cX6_isSetting 71 = .ok (.ireturn, 1) := by decide +kernel
theorem dX6_isHeld_0 : decode cX6_isHeld 0 = .ok (.aload_n 1, 1) := by decide +kernel
theorem dX6_isHeld_1 : decode cX6_isHeld 1 = .ok (.bipush 8, 2) := by decide +kernel
theorem dX6_isHeld_3 : decode cX6_isHeld 3 = .ok (.iload_n 2, 1) := by decide +kernel
theorem dX6_isHeld_4 : decode cX6_isHeld 4 = .ok (.iload_n 3, 1) := by decide +kernel
theorem dX6_isHeld_5 : decode cX6_isHeld 5 = .ok (.invokestatic 70, 3) := by decide +kernel
theorem dX6_isHeld_8 : decode cX6_isHeld 8 = .ok (.iadd, 1) := by decide +kernel
theorem dX6_isHeld_9 : decode cX6_isHeld 9 = .ok (.iaload, 1) := by decide +kernel
theorem dX6_isHeld_10 : decode cX6_isHeld 10 = .ok (.bipush 99, 2) := by decide +kernel
theorem dX6_isHeld_12 : decode cX6_isHeld 12 = .ok (.if_icmp .ne 7, 3) := by decide +kernel
theorem dX6_isHeld_15 : decode cX6_isHeld 15 = .ok (.iconst 1, 1) := by decide +kernel
theorem dX6_isHeld_16 : decode cX6_isHeld 16 = .ok (.goto 4, 3) := by decide +kernel
theorem dX6_isHeld_19 : decode cX6_isHeld 19 = .ok (.iconst 0, 1) := by decide +kernel
theorem dX6_isHeld_20 : decode cX6_isHeld 20 = .ok (.ireturn, 1) := by decide +kernel
theorem dX6_laySounds_0 : decode cX6_laySounds 0 = .ok (.iconst 0, 1) := by decide +kernel
theorem dX6_laySounds_1 : decode cX6_laySounds 1 = .ok (.istore_n 2, 1) := by decide +kernel
theorem dX6_laySounds_2 : decode cX6_laySounds 2 = .ok (.iload_n 2, 1) := by decide +kernel
theorem dX6_laySounds_3 : decode cX6_laySounds 3 = .ok (.aload_n 1, 1) := by decide +kernel
theorem dX6_laySounds_4 : decode cX6_laySounds 4 = .ok (.bipush 6, 2) := by decide +kernel
theorem dX6_laySounds_6 : decode cX6_laySounds 6 = .ok (.iaload, 1) := by decide +kernel
theorem dX6_laySounds_7 : decode cX6_laySounds 7 = .ok (.if_icmp .ge 69, 3) := by decide +kernel
theorem dX6_laySounds_10 : decode cX6_laySounds 10 = .ok (.bipush (-9), 2) := by decide +kernel
theorem dX6_laySounds_12 : decode cX6_laySounds 12 = .ok (.istore_n 3, 1) := by decide +kernel
theorem dX6_laySounds_13 : decode cX6_laySounds 13 = .ok (.iconst 0, 1) := by decide +kernel
theorem dX6_laySounds_14 : decode cX6_laySounds 14 = .ok (.istore 4, 2) := by decide +kernel
theorem dX6_laySounds_16 : decode cX6_laySounds 16 = .ok (.iload 4, 2) := by decide +kernel
theorem dX6_laySounds_18 : decode cX6_laySounds 18 = .ok (.aload_n 1, 1) := by decide +kernel
theorem dX6_laySounds_19 : decode cX6_laySounds 19 = .ok (.bipush 7, 2) := by decide +kernel
theorem dX6_laySounds_21 : decode cX6_laySounds 21 = .ok (.iaload, 1) := by decide +kernel
theorem dX6_laySounds_22 : decode cX6_laySounds 22 = .ok (.if_icmp .ge 48, 3) := by decide +kernel
theorem dX6_laySounds_25 : decode cX6_laySounds 25 = .ok (.aload_n 0, 1) := by decide +kernel
theorem dX6_laySounds_26 : decode cX6_laySounds 26 = .ok (.aload_n 1, 1) := by decide +kernel
theorem dX6_laySounds_27 : decode cX6_laySounds 27 = .ok (.iload_n 2, 1) := by decide +kernel
theorem dX6_laySounds_28 : decode cX6_laySounds 28 = .ok (.iload 4, 2) := by decide +kernel
theorem dX6_laySounds_30 : decode cX6_laySounds 30 = .ok (.invokevirtual 74, 3) := by decide +kernel
theorem dX6_laySounds_33 : decode cX6_laySounds 33 = .ok (.ifCond .eq 7, 3) := by decide +kernel
theorem dX6_laySounds_36 : decode cX6_laySounds 36 = .ok (.iload_n 3, 1) := by decide +kernel
theorem dX6_laySounds_37 : decode cX6_laySounds 37 = .ok (.goto 14, 3) := by decide +kernel
theorem dX6_laySounds_40 : decode cX6_laySounds 40 = .ok (.aload_n 1, 1) := by decide +kernel
theorem dX6_laySounds_41 : decode cX6_laySounds 41 = .ok (.bipush 8, 2) := by decide +kernel
theorem dX6_laySounds_43 : decode cX6_laySounds 43 = .ok (.iload_n 2, 1) := by decide +kernel
theorem dX6_laySounds_44 : decode cX6_laySounds 44 = .ok (.iload 4, 2) := by decide +kernel
theorem dX6_laySounds_46 : decode cX6_laySounds 46 = .ok (.invokestatic 70, 3) := by decide +kernel
theorem dX6_laySounds_49 : decode cX6_laySounds 49 = .ok (.iadd, 1) := by decide +kernel
theorem dX6_laySounds_50 : decode cX6_laySounds 50 = .ok (.iaload, 1) := by decide +kernel
theorem dX6_laySounds_51 : decode cX6_laySounds 51 = .ok (.istore_n 3, 1) := by decide +kernel
theorem dX6_laySounds_52 : decode cX6_laySounds 52 = .ok (.aload_n 0, 1) := by decide +kernel
theorem dX6_laySounds_53 : decode cX6_laySounds 53 = .ok (.getfield 35, 3) := by decide +kernel
theorem dX6_laySounds_56 : decode cX6_laySounds 56 = .ok (.iload_n 2, 1) := by decide +kernel
theorem dX6_laySounds_57 : decode cX6_laySounds 57 = .ok (.iload 4, 2) := by decide +kernel
theorem dX6_laySounds_59 : decode cX6_laySounds 59 = .ok (.invokestatic 70, 3) := by decide +kernel
theorem dX6_laySounds_62 : decode cX6_laySounds 62 = .ok (.iload_n 3, 1) := by decide +kernel
theorem dX6_laySounds_63 : decode cX6_laySounds 63 = .ok (.iastore, 1) := by decide +kernel
theorem dX6_laySounds_64 : decode cX6_laySounds 64 = .ok (.iinc 4 1, 3) := by decide +kernel
theorem dX6_laySounds_67 : decode cX6_laySounds 67 = .ok (.goto (-51), 3) := by decide +kernel
theorem dX6_laySounds_70 : decode cX6_laySounds 70 = .ok (.iinc 2 1, 3) := by decide +kernel
theorem dX6_laySounds_73 : decode cX6_laySounds 73 = .ok (.goto (-71), 3) := by decide +kernel
theorem dX6_laySounds_76 : decode cX6_laySounds 76 = .ok (.return_, 1) := by decide +kernel
theorem dX6_rank_0 : decode cX6_rank 0 = .ok (.iload_n 1, 1) := by decide +kernel
theorem dX6_rank_1 : decode cX6_rank 1 = .ok (.ifCond .ne 7, 3) := by decide +kernel
theorem dX6_rank_4 : decode cX6_rank 4 = .ok (.iconst 0, 1) := by decide +kernel
theorem dX6_rank_5 : decode cX6_rank 5 = .ok (.goto 18, 3) := by decide +kernel
theorem dX6_rank_8 : decode cX6_rank 8 = .ok (.iload_n 1, 1) := by decide +kernel
theorem dX6_rank_9 : decode cX6_rank 9 = .ok (.aload_n 0, 1) := by decide +kernel
theorem dX6_rank_10 : decode cX6_rank 10 = .ok (.bipush 6, 2) := by decide +kernel
theorem dX6_rank_12 : decode cX6_rank 12 = .ok (.iaload, 1) := by decide +kernel
theorem dX6_rank_13 : decode cX6_rank 13 = .ok (.iconst 1, 1) := by decide +kernel
theorem dX6_rank_14 : decode cX6_rank 14 = .ok (.isub, 1) := by decide +kernel
theorem dX6_rank_15 : decode cX6_rank 15 = .ok (.if_icmp .ne 7, 3) := by decide +kernel
theorem dX6_rank_18 : decode cX6_rank 18 = .ok (.iconst 1, 1) := by decide +kernel
theorem dX6_rank_19 : decode cX6_rank 19 = .ok (.goto 4, 3) := by decide +kernel
theorem dX6_rank_22 : decode cX6_rank 22 = .ok (.iconst 2, 1) := by decide +kernel
theorem dX6_rank_23 : decode cX6_rank 23 = .ok (.ireturn, 1) := by decide +kernel
theorem dX6_stands_0 : decode cX6_stands 0 = .ok (.iconst 0, 1) := by decide +kernel
theorem dX6_stands_1 : decode cX6_stands 1 = .ok (.istore 5, 2) := by decide +kernel
theorem dX6_stands_3 : decode cX6_stands 3 = .ok (.iconst 0, 1) := by decide +kernel
theorem dX6_stands_4 : decode cX6_stands 4 = .ok (.istore 6, 2) := by decide +kernel
theorem dX6_stands_6 : decode cX6_stands 6 = .ok (.iload 6, 2) := by decide +kernel
theorem dX6_stands_8 : decode cX6_stands 8 = .ok (.aload_n 1, 1) := by decide +kernel
theorem dX6_stands_9 : decode cX6_stands 9 = .ok (.bipush 6, 2) := by decide +kernel
theorem dX6_stands_11 : decode cX6_stands 11 = .ok (.iaload, 1) := by decide +kernel
theorem dX6_stands_12 : decode cX6_stands 12 = .ok (.if_icmp .ge 135, 3) := by decide +kernel
theorem dX6_stands_15 : decode cX6_stands 15 = .ok (.iload 6, 2) := by decide +kernel
theorem dX6_stands_17 : decode cX6_stands 17 = .ok (.iload_n 2, 1) := by decide +kernel
theorem dX6_stands_18 : decode cX6_stands 18 = .ok (.if_icmp .eq 23, 3) := by decide +kernel
theorem dX6_stands_21 : decode cX6_stands 21 = .ok (.aload_n 1, 1) := by decide +kernel
theorem dX6_stands_22 : decode cX6_stands 22 = .ok (.iload 6, 2) := by decide +kernel
theorem dX6_stands_24 : decode cX6_stands 24 = .ok (.invokestatic 78, 3) := by decide +kernel
theorem dX6_stands_27 : decode cX6_stands 27 = .ok (.iconst 2, 1) := by decide +kernel
theorem dX6_stands_28 : decode cX6_stands 28 = .ok (.if_icmp .lt 9, 3) := by decide +kernel
theorem dX6_stands_31 : decode cX6_stands 31 = .ok (.iload 6, 2) := by decide +kernel
theorem dX6_stands_33 : decode cX6_stands 33 = .ok (.iload_n 2, 1) := by decide +kernel
theorem dX6_stands_34 : decode cX6_stands 34 = .ok (.if_icmp .ge 7, 3) := by decide +kernel
theorem dX6_stands_37 : decode cX6_stands 37 = .ok (.iconst 1, 1) := by decide +kernel
theorem dX6_stands_38 : decode cX6_stands 38 = .ok (.goto 4, 3) := by decide +kernel
theorem dX6_stands_41 : decode cX6_stands 41 = .ok (.iconst 0, 1) := by decide +kernel
theorem dX6_stands_42 : decode cX6_stands 42 = .ok (.istore 7, 2) := by decide +kernel
theorem dX6_stands_44 : decode cX6_stands 44 = .ok (.iload 7, 2) := by decide +kernel
theorem dX6_stands_46 : decode cX6_stands 46 = .ok (.ifCond .eq 95, 3) := by decide +kernel
theorem dX6_stands_49 : decode cX6_stands 49 = .ok (.aload_n 0, 1) := by decide +kernel
theorem dX6_stands_50 : decode cX6_stands 50 = .ok (.getfield 35, 3) := by decide +kernel
theorem dX6_stands_53 : decode cX6_stands 53 = .ok (.iload 6, 2) := by decide +kernel
theorem dX6_stands_55 : decode cX6_stands 55 = .ok (.iload_n 3, 1) := by decide +kernel
theorem dX6_stands_56 : decode cX6_stands 56 = .ok (.invokestatic 70, 3) := by decide +kernel
theorem dX6_stands_59 : decode cX6_stands 59 = .ok (.iaload, 1) := by decide +kernel
theorem dX6_stands_60 : decode cX6_stands 60 = .ok (.bipush (-9), 2) := by decide +kernel
theorem dX6_stands_62 : decode cX6_stands 62 = .ok (.if_icmp .eq 79, 3) := by decide +kernel
theorem dX6_stands_65 : decode cX6_stands 65 = .ok (.aload_n 0, 1) := by decide +kernel
theorem dX6_stands_66 : decode cX6_stands 66 = .ok (.getfield 38, 3) := by decide +kernel
theorem dX6_stands_69 : decode cX6_stands 69 = .ok (.iload 6, 2) := by decide +kernel
theorem dX6_stands_71 : decode cX6_stands 71 = .ok (.iload_n 3, 1) := by decide +kernel
theorem dX6_stands_72 : decode cX6_stands 72 = .ok (.invokestatic 70, 3) := by decide +kernel
theorem dX6_stands_75 : decode cX6_stands 75 = .ok (.iaload, 1) := by decide +kernel
theorem dX6_stands_76 : decode cX6_stands 76 = .ok (.ifCond .ne 65, 3) := by decide +kernel
theorem dX6_stands_79 : decode cX6_stands 79 = .ok (.aload_n 0, 1) := by decide +kernel
theorem dX6_stands_80 : decode cX6_stands 80 = .ok (.getfield 35, 3) := by decide +kernel
theorem dX6_stands_83 : decode cX6_stands 83 = .ok (.iload 6, 2) := by decide +kernel
theorem dX6_stands_85 : decode cX6_stands 85 = .ok (.iload_n 3, 1) := by decide +kernel
theorem dX6_stands_86 : decode cX6_stands 86 = .ok (.invokestatic 70, 3) := by decide +kernel
theorem dX6_stands_89 : decode cX6_stands 89 = .ok (.iaload, 1) := by decide +kernel
theorem dX6_stands_90 : decode cX6_stands 90 = .ok (.aload_n 0, 1) := by decide +kernel
theorem dX6_stands_91 : decode cX6_stands 91 = .ok (.getfield 35, 3) := by decide +kernel
theorem dX6_stands_94 : decode cX6_stands 94 = .ok (.iload_n 2, 1) := by decide +kernel
theorem dX6_stands_95 : decode cX6_stands 95 = .ok (.iload_n 3, 1) := by decide +kernel
theorem dX6_stands_96 : decode cX6_stands 96 = .ok (.invokestatic 70, 3) := by decide +kernel
theorem dX6_stands_99 : decode cX6_stands 99 = .ok (.iaload, 1) := by decide +kernel
theorem dX6_stands_100 : decode cX6_stands 100 = .ok (.isub, 1) := by decide +kernel
theorem dX6_stands_101 : decode cX6_stands 101 = .ok (.istore 8, 2) := by decide +kernel
theorem dX6_stands_103 : decode cX6_stands 103 = .ok (.iload 5, 2) := by decide +kernel
theorem dX6_stands_105 : decode cX6_stands 105 = .ok (.ifCond .ne 29, 3) := by decide +kernel
theorem dX6_stands_108 : decode cX6_stands 108 = .ok (.iload 4, 2) := by decide +kernel
theorem dX6_stands_110 : decode cX6_stands 110 = .ok (.ifCond .eq 19, 3) := by decide +kernel
theorem dX6_stands_113 : decode cX6_stands 113 = .ok (.iload 8, 2) := by decide +kernel
theorem dX6_stands_115 : decode cX6_stands 115 = .ok (.ifCond .eq 23, 3) := by decide +kernel
theorem dX6_stands_118 : decode cX6_stands 118 = .ok (.iload 8, 2) := by decide +kernel
theorem dX6_stands_120 : decode cX6_stands 120 = .ok (.bipush 12, 2) := by decide +kernel
theorem dX6_stands_122 : decode cX6_stands 122 = .ok (.irem, 1) := by decide +kernel
theorem dX6_stands_123 : decode cX6_stands 123 = .ok (.ifCond .ne 15, 3) := by decide +kernel
theorem dX6_stands_126 : decode cX6_stands 126 = .ok (.goto 8, 3) := by decide +kernel
theorem dX6_stands_129 : decode cX6_stands 129 = .ok (.iload 8, 2) := by decide +kernel
theorem dX6_stands_131 : decode cX6_stands 131 = .ok (.ifCond .ne 7, 3) := by decide +kernel
theorem dX6_stands_134 : decode cX6_stands 134 = .ok (.iconst 1, 1) := by decide +kernel
theorem dX6_stands_135 : decode cX6_stands 135 = .ok (.goto 4, 3) := by decide +kernel
theorem dX6_stands_138 : decode cX6_stands 138 = .ok (.iconst 0, 1) := by decide +kernel
theorem dX6_stands_139 : decode cX6_stands 139 = .ok (.istore 5, 2) := by decide +kernel
theorem dX6_stands_141 : decode cX6_stands 141 = .ok (.iinc 6 1, 3) := by decide +kernel
theorem dX6_stands_144 : decode cX6_stands 144 = .ok (.goto (-138), 3) := by decide +kernel
theorem dX6_stands_147 : decode cX6_stands 147 = .ok (.iload 5, 2) := by decide +kernel
theorem dX6_stands_149 : decode cX6_stands 149 = .ok (.ireturn, 1) := by decide +kernel
theorem dX6_layReasons_0 : decode cX6_layReasons 0 = .ok (.iconst 0, 1) := by decide +kernel
theorem dX6_layReasons_1 : decode cX6_layReasons 1 = .ok (.istore_n 3, 1) := by decide +kernel
theorem dX6_layReasons_2 : decode cX6_layReasons 2 = .ok (.iload_n 3, 1) := by decide +kernel
theorem dX6_layReasons_3 : decode cX6_layReasons 3 = .ok (.aload_n 1, 1) := by decide +kernel
theorem dX6_layReasons_4 : decode cX6_layReasons 4 = .ok (.bipush 6, 2) := by decide +kernel
theorem dX6_layReasons_6 : decode cX6_layReasons 6 = .ok (.iaload, 1) := by decide +kernel
theorem dX6_layReasons_7 : decode cX6_layReasons 7 = .ok (.if_icmp .ge 20, 3) := by decide +kernel
theorem dX6_layReasons_10 : decode cX6_layReasons 10 = .ok (.aload_n 0, 1) := by decide +kernel
theorem dX6_layReasons_11 : decode cX6_layReasons 11 = .ok (.getfield 38, 3) := by decide +kernel
theorem dX6_layReasons_14 : decode cX6_layReasons 14 = .ok (.iload_n 3, 1) := by decide +kernel
theorem dX6_layReasons_15 : decode cX6_layReasons 15 = .ok (.iload_n 2, 1) := by decide +kernel
theorem dX6_layReasons_16 : decode cX6_layReasons 16 = .ok (.invokestatic 70, 3) := by decide +kernel
theorem dX6_layReasons_19 : decode cX6_layReasons 19 = .ok (.iconst 0, 1) := by decide +kernel
theorem dX6_layReasons_20 : decode cX6_layReasons 20 = .ok (.iastore, 1) := by decide +kernel
theorem dX6_layReasons_21 : decode cX6_layReasons 21 = .ok (.iinc 3 1, 3) := by decide +kernel
theorem dX6_layReasons_24 : decode cX6_layReasons 24 = .ok (.goto (-22), 3) := by decide +kernel
theorem dX6_layReasons_27 : decode cX6_layReasons 27 = .ok (.iconst 1, 1) := by decide +kernel
theorem dX6_layReasons_28 : decode cX6_layReasons 28 = .ok (.istore_n 3, 1) := by decide +kernel
theorem dX6_layReasons_29 : decode cX6_layReasons 29 = .ok (.iload_n 3, 1) := by decide +kernel
theorem dX6_layReasons_30 : decode cX6_layReasons 30 = .ok (.aload_n 1, 1) := by decide +kernel
theorem dX6_layReasons_31 : decode cX6_layReasons 31 = .ok (.bipush 6, 2) := by decide +kernel
theorem dX6_layReasons_33 : decode cX6_layReasons 33 = .ok (.iaload, 1) := by decide +kernel
theorem dX6_layReasons_34 : decode cX6_layReasons 34 = .ok (.iconst 1, 1) := by decide +kernel
theorem dX6_layReasons_35 : decode cX6_layReasons 35 = .ok (.isub, 1) := by decide +kernel
theorem dX6_layReasons_36 : decode cX6_layReasons 36 = .ok (.if_icmp .ge 72, 3) := by decide +kernel
theorem dX6_layReasons_39 : decode cX6_layReasons 39 = .ok (.aload_n 0, 1) := by decide +kernel
theorem dX6_layReasons_40 : decode cX6_layReasons 40 = .ok (.getfield 35, 3) := by decide +kernel
theorem dX6_layReasons_43 : decode cX6_layReasons 43 = .ok (.iload_n 3, 1) := by decide +kernel
theorem dX6_layReasons_44 : decode cX6_layReasons 44 = .ok (.iload_n 2, 1) := by decide +kernel
theorem dX6_layReasons_45 : decode cX6_layReasons 45 = .ok (.invokestatic 70, 3) := by decide +kernel
theorem dX6_layReasons_48 : decode cX6_layReasons 48 = .ok (.iaload, 1) := by decide +kernel
theorem dX6_layReasons_49 : decode cX6_layReasons 49 = .ok (.bipush (-9), 2) := by decide +kernel
theorem dX6_layReasons_51 : decode cX6_layReasons 51 = .ok (.if_icmp .eq 51, 3) := by decide +kernel
theorem dX6_layReasons_54 : decode cX6_layReasons 54 = .ok (.aload_n 0, 1) := by decide +kernel
theorem dX6_layReasons_55 : decode cX6_layReasons 55 = .ok (.getfield 38, 3) := by decide +kernel
theorem dX6_layReasons_58 : decode cX6_layReasons 58 = .ok (.iload_n 3, 1) := by decide +kernel
theorem dX6_layReasons_59 : decode cX6_layReasons 59 = .ok (.iload_n 2, 1) := by decide +kernel
theorem dX6_layReasons_60 : decode cX6_layReasons 60 = .ok (.invokestatic 70, 3) := by decide +kernel
theorem dX6_layReasons_63 : decode cX6_layReasons 63 = .ok (.aload_n 0, 1) := by decide +kernel
theorem dX6_layReasons_64 : decode cX6_layReasons 64 = .ok (.aload_n 1, 1) := by decide +kernel
theorem dX6_layReasons_65 : decode cX6_layReasons 65 = .ok (.iload_n 3, 1) := by decide +kernel
theorem dX6_layReasons_66 : decode cX6_layReasons 66 = .ok (.iload_n 2, 1) := by decide +kernel
theorem dX6_layReasons_67 : decode cX6_layReasons 67 = .ok (.iconst 0, 1) := by decide +kernel
theorem dX6_layReasons_68 : decode cX6_layReasons 68 = .ok (.invokevirtual 82, 3) := by decide +kernel
theorem dX6_layReasons_71 : decode cX6_layReasons 71 = .ok (.ifCond .eq 7, 3) := by decide +kernel
theorem dX6_layReasons_74 : decode cX6_layReasons 74 = .ok (.iconst 1, 1) := by decide +kernel
theorem dX6_layReasons_75 : decode cX6_layReasons 75 = .ok (.goto 26, 3) := by decide +kernel
theorem dX6_layReasons_78 : decode cX6_layReasons 78 = .ok (.aload_n 1, 1) := by decide +kernel
theorem dX6_layReasons_79 : decode cX6_layReasons 79 = .ok (.iconst 4, 1) := by decide +kernel
theorem dX6_layReasons_80 : decode cX6_layReasons 80 = .ok (.iaload, 1) := by decide +kernel
theorem dX6_layReasons_81 : decode cX6_layReasons 81 = .ok (.iconst 1, 1) := by decide +kernel
theorem dX6_layReasons_82 : decode cX6_layReasons 82 = .ok (.if_icmp .ne 18, 3) := by decide +kernel
theorem dX6_layReasons_85 : decode cX6_layReasons 85 = .ok (.aload_n 0, 1) := by decide +kernel
theorem dX6_layReasons_86 : decode cX6_layReasons 86 = .ok (.aload_n 1, 1) := by decide +kernel
theorem dX6_layReasons_87 : decode cX6_layReasons 87 = .ok (.iload_n 3, 1) := by decide +kernel
theorem dX6_layReasons_88 : decode cX6_layReasons 88 = .ok (.iload_n 2, 1) := by decide +kernel
theorem dX6_layReasons_89 : decode cX6_layReasons 89 = .ok (.iconst 1, 1) := by decide +kernel
theorem dX6_layReasons_90 : decode cX6_layReasons 90 = .ok (.invokevirtual 82, 3) := by decide +kernel
theorem dX6_layReasons_93 : decode cX6_layReasons 93 = .ok (.ifCond .eq 7, 3) := by decide +kernel
theorem dX6_layReasons_96 : decode cX6_layReasons 96 = .ok (.iconst 2, 1) := by decide +kernel
theorem dX6_layReasons_97 : decode cX6_layReasons 97 = .ok (.goto 4, 3) := by decide +kernel
theorem dX6_layReasons_100 : decode cX6_layReasons 100 = .ok (.iconst 0, 1) := by decide +kernel
theorem dX6_layReasons_101 : decode cX6_layReasons 101 = .ok (.iastore, 1) := by decide +kernel
theorem dX6_layReasons_102 : decode cX6_layReasons 102 = .ok (.iinc 3 1, 3) := by decide +kernel
theorem dX6_layReasons_105 : decode cX6_layReasons 105 = .ok (.goto (-76), 3) := by decide +kernel
theorem dX6_layReasons_108 : decode cX6_layReasons 108 = .ok (.return_, 1) := by decide +kernel
theorem dX6_layRow_0 : decode cX6_layRow 0 = .ok (.iconst 0, 1) := by decide +kernel
theorem dX6_layRow_1 : decode cX6_layRow 1 = .ok (.istore_n 3, 1) := by decide +kernel
theorem dX6_layRow_2 : decode cX6_layRow 2 = .ok (.iconst 0, 1) := by decide +kernel
theorem dX6_layRow_3 : decode cX6_layRow 3 = .ok (.istore 4, 2) := by decide +kernel
theorem dX6_layRow_5 : decode cX6_layRow 5 = .ok (.iload 4, 2) := by decide +kernel
theorem dX6_layRow_7 : decode cX6_layRow 7 = .ok (.bipush 60, 2) := by decide +kernel
theorem dX6_layRow_9 : decode cX6_layRow 9 = .ok (.if_icmp .gt 73, 3) := by decide +kernel
theorem dX6_layRow_12 : decode cX6_layRow 12 = .ok (.aload_n 1, 1) := by decide +kernel
theorem dX6_layRow_13 : decode cX6_layRow 13 = .ok (.bipush 6, 2) := by decide +kernel
theorem dX6_layRow_15 : decode cX6_layRow 15 = .ok (.iaload, 1) := by decide +kernel
theorem dX6_layRow_16 : decode cX6_layRow 16 = .ok (.iconst 1, 1) := by decide +kernel
theorem dX6_layRow_17 : decode cX6_layRow 17 = .ok (.isub, 1) := by decide +kernel
theorem dX6_layRow_18 : decode cX6_layRow 18 = .ok (.istore 5, 2) := by decide +kernel
theorem dX6_layRow_20 : decode cX6_layRow 20 = .ok (.iload 5, 2) := by decide +kernel
theorem dX6_layRow_22 : decode cX6_layRow 22 = .ok (.ifCond .lt 54, 3) := by decide +kernel
theorem dX6_layRow_25 : decode cX6_layRow 25 = .ok (.aload_n 0, 1) := by decide +kernel
theorem dX6_layRow_26 : decode cX6_layRow 26 = .ok (.getfield 35, 3) := by decide +kernel
theorem dX6_layRow_29 : decode cX6_layRow 29 = .ok (.iload 5, 2) := by decide +kernel
theorem dX6_layRow_31 : decode cX6_layRow 31 = .ok (.iload_n 2, 1) := by decide +kernel
theorem dX6_layRow_32 : decode cX6_layRow 32 = .ok (.invokestatic 70, 3) := by decide +kernel
theorem dX6_layRow_35 : decode cX6_layRow 35 = .ok (.iaload, 1) := by decide +kernel
theorem dX6_layRow_36 : decode cX6_layRow 36 = .ok (.iload 4, 2) := by decide +kernel
theorem dX6_layRow_38 : decode cX6_layRow 38 = .ok (.if_icmp .ne 32, 3) := by decide +kernel
theorem dX6_layRow_41 : decode cX6_layRow 41 = .ok (.aload_n 0, 1) := by decide +kernel
theorem dX6_layRow_42 : decode cX6_layRow 42 = .ok (.getfield 38, 3) := by decide +kernel
theorem dX6_layRow_45 : decode cX6_layRow 45 = .ok (.iload 5, 2) := by decide +kernel
theorem dX6_layRow_47 : decode cX6_layRow 47 = .ok (.iload_n 2, 1) := by decide +kernel
theorem dX6_layRow_48 : decode cX6_layRow 48 = .ok (.invokestatic 70, 3) := by decide +kernel
theorem dX6_layRow_51 : decode cX6_layRow 51 = .ok (.iaload, 1) := by decide +kernel
theorem dX6_layRow_52 : decode cX6_layRow 52 = .ok (.ifCond .ne 18, 3) := by decide +kernel
theorem dX6_layRow_55 : decode cX6_layRow 55 = .ok (.aload_n 0, 1) := by decide +kernel
theorem dX6_layRow_56 : decode cX6_layRow 56 = .ok (.getfield 41, 3) := by decide +kernel
theorem dX6_layRow_59 : decode cX6_layRow 59 = .ok (.iconst 4, 1) := by decide +kernel
theorem dX6_layRow_60 : decode cX6_layRow 60 = .ok (.iload_n 2, 1) := by decide +kernel
theorem dX6_layRow_61 : decode cX6_layRow 61 = .ok (.imul, 1) := by decide +kernel
theorem dX6_layRow_62 : decode cX6_layRow 62 = .ok (.iload_n 3, 1) := by decide +kernel
theorem dX6_layRow_63 : decode cX6_layRow 63 = .ok (.iadd, 1) := by decide +kernel
theorem dX6_layRow_64 : decode cX6_layRow 64 = .ok (.iload 5, 2) := by decide +kernel
theorem dX6_layRow_66 : decode cX6_layRow 66 = .ok (.iastore, 1) := by decide +kernel
theorem dX6_layRow_67 : decode cX6_layRow 67 = .ok (.iinc 3 1, 3) := by decide +kernel
theorem dX6_layRow_70 : decode cX6_layRow 70 = .ok (.iinc 5 (-1), 3) := by decide +kernel
theorem dX6_layRow_73 : decode cX6_layRow 73 = .ok (.goto (-53), 3) := by decide +kernel
theorem dX6_layRow_76 : decode cX6_layRow 76 = .ok (.iinc 4 1, 3) := by decide +kernel
theorem dX6_layRow_79 : decode cX6_layRow 79 = .ok (.goto (-74), 3) := by decide +kernel
theorem dX6_layRow_82 : decode cX6_layRow 82 = .ok (.aload_n 0, 1) := by decide +kernel
theorem dX6_layRow_83 : decode cX6_layRow 83 = .ok (.getfield 44, 3) := by decide +kernel
theorem dX6_layRow_86 : decode cX6_layRow 86 = .ok (.iload_n 2, 1) := by decide +kernel
theorem dX6_layRow_87 : decode cX6_layRow 87 = .ok (.iload_n 3, 1) := by decide +kernel
theorem dX6_layRow_88 : decode cX6_layRow 88 = .ok (.iastore, 1) := by decide +kernel
theorem dX6_layRow_89 : decode cX6_layRow 89 = .ok (.return_, 1) := by decide +kernel
theorem dX6_pitchOf_0 : decode cX6_pitchOf 0 = .ok (.aload_n 0, 1) := by decide +kernel
theorem dX6_pitchOf_1 : decode cX6_pitchOf 1 = .ok (.getfield 35, 3) := by decide +kernel
theorem dX6_pitchOf_4 : decode cX6_pitchOf 4 = .ok (.aload_n 0, 1) := by decide +kernel
theorem dX6_pitchOf_5 : decode cX6_pitchOf 5 = .ok (.getfield 41, 3) := by decide +kernel
theorem dX6_pitchOf_8 : decode cX6_pitchOf 8 = .ok (.iconst 4, 1) := by decide +kernel
theorem dX6_pitchOf_9 : decode cX6_pitchOf 9 = .ok (.iload_n 1, 1) := by decide +kernel
theorem dX6_pitchOf_10 : decode cX6_pitchOf 10 = .ok (.imul, 1) := by decide +kernel
theorem dX6_pitchOf_11 : decode cX6_pitchOf 11 = .ok (.iload_n 2, 1) := by decide +kernel
theorem dX6_pitchOf_12 : decode cX6_pitchOf 12 = .ok (.iadd, 1) := by decide +kernel
theorem dX6_pitchOf_13 : decode cX6_pitchOf 13 = .ok (.iaload, 1) := by decide +kernel
theorem dX6_pitchOf_14 : decode cX6_pitchOf 14 = .ok (.iload_n 1, 1) := by decide +kernel
theorem dX6_pitchOf_15 : decode cX6_pitchOf 15 = .ok (.invokestatic 70, 3) := by decide +kernel
theorem dX6_pitchOf_18 : decode cX6_pitchOf 18 = .ok (.iaload, 1) := by decide +kernel
theorem dX6_pitchOf_19 : decode cX6_pitchOf 19 = .ok (.ireturn, 1) := by decide +kernel
theorem dX6_width_0 : decode cX6_width 0 = .ok (.iload_n 3, 1) := by decide +kernel
theorem dX6_width_1 : decode cX6_width 1 = .ok (.iload_n 2, 1) := by decide +kernel
theorem dX6_width_2 : decode cX6_width 2 = .ok (.if_icmp .le 21, 3) := by decide +kernel
theorem dX6_width_5 : decode cX6_width 5 = .ok (.aload_n 0, 1) := by decide +kernel
theorem dX6_width_6 : decode cX6_width 6 = .ok (.iload_n 1, 1) := by decide +kernel
theorem dX6_width_7 : decode cX6_width 7 = .ok (.iload_n 3, 1) := by decide +kernel
theorem dX6_width_8 : decode cX6_width 8 = .ok (.iconst 1, 1) := by decide +kernel
theorem dX6_width_9 : decode cX6_width 9 = .ok (.isub, 1) := by decide +kernel
theorem dX6_width_10 : decode cX6_width 10 = .ok (.invokevirtual 86, 3) := by decide +kernel
theorem dX6_width_13 : decode cX6_width 13 = .ok (.aload_n 0, 1) := by decide +kernel
theorem dX6_width_14 : decode cX6_width 14 = .ok (.iload_n 1, 1) := by decide +kernel
theorem dX6_width_15 : decode cX6_width 15 = .ok (.iload_n 2, 1) := by decide +kernel
theorem dX6_width_16 : decode cX6_width 16 = .ok (.invokevirtual 86, 3) := by decide +kernel
theorem dX6_width_19 : decode cX6_width 19 = .ok (.isub, 1) := by decide +kernel
theorem dX6_width_20 : decode cX6_width 20 = .ok (.goto 4, 3) := by decide +kernel
theorem dX6_width_23 : decode cX6_width 23 = .ok (.iconst 0, 1) := by decide +kernel
theorem dX6_width_24 : decode cX6_width 24 = .ok (.ireturn, 1) := by decide +kernel
theorem dX6_canPlay_0 : decode cX6_canPlay 0 = .ok (.iconst 0, 1) := by decide +kernel
theorem dX6_canPlay_1 : decode cX6_canPlay 1 = .ok (.istore 6, 2) := by decide +kernel
theorem dX6_canPlay_3 : decode cX6_canPlay 3 = .ok (.iload 4, 2) := by decide +kernel
theorem dX6_canPlay_5 : decode cX6_canPlay 5 = .ok (.istore 7, 2) := by decide +kernel
theorem dX6_canPlay_7 : decode cX6_canPlay 7 = .ok (.iload 7, 2) := by decide +kernel
theorem dX6_canPlay_9 : decode cX6_canPlay 9 = .ok (.iload 5, 2) := by decide +kernel
theorem dX6_canPlay_11 : decode cX6_canPlay 11 = .ok (.if_icmp .ge 41, 3) := by decide +kernel
theorem dX6_canPlay_14 : decode cX6_canPlay 14 = .ok (.iload 6, 2) := by decide +kernel
theorem dX6_canPlay_16 : decode cX6_canPlay 16 = .ok (.ifCond .ne 23, 3) := by decide +kernel
theorem dX6_canPlay_19 : decode cX6_canPlay 19 = .ok (.aload_n 0, 1) := by decide +kernel
theorem dX6_canPlay_20 : decode cX6_canPlay 20 = .ok (.aload_n 1, 1) := by decide +kernel
theorem dX6_canPlay_21 : decode cX6_canPlay 21 = .ok (.aload_n 0, 1) := by decide +kernel
theorem dX6_canPlay_22 : decode cX6_canPlay 22 = .ok (.getfield 41, 3) := by decide +kernel
theorem dX6_canPlay_25 : decode cX6_canPlay 25 = .ok (.iconst 4, 1) := by decide +kernel
theorem dX6_canPlay_26 : decode cX6_canPlay 26 = .ok (.iload_n 3, 1) := by decide +kernel
theorem dX6_canPlay_27 : decode cX6_canPlay 27 = .ok (.imul, 1) := by decide +kernel
theorem dX6_canPlay_28 : decode cX6_canPlay 28 = .ok (.iload 7, 2) := by decide +kernel
theorem dX6_canPlay_30 : decode cX6_canPlay 30 = .ok (.iadd, 1) := by decide +kernel
theorem dX6_canPlay_31 : decode cX6_canPlay 31 = .ok (.iaload, 1) := by decide +kernel
theorem dX6_canPlay_32 : decode cX6_canPlay 32 = .ok (.iload_n 3, 1) := by decide +kernel
theorem dX6_canPlay_33 : decode cX6_canPlay 33 = .ok (.invokevirtual 74, 3) := by decide +kernel
theorem dX6_canPlay_36 : decode cX6_canPlay 36 = .ok (.ifCond .eq 7, 3) := by decide +kernel
theorem dX6_canPlay_39 : decode cX6_canPlay 39 = .ok (.iconst 1, 1) := by decide +kernel
theorem dX6_canPlay_40 : decode cX6_canPlay 40 = .ok (.goto 4, 3) := by decide +kernel
theorem dX6_canPlay_43 : decode cX6_canPlay 43 = .ok (.iconst 0, 1) := by decide +kernel
theorem dX6_canPlay_44 : decode cX6_canPlay 44 = .ok (.istore 6, 2) := by decide +kernel
theorem dX6_canPlay_46 : decode cX6_canPlay 46 = .ok (.iinc 7 1, 3) := by decide +kernel
theorem dX6_canPlay_49 : decode cX6_canPlay 49 = .ok (.goto (-42), 3) := by decide +kernel
theorem dX6_canPlay_52 : decode cX6_canPlay 52 = .ok (.iload 5, 2) := by decide +kernel
theorem dX6_canPlay_54 : decode cX6_canPlay 54 = .ok (.iload 4, 2) := by decide +kernel
theorem dX6_canPlay_56 : decode cX6_canPlay 56 = .ok (.isub, 1) := by decide +kernel
theorem dX6_canPlay_57 : decode cX6_canPlay 57 = .ok (.aload_n 1, 1) := by decide +kernel
theorem dX6_canPlay_58 : decode cX6_canPlay 58 = .ok (.iconst 2, 1) := by decide +kernel
theorem dX6_canPlay_59 : decode cX6_canPlay 59 = .ok (.iaload, 1) := by decide +kernel
theorem dX6_canPlay_60 : decode cX6_canPlay 60 = .ok (.if_icmp .gt 35, 3) := by decide +kernel
theorem dX6_canPlay_63 : decode cX6_canPlay 63 = .ok (.aload_n 0, 1) := by decide +kernel
theorem dX6_canPlay_64 : decode cX6_canPlay 64 = .ok (.iload_n 3, 1) := by decide +kernel
theorem dX6_canPlay_65 : decode cX6_canPlay 65 = .ok (.iload 4, 2) := by decide +kernel
theorem dX6_canPlay_67 : decode cX6_canPlay 67 = .ok (.iload 5, 2) := by decide +kernel
theorem dX6_canPlay_69 : decode cX6_canPlay 69 = .ok (.invokevirtual 89, 3) := by decide +kernel
theorem dX6_canPlay_72 : decode cX6_canPlay 72 = .ok (.aload_n 1, 1) := by decide +kernel
theorem dX6_canPlay_73 : decode cX6_canPlay 73 = .ok (.iload_n 2, 1) := by decide +kernel
theorem dX6_canPlay_74 : decode cX6_canPlay 74 = .ok (.iaload, 1) := by decide +kernel
theorem dX6_canPlay_75 : decode cX6_canPlay 75 = .ok (.iload 6, 2) := by decide +kernel
theorem dX6_canPlay_77 : decode cX6_canPlay 77 = .ok (.ifCond .eq 7, 3) := by decide +kernel
theorem dX6_canPlay_80 : decode cX6_canPlay 80 = .ok (.iconst 0, 1) := by decide +kernel
theorem dX6_canPlay_81 : decode cX6_canPlay 81 = .ok (.goto 6, 3) := by decide +kernel
theorem dX6_canPlay_84 : decode cX6_canPlay 84 = .ok (.aload_n 1, 1) := by decide +kernel
theorem dX6_canPlay_85 : decode cX6_canPlay 85 = .ok (.iconst 3, 1) := by decide +kernel
theorem dX6_canPlay_86 : decode cX6_canPlay 86 = .ok (.iaload, 1) := by decide +kernel
theorem dX6_canPlay_87 : decode cX6_canPlay 87 = .ok (.iadd, 1) := by decide +kernel
theorem dX6_canPlay_88 : decode cX6_canPlay 88 = .ok (.if_icmp .gt 7, 3) := by decide +kernel
theorem dX6_canPlay_91 : decode cX6_canPlay 91 = .ok (.iconst 1, 1) := by decide +kernel
theorem dX6_canPlay_92 : decode cX6_canPlay 92 = .ok (.goto 4, 3) := by decide +kernel
theorem dX6_canPlay_95 : decode cX6_canPlay 95 = .ok (.iconst 0, 1) := by decide +kernel
theorem dX6_canPlay_96 : decode cX6_canPlay 96 = .ok (.ireturn, 1) := by decide +kernel
theorem dX6_layPossible_0 : decode cX6_layPossible 0 = .ok (.aload_n 0, 1) := by decide +kernel
theorem dX6_layPossible_1 : decode cX6_layPossible 1 = .ok (.getfield 47, 3) := by decide +kernel
theorem dX6_layPossible_4 : decode cX6_layPossible 4 = .ok (.iload_n 2, 1) := by decide +kernel
theorem dX6_layPossible_5 : decode cX6_layPossible 5 = .ok (.iconst 0, 1) := by decide +kernel
theorem dX6_layPossible_6 : decode cX6_layPossible 6 = .ok (.iastore, 1) := by decide +kernel
theorem dX6_layPossible_7 : decode cX6_layPossible 7 = .ok (.iconst 0, 1) := by decide +kernel
theorem dX6_layPossible_8 : decode cX6_layPossible 8 = .ok (.istore_n 3, 1) := by decide +kernel
theorem dX6_layPossible_9 : decode cX6_layPossible 9 = .ok (.iload_n 3, 1) := by decide +kernel
theorem dX6_layPossible_10 : decode cX6_layPossible 10 = .ok (.aload_n 0, 1) := by decide +kernel
theorem dX6_layPossible_11 : decode cX6_layPossible 11 = .ok (.getfield 44, 3) := by decide +kernel
theorem dX6_layPossible_14 : decode cX6_layPossible 14 = .ok (.iload_n 2, 1) := by decide +kernel
theorem dX6_layPossible_15 : decode cX6_layPossible 15 = .ok (.iaload, 1) := by decide +kernel
theorem dX6_layPossible_16 : decode cX6_layPossible 16 = .ok (.if_icmp .gt 66, 3) := by decide +kernel
theorem dX6_layPossible_19 : decode cX6_layPossible 19 = .ok (.aload_n 0, 1) := by decide +kernel
theorem dX6_layPossible_20 : decode cX6_layPossible 20 = .ok (.aload_n 1, 1) := by decide +kernel
theorem dX6_layPossible_21 : decode cX6_layPossible 21 = .ok (.iconst 0, 1) := by decide +kernel
theorem dX6_layPossible_22 : decode cX6_layPossible 22 = .ok (.iload_n 2, 1) := by decide +kernel
theorem dX6_layPossible_23 : decode cX6_layPossible 23 = .ok (.iconst 0, 1) := by decide +kernel
theorem dX6_layPossible_24 : decode cX6_layPossible 24 = .ok (.iload_n 3, 1) := by decide +kernel
theorem dX6_layPossible_25 : decode cX6_layPossible 25 = .ok (.invokevirtual 93, 3) := by decide +kernel
theorem dX6_layPossible_28 : decode cX6_layPossible 28 = .ok (.ifCond .eq 24, 3) := by decide +kernel
theorem dX6_layPossible_31 : decode cX6_layPossible 31 = .ok (.aload_n 0, 1) := by decide +kernel
theorem dX6_layPossible_32 : decode cX6_layPossible 32 = .ok (.aload_n 1, 1) := by decide +kernel
theorem dX6_layPossible_33 : decode cX6_layPossible 33 = .ok (.iconst 1, 1) := by decide +kernel
theorem dX6_layPossible_34 : decode cX6_layPossible 34 = .ok (.iload_n 2, 1) := by decide +kernel
theorem dX6_layPossible_35 : decode cX6_layPossible 35 = .ok (.iload_n 3, 1) := by decide +kernel
theorem dX6_layPossible_36 : decode cX6_layPossible 36 = .ok (.aload_n 0, 1) := by decide +kernel
theorem dX6_layPossible_37 : decode cX6_layPossible 37 = .ok (.getfield 44, 3) := by decide +kernel
theorem dX6_layPossible_40 : decode cX6_layPossible 40 = .ok (.iload_n 2, 1) := by decide +kernel
theorem dX6_layPossible_41 : decode cX6_layPossible 41 = .ok (.iaload, 1) := by decide +kernel
theorem dX6_layPossible_42 : decode cX6_layPossible 42 = .ok (.invokevirtual 93, 3) := by decide +kernel
theorem dX6_layPossible_45 : decode cX6_layPossible 45 = .ok (.ifCond .eq 7, 3) := by decide +kernel
theorem dX6_layPossible_48 : decode cX6_layPossible 48 = .ok (.iconst 1, 1) := by decide +kernel
theorem dX6_layPossible_49 : decode cX6_layPossible 49 = .ok (.goto 4, 3) := by decide +kernel
theorem dX6_layPossible_52 : decode cX6_layPossible 52 = .ok (.iconst 0, 1) := by decide +kernel
theorem dX6_layPossible_53 : decode cX6_layPossible 53 = .ok (.istore 4, 2) := by decide +kernel
theorem dX6_layPossible_55 : decode cX6_layPossible 55 = .ok (.aload_n 0, 1) := by decide +kernel
theorem dX6_layPossible_56 : decode cX6_layPossible 56 = .ok (.getfield 47, 3) := by decide +kernel
theorem dX6_layPossible_59 : decode cX6_layPossible 59 = .ok (.iload_n 2, 1) := by decide +kernel
theorem dX6_layPossible_60 : decode cX6_layPossible 60 = .ok (.dup2, 1) := by decide +kernel
theorem dX6_layPossible_61 : decode cX6_layPossible 61 = .ok (.iaload, 1) := by decide +kernel
theorem dX6_layPossible_62 : decode cX6_layPossible 62 = .ok (.iload 4, 2) := by decide +kernel
theorem dX6_layPossible_64 : decode cX6_layPossible 64 = .ok (.ifCond .eq 9, 3) := by decide +kernel
theorem dX6_layPossible_67 : decode cX6_layPossible 67 = .ok (.iconst 1, 1) := by decide +kernel
theorem dX6_layPossible_68 : decode cX6_layPossible 68 = .ok (.iload_n 3, 1) := by decide +kernel
theorem dX6_layPossible_69 : decode cX6_layPossible 69 = .ok (.ishl, 1) := by decide +kernel
theorem dX6_layPossible_70 : decode cX6_layPossible 70 = .ok (.goto 4, 3) := by decide +kernel
theorem dX6_layPossible_73 : decode cX6_layPossible 73 = .ok (.iconst 0, 1) := by decide +kernel
theorem dX6_layPossible_74 : decode cX6_layPossible 74 = .ok (.ior, 1) := by decide +kernel
theorem dX6_layPossible_75 : decode cX6_layPossible 75 = .ok (.iastore, 1) := by decide +kernel
theorem dX6_layPossible_76 : decode cX6_layPossible 76 = .ok (.iinc 3 1, 3) := by decide +kernel
theorem dX6_layPossible_79 : decode cX6_layPossible 79 = .ok (.goto (-70), 3) := by decide +kernel
theorem dX6_layPossible_82 : decode cX6_layPossible 82 = .ok (.return_, 1) := by decide +kernel
theorem dX6_dropInner_0 : decode cX6_dropInner 0 = .ok (.aload_n 1, 1) := by decide +kernel
theorem dX6_dropInner_1 : decode cX6_dropInner 1 = .ok (.bipush 6, 2) := by decide +kernel
theorem dX6_dropInner_3 : decode cX6_dropInner 3 = .ok (.iaload, 1) := by decide +kernel
theorem dX6_dropInner_4 : decode cX6_dropInner 4 = .ok (.iconst 2, 1) := by decide +kernel
theorem dX6_dropInner_5 : decode cX6_dropInner 5 = .ok (.isub, 1) := by decide +kernel
theorem dX6_dropInner_6 : decode cX6_dropInner 6 = .ok (.istore_n 3, 1) := by decide +kernel
theorem dX6_dropInner_7 : decode cX6_dropInner 7 = .ok (.aload_n 0, 1) := by decide +kernel
theorem dX6_dropInner_8 : decode cX6_dropInner 8 = .ok (.getfield 35, 3) := by decide +kernel
theorem dX6_dropInner_11 : decode cX6_dropInner 11 = .ok (.iload_n 3, 1) := by decide +kernel
theorem dX6_dropInner_12 : decode cX6_dropInner 12 = .ok (.iload_n 2, 1) := by decide +kernel
theorem dX6_dropInner_13 : decode cX6_dropInner 13 = .ok (.invokestatic 70, 3) := by decide +kernel
theorem dX6_dropInner_16 : decode cX6_dropInner 16 = .ok (.iaload, 1) := by decide +kernel
theorem dX6_dropInner_17 : decode cX6_dropInner 17 = .ok (.bipush (-9), 2) := by decide +kernel
theorem dX6_dropInner_19 : decode cX6_dropInner 19 = .ok (.if_icmp .eq 16, 3) := by decide +kernel
theorem dX6_dropInner_22 : decode cX6_dropInner 22 = .ok (.aload_n 0, 1) := by decide +kernel
theorem dX6_dropInner_23 : decode cX6_dropInner 23 = .ok (.getfield 38, 3) := by decide +kernel
theorem dX6_dropInner_26 : decode cX6_dropInner 26 = .ok (.iload_n 3, 1) := by decide +kernel
theorem dX6_dropInner_27 : decode cX6_dropInner 27 = .ok (.iload_n 2, 1) := by decide +kernel
theorem dX6_dropInner_28 : decode cX6_dropInner 28 = .ok (.invokestatic 70, 3) := by decide +kernel
theorem dX6_dropInner_31 : decode cX6_dropInner 31 = .ok (.iaload, 1) := by decide +kernel
theorem dX6_dropInner_32 : decode cX6_dropInner 32 = .ok (.ifCond .eq 9, 3) := by decide +kernel
theorem dX6_dropInner_35 : decode cX6_dropInner 35 = .ok (.iinc 3 (-1), 3) := by decide +kernel
theorem dX6_dropInner_38 : decode cX6_dropInner 38 = .ok (.goto (-31), 3) := by decide +kernel
theorem dX6_dropInner_41 : decode cX6_dropInner 41 = .ok (.aload_n 0, 1) := by decide +kernel
theorem dX6_dropInner_42 : decode cX6_dropInner 42 = .ok (.getfield 38, 3) := by decide +kernel
theorem dX6_dropInner_45 : decode cX6_dropInner 45 = .ok (.iload_n 3, 1) := by decide +kernel
theorem dX6_dropInner_46 : decode cX6_dropInner 46 = .ok (.iload_n 2, 1) := by decide +kernel
theorem dX6_dropInner_47 : decode cX6_dropInner 47 = .ok (.invokestatic 70, 3) := by decide +kernel
theorem dX6_dropInner_50 : decode cX6_dropInner 50 = .ok (.iconst 3, 1) := by decide +kernel
theorem dX6_dropInner_51 : decode cX6_dropInner 51 = .ok (.iastore, 1) := by decide +kernel
theorem dX6_dropInner_52 : decode cX6_dropInner 52 = .ok (.return_, 1) := by decide +kernel
theorem dX6_can_0 : decode cX6_can 0 = .ok (.aload_n 0, 1) := by decide +kernel
theorem dX6_can_1 : decode cX6_can 1 = .ok (.getfield 47, 3) := by decide +kernel
theorem dX6_can_4 : decode cX6_can 4 = .ok (.iload_n 1, 1) := by decide +kernel
theorem dX6_can_5 : decode cX6_can 5 = .ok (.iaload, 1) := by decide +kernel
theorem dX6_can_6 : decode cX6_can 6 = .ok (.iload_n 2, 1) := by decide +kernel
theorem dX6_can_7 : decode cX6_can 7 = .ok (.ishr, 1) := by decide +kernel
theorem dX6_can_8 : decode cX6_can 8 = .ok (.iconst 1, 1) := by decide +kernel
theorem dX6_can_9 : decode cX6_can 9 = .ok (.iand, 1) := by decide +kernel
theorem dX6_can_10 : decode cX6_can 10 = .ok (.iconst 1, 1) := by decide +kernel
theorem dX6_can_11 : decode cX6_can 11 = .ok (.if_icmp .ne 7, 3) := by decide +kernel
theorem dX6_can_14 : decode cX6_can 14 = .ok (.iconst 1, 1) := by decide +kernel
theorem dX6_can_15 : decode cX6_can 15 = .ok (.goto 4, 3) := by decide +kernel
theorem dX6_can_18 : decode cX6_can 18 = .ok (.iconst 0, 1) := by decide +kernel
theorem dX6_can_19 : decode cX6_can 19 = .ok (.ireturn, 1) := by decide +kernel
theorem dX6_placeOf_0 : decode cX6_placeOf 0 = .ok (.iconst 0, 1) := by decide +kernel
theorem dX6_placeOf_1 : decode cX6_placeOf 1 = .ok (.istore_n 3, 1) := by decide +kernel
theorem dX6_placeOf_2 : decode cX6_placeOf 2 = .ok (.iload_n 3, 1) := by decide +kernel
theorem dX6_placeOf_3 : decode cX6_placeOf 3 = .ok (.aload_n 0, 1) := by decide +kernel
theorem dX6_placeOf_4 : decode cX6_placeOf 4 = .ok (.getfield 44, 3) := by decide +kernel
theorem dX6_placeOf_7 : decode cX6_placeOf 7 = .ok (.iload_n 2, 1) := by decide +kernel
theorem dX6_placeOf_8 : decode cX6_placeOf 8 = .ok (.iaload, 1) := by decide +kernel
theorem dX6_placeOf_9 : decode cX6_placeOf 9 = .ok (.if_icmp .ge 25, 3) := by decide +kernel
theorem dX6_placeOf_12 : decode cX6_placeOf 12 = .ok (.aload_n 0, 1) := by decide +kernel
theorem dX6_placeOf_13 : decode cX6_placeOf 13 = .ok (.getfield 41, 3) := by decide +kernel
theorem dX6_placeOf_16 : decode cX6_placeOf 16 = .ok (.iconst 4, 1) := by decide +kernel
theorem dX6_placeOf_17 : decode cX6_placeOf 17 = .ok (.iload_n 2, 1) := by decide +kernel
theorem dX6_placeOf_18 : decode cX6_placeOf 18 = .ok (.imul, 1) := by decide +kernel
theorem dX6_placeOf_19 : decode cX6_placeOf 19 = .ok (.iload_n 3, 1) := by decide +kernel
theorem dX6_placeOf_20 : decode cX6_placeOf 20 = .ok (.iadd, 1) := by decide +kernel
theorem dX6_placeOf_21 : decode cX6_placeOf 21 = .ok (.iaload, 1) := by decide +kernel
theorem dX6_placeOf_22 : decode cX6_placeOf 22 = .ok (.iload_n 1, 1) := by decide +kernel
theorem dX6_placeOf_23 : decode cX6_placeOf 23 = .ok (.if_icmp .ne 5, 3) := by decide +kernel
theorem dX6_placeOf_26 : decode cX6_placeOf 26 = .ok (.iload_n 3, 1) := by decide +kernel
theorem dX6_placeOf_27 : decode cX6_placeOf 27 = .ok (.ireturn, 1) := by decide +kernel
theorem dX6_placeOf_28 : decode cX6_placeOf 28 = .ok (.iinc 3 1, 3) := by decide +kernel
theorem dX6_placeOf_31 : decode cX6_placeOf 31 = .ok (.goto (-29), 3) := by decide +kernel
theorem dX6_placeOf_34 : decode cX6_placeOf 34 = .ok (.bipush (-9), 2) := by decide +kernel
theorem dX6_placeOf_36 : decode cX6_placeOf 36 = .ok (.ireturn, 1) := by decide +kernel
theorem dX6_handOf_0 : decode cX6_handOf 0 = .ok (.aload_n 0, 1) := by decide +kernel
theorem dX6_handOf_1 : decode cX6_handOf 1 = .ok (.iload_n 1, 1) := by decide +kernel
theorem dX6_handOf_2 : decode cX6_handOf 2 = .ok (.iload_n 2, 1) := by decide +kernel
theorem dX6_handOf_3 : decode cX6_handOf 3 = .ok (.invokevirtual 97, 3) := by decide +kernel
theorem dX6_handOf_6 : decode cX6_handOf 6 = .ok (.istore 4, 2) := by decide +kernel
theorem dX6_handOf_8 : decode cX6_handOf 8 = .ok (.iload 4, 2) := by decide +kernel
theorem dX6_handOf_10 : decode cX6_handOf 10 = .ok (.bipush (-9), 2) := by decide +kernel
theorem dX6_handOf_12 : decode cX6_handOf 12 = .ok (.if_icmp .ne 8, 3) := by decide +kernel
theorem dX6_handOf_15 : decode cX6_handOf 15 = .ok (.bipush (-9), 2) := by decide +kernel
theorem dX6_handOf_17 : decode cX6_handOf 17 = .ok (.goto 14, 3) := by decide +kernel
theorem dX6_handOf_20 : decode cX6_handOf 20 = .ok (.iload 4, 2) := by decide +kernel
theorem dX6_handOf_22 : decode cX6_handOf 22 = .ok (.iload_n 3, 1) := by decide +kernel
theorem dX6_handOf_23 : decode cX6_handOf 23 = .ok (.if_icmp .ge 7, 3) := by decide +kernel
theorem dX6_handOf_26 : decode cX6_handOf 26 = .ok (.iconst 0, 1) := by decide +kernel
theorem dX6_handOf_27 : decode cX6_handOf 27 = .ok (.goto 4, 3) := by decide +kernel
theorem dX6_handOf_30 : decode cX6_handOf 30 = .ok (.iconst 1, 1) := by decide +kernel
theorem dX6_handOf_31 : decode cX6_handOf 31 = .ok (.ireturn, 1) := by decide +kernel
theorem dX6_isCut_0 : decode cX6_isCut 0 = .ok (.aload_n 0, 1) := by decide +kernel
theorem dX6_isCut_1 : decode cX6_isCut 1 = .ok (.aload_n 1, 1) := by decide +kernel
theorem dX6_isCut_2 : decode cX6_isCut 2 = .ok (.iload_n 2, 1) := by decide +kernel
theorem dX6_isCut_3 : decode cX6_isCut 3 = .ok (.iload_n 3, 1) := by decide +kernel
theorem dX6_isCut_4 : decode cX6_isCut 4 = .ok (.invokevirtual 74, 3) := by decide +kernel
theorem dX6_isCut_7 : decode cX6_isCut 7 = .ok (.ifCond .eq 39, 3) := by decide +kernel
theorem dX6_isCut_10 : decode cX6_isCut 10 = .ok (.aload_n 0, 1) := by decide +kernel
theorem dX6_isCut_11 : decode cX6_isCut 11 = .ok (.iload_n 2, 1) := by decide +kernel
theorem dX6_isCut_12 : decode cX6_isCut 12 = .ok (.iload_n 3, 1) := by decide +kernel
theorem dX6_isCut_13 : decode cX6_isCut 13 = .ok (.invokevirtual 97, 3) := by decide +kernel
theorem dX6_isCut_16 : decode cX6_isCut 16 = .ok (.bipush (-9), 2) := by decide +kernel
theorem dX6_isCut_18 : decode cX6_isCut 18 = .ok (.if_icmp .eq 28, 3) := by decide +kernel
theorem dX6_isCut_21 : decode cX6_isCut 21 = .ok (.aload_n 0, 1) := by decide +kernel
theorem dX6_isCut_22 : decode cX6_isCut 22 = .ok (.iload_n 2, 1) := by decide +kernel
theorem dX6_isCut_23 : decode cX6_isCut 23 = .ok (.iload_n 3, 1) := by decide +kernel
theorem dX6_isCut_24 : decode cX6_isCut 24 = .ok (.iconst 1, 1) := by decide +kernel
theorem dX6_isCut_25 : decode cX6_isCut 25 = .ok (.isub, 1) := by decide +kernel
theorem dX6_isCut_26 : decode cX6_isCut 26 = .ok (.iload 4, 2) := by decide +kernel
theorem dX6_isCut_28 : decode cX6_isCut 28 = .ok (.invokevirtual 100, 3) := by decide +kernel
theorem dX6_isCut_31 : decode cX6_isCut 31 = .ok (.aload_n 0, 1) := by decide +kernel
theorem dX6_isCut_32 : decode cX6_isCut 32 = .ok (.iload_n 2, 1) := by decide +kernel
theorem dX6_isCut_33 : decode cX6_isCut 33 = .ok (.iload_n 3, 1) := by decide +kernel
theorem dX6_isCut_34 : decode cX6_isCut 34 = .ok (.iload 5, 2) := by decide +kernel
theorem dX6_isCut_36 : decode cX6_isCut 36 = .ok (.invokevirtual 100, 3) := by decide +kernel
theorem dX6_isCut_39 : decode cX6_isCut 39 = .ok (.if_icmp .eq 7, 3) := by decide +kernel
theorem dX6_isCut_42 : decode cX6_isCut 42 = .ok (.iconst 1, 1) := by decide +kernel
theorem dX6_isCut_43 : decode cX6_isCut 43 = .ok (.goto 4, 3) := by decide +kernel
theorem dX6_isCut_46 : decode cX6_isCut 46 = .ok (.iconst 0, 1) := by decide +kernel
theorem dX6_isCut_47 : decode cX6_isCut 47 = .ok (.ireturn, 1) := by decide +kernel
theorem dX6_from_0 : decode cX6_from 0 = .ok (.iload_n 1, 1) := by decide +kernel
theorem dX6_from_1 : decode cX6_from 1 = .ok (.ifCond .ne 7, 3) := by decide +kernel
theorem dX6_from_4 : decode cX6_from 4 = .ok (.iconst 0, 1) := by decide +kernel
theorem dX6_from_5 : decode cX6_from 5 = .ok (.goto 4, 3) := by decide +kernel
theorem dX6_from_8 : decode cX6_from 8 = .ok (.iload_n 2, 1) := by decide +kernel
theorem dX6_from_9 : decode cX6_from 9 = .ok (.ireturn, 1) := by decide +kernel
theorem dX6_to_0 : decode cX6_to 0 = .ok (.iload_n 1, 1) := by decide +kernel
theorem dX6_to_1 : decode cX6_to 1 = .ok (.ifCond .ne 7, 3) := by decide +kernel
theorem dX6_to_4 : decode cX6_to 4 = .ok (.iload_n 3, 1) := by decide +kernel
theorem dX6_to_5 : decode cX6_to 5 = .ok (.goto 9, 3) := by decide +kernel
theorem dX6_to_8 : decode cX6_to 8 = .ok (.aload_n 0, 1) := by decide +kernel
theorem dX6_to_9 : decode cX6_to 9 = .ok (.getfield 44, 3) := by decide +kernel
theorem dX6_to_12 : decode cX6_to 12 = .ok (.iload_n 2, 1) := by decide +kernel
theorem dX6_to_13 : decode cX6_to 13 = .ok (.iaload, 1) := by decide +kernel
theorem dX6_to_14 : decode cX6_to 14 = .ok (.ireturn, 1) := by decide +kernel
theorem dX6_position_0 : decode cX6_position 0 = .ok (.aload_n 0, 1) := by decide +kernel
theorem dX6_position_1 : decode cX6_position 1 = .ok (.iload_n 1, 1) := by decide +kernel
theorem dX6_position_2 : decode cX6_position 2 = .ok (.iload_n 2, 1) := by decide +kernel
theorem dX6_position_3 : decode cX6_position 3 = .ok (.iload_n 3, 1) := by decide +kernel
theorem dX6_position_4 : decode cX6_position 4 = .ok (.invokevirtual 103, 3) := by decide +kernel
theorem dX6_position_7 : decode cX6_position 7 = .ok (.aload_n 0, 1) := by decide +kernel
theorem dX6_position_8 : decode cX6_position 8 = .ok (.iload_n 1, 1) := by decide +kernel
theorem dX6_position_9 : decode cX6_position 9 = .ok (.iload_n 3, 1) := by decide +kernel
theorem dX6_position_10 : decode cX6_position 10 = .ok (.invokevirtual 106, 3) := by decide +kernel
theorem dX6_position_13 : decode cX6_position 13 = .ok (.if_icmp .le 17, 3) := by decide +kernel
theorem dX6_position_16 : decode cX6_position 16 = .ok (.aload_n 0, 1) := by decide +kernel
theorem dX6_position_17 : decode cX6_position 17 = .ok (.iload_n 2, 1) := by decide +kernel
theorem dX6_position_18 : decode cX6_position 18 = .ok (.aload_n 0, 1) := by decide +kernel
theorem dX6_position_19 : decode cX6_position 19 = .ok (.iload_n 1, 1) := by decide +kernel
theorem dX6_position_20 : decode cX6_position 20 = .ok (.iload_n 3, 1) := by decide +kernel
theorem dX6_position_21 : decode cX6_position 21 = .ok (.invokevirtual 106, 3) := by decide +kernel
theorem dX6_position_24 : decode cX6_position 24 = .ok (.invokevirtual 86, 3) := by decide +kernel
theorem dX6_position_27 : decode cX6_position 27 = .ok (.goto 5, 3) := by decide +kernel
theorem dX6_position_30 : decode cX6_position 30 = .ok (.bipush (-9), 2) := by decide +kernel
theorem dX6_position_32 : decode cX6_position 32 = .ok (.ireturn, 1) := by decide +kernel
theorem dX6_move_0 : decode cX6_move 0 = .ok (.aload_n 0, 1) := by decide +kernel
theorem dX6_move_1 : decode cX6_move 1 = .ok (.iload_n 1, 1) := by decide +kernel
theorem dX6_move_2 : decode cX6_move 2 = .ok (.iload_n 2, 1) := by decide +kernel
theorem dX6_move_3 : decode cX6_move 3 = .ok (.iload 4, 2) := by decide +kernel
theorem dX6_move_5 : decode cX6_move 5 = .ok (.invokevirtual 109, 3) := by decide +kernel
theorem dX6_move_8 : decode cX6_move 8 = .ok (.istore 5, 2) := by decide +kernel
theorem dX6_move_10 : decode cX6_move 10 = .ok (.iload_n 2, 1) := by decide +kernel
theorem dX6_move_11 : decode cX6_move 11 = .ok (.ifCond .ne 8, 3) := by decide +kernel
theorem dX6_move_14 : decode cX6_move 14 = .ok (.bipush (-9), 2) := by decide +kernel
theorem dX6_move_16 : decode cX6_move 16 = .ok (.goto 12, 3) := by decide +kernel
theorem dX6_move_19 : decode cX6_move 19 = .ok (.aload_n 0, 1) := by decide +kernel
theorem dX6_move_20 : decode cX6_move 20 = .ok (.iload_n 1, 1) := by decide +kernel
theorem dX6_move_21 : decode cX6_move 21 = .ok (.iload_n 2, 1) := by decide +kernel
theorem dX6_move_22 : decode cX6_move 22 = .ok (.iconst 1, 1) := by decide +kernel
theorem dX6_move_23 : decode cX6_move 23 = .ok (.isub, 1) := by decide +kernel
theorem dX6_move_24 : decode cX6_move 24 = .ok (.iload_n 3, 1) := by decide +kernel
theorem dX6_move_25 : decode cX6_move 25 = .ok (.invokevirtual 109, 3) := by decide +kernel
theorem dX6_move_28 : decode cX6_move 28 = .ok (.istore 6, 2) := by decide +kernel
theorem dX6_move_30 : decode cX6_move 30 = .ok (.iload 5, 2) := by decide +kernel
theorem dX6_move_32 : decode cX6_move 32 = .ok (.iload 6, 2) := by decide +kernel
theorem dX6_move_34 : decode cX6_move 34 = .ok (.isub, 1) := by decide +kernel
theorem dX6_move_35 : decode cX6_move 35 = .ok (.istore 7, 2) := by decide +kernel
theorem dX6_move_37 : decode cX6_move 37 = .ok (.iload 5, 2) := by decide +kernel
theorem dX6_move_39 : decode cX6_move 39 = .ok (.bipush (-9), 2) := by decide +kernel
theorem dX6_move_41 : decode cX6_move 41 = .ok (.if_icmp .eq 10, 3) := by decide +kernel
theorem dX6_move_44 : decode cX6_move 44 = .ok (.iload 6, 2) := by decide +kernel
theorem dX6_move_46 : decode cX6_move 46 = .ok (.bipush (-9), 2) := by decide +kernel
theorem dX6_move_48 : decode cX6_move 48 = .ok (.if_icmp .ne 7, 3) := by decide +kernel
theorem dX6_move_51 : decode cX6_move 51 = .ok (.iconst 0, 1) := by decide +kernel
theorem dX6_move_52 : decode cX6_move 52 = .ok (.goto 16, 3) := by decide +kernel
theorem dX6_move_55 : decode cX6_move 55 = .ok (.iload 7, 2) := by decide +kernel
theorem dX6_move_57 : decode cX6_move 57 = .ok (.ifCond .ge 9, 3) := by decide +kernel
theorem dX6_move_60 : decode cX6_move 60 = .ok (.iload 7, 2) := by decide +kernel
theorem dX6_move_62 : decode cX6_move 62 = .ok (.ineg, 1) := by decide +kernel
theorem dX6_move_63 : decode cX6_move 63 = .ok (.goto 5, 3) := by decide +kernel
theorem dX6_move_66 : decode cX6_move 66 = .ok (.iload 7, 2) := by decide +kernel
theorem dX6_move_68 : decode cX6_move 68 = .ok (.ireturn, 1) := by decide +kernel
theorem dX6_isRolled_0 : decode cX6_isRolled 0 = .ok (.aload_n 0, 1) := by decide +kernel
theorem dX6_isRolled_1 : decode cX6_isRolled 1 = .ok (.iload_n 3, 1) := by decide +kernel
theorem dX6_isRolled_2 : decode cX6_isRolled 2 = .ok (.aload_n 0, 1) := by decide +kernel
theorem dX6_isRolled_3 : decode cX6_isRolled 3 = .ok (.iload_n 2, 1) := by decide +kernel
theorem dX6_isRolled_4 : decode cX6_isRolled 4 = .ok (.iload 4, 2) := by decide +kernel
theorem dX6_isRolled_6 : decode cX6_isRolled 6 = .ok (.invokevirtual 106, 3) := by decide +kernel
theorem dX6_isRolled_9 : decode cX6_isRolled 9 = .ok (.aload_n 0, 1) := by decide +kernel
theorem dX6_isRolled_10 : decode cX6_isRolled 10 = .ok (.iload_n 2, 1) := by decide +kernel
theorem dX6_isRolled_11 : decode cX6_isRolled 11 = .ok (.iload_n 3, 1) := by decide +kernel
theorem dX6_isRolled_12 : decode cX6_isRolled 12 = .ok (.iload 4, 2) := by decide +kernel
theorem dX6_isRolled_14 : decode cX6_isRolled 14 = .ok (.invokevirtual 103, 3) := by decide +kernel
theorem dX6_isRolled_17 : decode cX6_isRolled 17 = .ok (.invokevirtual 89, 3) := by decide +kernel
theorem dX6_isRolled_20 : decode cX6_isRolled 20 = .ok (.aload_n 1, 1) := by decide +kernel
theorem dX6_isRolled_21 : decode cX6_isRolled 21 = .ok (.iload_n 2, 1) := by decide +kernel
theorem dX6_isRolled_22 : decode cX6_isRolled 22 = .ok (.iaload, 1) := by decide +kernel
theorem dX6_isRolled_23 : decode cX6_isRolled 23 = .ok (.if_icmp .le 7, 3) := by decide +kernel
theorem dX6_isRolled_26 : decode cX6_isRolled 26 = .ok (.iconst 1, 1) := by decide +kernel
theorem dX6_isRolled_27 : decode cX6_isRolled 27 = .ok (.goto 4, 3) := by decide +kernel
theorem dX6_isRolled_30 : decode cX6_isRolled 30 = .ok (.iconst 0, 1) := by decide +kernel
theorem dX6_isRolled_31 : decode cX6_isRolled 31 = .ok (.ireturn, 1) := by decide +kernel
theorem dX6_costOf_0 : decode cX6_costOf 0 = .ok (.iconst 0, 1) := by decide +kernel
theorem dX6_costOf_1 : decode cX6_costOf 1 = .ok (.istore 5, 2) := by decide +kernel
theorem dX6_costOf_3 : decode cX6_costOf 3 = .ok (.iconst 0, 1) := by decide +kernel
theorem dX6_costOf_4 : decode cX6_costOf 4 = .ok (.istore 6, 2) := by decide +kernel
theorem dX6_costOf_6 : decode cX6_costOf 6 = .ok (.iload 6, 2) := by decide +kernel
theorem dX6_costOf_8 : decode cX6_costOf 8 = .ok (.iconst 2, 1) := by decide +kernel
theorem dX6_costOf_9 : decode cX6_costOf 9 = .ok (.if_icmp .ge 43, 3) := by decide +kernel
theorem dX6_costOf_12 : decode cX6_costOf 12 = .ok (.iload 5, 2) := by decide +kernel
theorem dX6_costOf_14 : decode cX6_costOf 14 = .ok (.aload_n 0, 1) := by decide +kernel
theorem dX6_costOf_15 : decode cX6_costOf 15 = .ok (.iload 6, 2) := by decide +kernel
theorem dX6_costOf_17 : decode cX6_costOf 17 = .ok (.iload_n 2, 1) := by decide +kernel
theorem dX6_costOf_18 : decode cX6_costOf 18 = .ok (.iload_n 3, 1) := by decide +kernel
theorem dX6_costOf_19 : decode cX6_costOf 19 = .ok (.iload 4, 2) := by decide +kernel
theorem dX6_costOf_21 : decode cX6_costOf 21 = .ok (.invokevirtual 112, 3) := by decide +kernel
theorem dX6_costOf_24 : decode cX6_costOf 24 = .ok (.aload_n 0, 1) := by decide +kernel
theorem dX6_costOf_25 : decode cX6_costOf 25 = .ok (.aload_n 1, 1) := by decide +kernel
theorem dX6_costOf_26 : decode cX6_costOf 26 = .ok (.iload 6, 2) := by decide +kernel
theorem dX6_costOf_28 : decode cX6_costOf 28 = .ok (.iload_n 2, 1) := by decide +kernel
theorem dX6_costOf_29 : decode cX6_costOf 29 = .ok (.iload 4, 2) := by decide +kernel
theorem dX6_costOf_31 : decode cX6_costOf 31 = .ok (.invokevirtual 116, 3) := by decide +kernel
theorem dX6_costOf_34 : decode cX6_costOf 34 = .ok (.ifCond .eq 7, 3) := by decide +kernel
theorem dX6_costOf_37 : decode cX6_costOf 37 = .ok (.iconst 5, 1) := by decide +kernel
theorem dX6_costOf_38 : decode cX6_costOf 38 = .ok (.goto 4, 3) := by decide +kernel
theorem dX6_costOf_41 : decode cX6_costOf 41 = .ok (.iconst 0, 1) := by decide +kernel
theorem dX6_costOf_42 : decode cX6_costOf 42 = .ok (.iadd, 1) := by decide +kernel
theorem dX6_costOf_43 : decode cX6_costOf 43 = .ok (.iadd, 1) := by decide +kernel
theorem dX6_costOf_44 : decode cX6_costOf 44 = .ok (.istore 5, 2) := by decide +kernel
theorem dX6_costOf_46 : decode cX6_costOf 46 = .ok (.iinc 6 1, 3) := by decide +kernel
theorem dX6_costOf_49 : decode cX6_costOf 49 = .ok (.goto (-43), 3) := by decide +kernel
theorem dX6_costOf_52 : decode cX6_costOf 52 = .ok (.iconst 0, 1) := by decide +kernel
theorem dX6_costOf_53 : decode cX6_costOf 53 = .ok (.istore 6, 2) := by decide +kernel
theorem dX6_costOf_55 : decode cX6_costOf 55 = .ok (.iload 6, 2) := by decide +kernel
theorem dX6_costOf_57 : decode cX6_costOf 57 = .ok (.aload_n 1, 1) := by decide +kernel
theorem dX6_costOf_58 : decode cX6_costOf 58 = .ok (.bipush 6, 2) := by decide +kernel
theorem dX6_costOf_60 : decode cX6_costOf 60 = .ok (.iaload, 1) := by decide +kernel
theorem dX6_costOf_61 : decode cX6_costOf 61 = .ok (.if_icmp .ge 34, 3) := by decide +kernel
theorem dX6_costOf_64 : decode cX6_costOf 64 = .ok (.iload 5, 2) := by decide +kernel
theorem dX6_costOf_66 : decode cX6_costOf 66 = .ok (.aload_n 0, 1) := by decide +kernel
theorem dX6_costOf_67 : decode cX6_costOf 67 = .ok (.aload_n 1, 1) := by decide +kernel
theorem dX6_costOf_68 : decode cX6_costOf 68 = .ok (.iload 6, 2) := by decide +kernel
theorem dX6_costOf_70 : decode cX6_costOf 70 = .ok (.iload_n 2, 1) := by decide +kernel
theorem dX6_costOf_71 : decode cX6_costOf 71 = .ok (.iload_n 3, 1) := by decide +kernel
theorem dX6_costOf_72 : decode cX6_costOf 72 = .ok (.iload 4, 2) := by decide +kernel
theorem dX6_costOf_74 : decode cX6_costOf 74 = .ok (.invokevirtual 120, 3) := by decide +kernel
theorem dX6_costOf_77 : decode cX6_costOf 77 = .ok (.ifCond .eq 8, 3) := by decide +kernel
theorem dX6_costOf_80 : decode cX6_costOf 80 = .ok (.bipush 10, 2) := by decide +kernel
theorem dX6_costOf_82 : decode cX6_costOf 82 = .ok (.goto 4, 3) := by decide +kernel
theorem dX6_costOf_85 : decode cX6_costOf 85 = .ok (.iconst 0, 1) := by decide +kernel
theorem dX6_costOf_86 : decode cX6_costOf 86 = .ok (.iadd, 1) := by decide +kernel
theorem dX6_costOf_87 : decode cX6_costOf 87 = .ok (.istore 5, 2) := by decide +kernel
theorem dX6_costOf_89 : decode cX6_costOf 89 = .ok (.iinc 6 1, 3) := by decide +kernel
theorem dX6_costOf_92 : decode cX6_costOf 92 = .ok (.goto (-37), 3) := by decide +kernel
theorem dX6_costOf_95 : decode cX6_costOf 95 = .ok (.iload 5, 2) := by decide +kernel
theorem dX6_costOf_97 : decode cX6_costOf 97 = .ok (.ireturn, 1) := by decide +kernel
theorem dX6_cheapest_0 : decode cX6_cheapest 0 = .ok (.bipush (-9), 2) := by decide +kernel
theorem dX6_cheapest_2 : decode cX6_cheapest 2 = .ok (.istore 5, 2) := by decide +kernel
theorem dX6_cheapest_4 : decode cX6_cheapest 4 = .ok (.iconst 0, 1) := by decide +kernel
theorem dX6_cheapest_5 : decode cX6_cheapest 5 = .ok (.istore 6, 2) := by decide +kernel
theorem dX6_cheapest_7 : decode cX6_cheapest 7 = .ok (.iconst 0, 1) := by decide +kernel
theorem dX6_cheapest_8 : decode cX6_cheapest 8 = .ok (.istore 7, 2) := by decide +kernel
theorem dX6_cheapest_10 : decode cX6_cheapest 10 = .ok (.iload 7, 2) := by decide +kernel
theorem dX6_cheapest_12 : decode cX6_cheapest 12 = .ok (.aload_n 0, 1) := by decide +kernel
theorem dX6_cheapest_13 : decode cX6_cheapest 13 = .ok (.getfield 44, 3) := by decide +kernel
theorem dX6_cheapest_16 : decode cX6_cheapest 16 = .ok (.iload_n 2, 1) := by decide +kernel
theorem dX6_cheapest_17 : decode cX6_cheapest 17 = .ok (.iaload, 1) := by decide +kernel
theorem dX6_cheapest_18 : decode cX6_cheapest 18 = .ok (.if_icmp .gt 100, 3) := by decide +kernel
theorem dX6_cheapest_21 : decode cX6_cheapest 21 = .ok (.aload_n 0, 1) := by decide +kernel
theorem dX6_cheapest_22 : decode cX6_cheapest 22 = .ok (.iload_n 2, 1) := by decide +kernel
theorem dX6_cheapest_23 : decode cX6_cheapest 23 = .ok (.iload 7, 2) := by decide +kernel
theorem dX6_cheapest_25 : decode cX6_cheapest 25 = .ok (.invokevirtual 123, 3) := by decide +kernel
theorem dX6_cheapest_28 : decode cX6_cheapest 28 = .ok (.ifCond .eq 84, 3) := by decide +kernel
theorem dX6_cheapest_31 : decode cX6_cheapest 31 = .ok (.aload_n 0, 1) := by decide +kernel
theorem dX6_cheapest_32 : decode cX6_cheapest 32 = .ok (.aload_n 1, 1) := by decide +kernel
theorem dX6_cheapest_33 : decode cX6_cheapest 33 = .ok (.iload_n 2, 1) := by decide +kernel
theorem dX6_cheapest_34 : decode cX6_cheapest 34 = .ok (.iload_n 3, 1) := by decide +kernel
theorem dX6_cheapest_35 : decode cX6_cheapest 35 = .ok (.iload 7, 2) := by decide +kernel
theorem dX6_cheapest_37 : decode cX6_cheapest 37 = .ok (.invokevirtual 127, 3) := by decide +kernel
theorem dX6_cheapest_40 : decode cX6_cheapest 40 = .ok (.iload 4, 2) := by decide +kernel
theorem dX6_cheapest_42 : decode cX6_cheapest 42 = .ok (.ifCond .eq 17, 3) := by decide +kernel
theorem dX6_cheapest_45 : decode cX6_cheapest 45 = .ok (.aload_n 0, 1) := by decide +kernel
theorem dX6_cheapest_46 : decode cX6_cheapest 46 = .ok (.getfield 53, 3) := by decide +kernel
theorem dX6_cheapest_49 : decode cX6_cheapest 49 = .ok (.iconst 5, 1) := by decide +kernel
theorem dX6_cheapest_50 : decode cX6_cheapest 50 = .ok (.iload_n 2, 1) := by decide +kernel
theorem dX6_cheapest_51 : decode cX6_cheapest 51 = .ok (.imul, 1) := by decide +kernel
theorem dX6_cheapest_52 : decode cX6_cheapest 52 = .ok (.iload 7, 2) := by decide +kernel
theorem dX6_cheapest_54 : decode cX6_cheapest 54 = .ok (.iadd, 1) := by decide +kernel
theorem dX6_cheapest_55 : decode cX6_cheapest 55 = .ok (.iaload, 1) := by decide +kernel
theorem dX6_cheapest_56 : decode cX6_cheapest 56 = .ok (.goto 4, 3) := by decide +kernel
theorem dX6_cheapest_59 : decode cX6_cheapest 59 = .ok (.iconst 0, 1) := by decide +kernel
theorem dX6_cheapest_60 : decode cX6_cheapest 60 = .ok (.iadd, 1) := by decide +kernel
theorem dX6_cheapest_61 : decode cX6_cheapest 61 = .ok (.istore 8, 2) := by decide +kernel
theorem dX6_cheapest_63 : decode cX6_cheapest 63 = .ok (.iload 5, 2) := by decide +kernel
theorem dX6_cheapest_65 : decode cX6_cheapest 65 = .ok (.bipush (-9), 2) := by decide +kernel
theorem dX6_cheapest_67 : decode cX6_cheapest 67 = .ok (.if_icmp .eq 10, 3) := by decide +kernel
theorem dX6_cheapest_70 : decode cX6_cheapest 70 = .ok (.iload 8, 2) := by decide +kernel
theorem dX6_cheapest_72 : decode cX6_cheapest 72 = .ok (.iload 6, 2) := by decide +kernel
theorem dX6_cheapest_74 : decode cX6_cheapest 74 = .ok (.if_icmp .ge 7, 3) := by decide +kernel
theorem dX6_cheapest_77 : decode cX6_cheapest 77 = .ok (.iconst 1, 1) := by decide +kernel
theorem dX6_cheapest_78 : decode cX6_cheapest 78 = .ok (.goto 4, 3) := by decide +kernel
theorem dX6_cheapest_81 : decode cX6_cheapest 81 = .ok (.iconst 0, 1) := by decide +kernel
theorem dX6_cheapest_82 : decode cX6_cheapest 82 = .ok (.istore 9, 2) := by decide +kernel
theorem dX6_cheapest_84 : decode cX6_cheapest 84 = .ok (.iload 9, 2) := by decide +kernel
theorem dX6_cheapest_86 : decode cX6_cheapest 86 = .ok (.ifCond .eq 8, 3) := by decide +kernel
theorem dX6_cheapest_89 : decode cX6_cheapest 89 = .ok (.iload 7, 2) := by decide +kernel
theorem dX6_cheapest_91 : decode cX6_cheapest 91 = .ok (.goto 5, 3) := by decide +kernel
theorem dX6_cheapest_94 : decode cX6_cheapest 94 = .ok (.iload 5, 2) := by decide +kernel
theorem dX6_cheapest_96 : decode cX6_cheapest 96 = .ok (.istore 5, 2) := by decide +kernel
theorem dX6_cheapest_98 : decode cX6_cheapest 98 = .ok (.iload 9, 2) := by decide +kernel
theorem dX6_cheapest_100 : decode cX6_cheapest 100 = .ok (.ifCond .eq 8, 3) := by decide +kernel
theorem dX6_cheapest_103 : decode cX6_cheapest 103 = .ok (.iload 8, 2) := by decide +kernel
theorem dX6_cheapest_105 : decode cX6_cheapest 105 = .ok (.goto 5, 3) := by decide +kernel
theorem dX6_cheapest_108 : decode cX6_cheapest 108 = .ok (.iload 6, 2) := by decide +kernel
theorem dX6_cheapest_110 : decode cX6_cheapest 110 = .ok (.istore 6, 2) := by decide +kernel
theorem dX6_cheapest_112 : decode cX6_cheapest 112 = .ok (.iinc 7 1, 3) := by decide +kernel
theorem dX6_cheapest_115 : decode cX6_cheapest 115 = .ok (.goto (-105), 3) := by decide +kernel
theorem dX6_cheapest_118 : decode cX6_cheapest 118 = .ok (.iload 5, 2) := by decide +kernel
theorem dX6_cheapest_120 : decode cX6_cheapest 120 = .ok (.ireturn, 1) := by decide +kernel
theorem dX6_layAhead_0 : decode cX6_layAhead 0 = .ok (.aload_n 1, 1) := by decide +kernel
theorem dX6_layAhead_1 : decode cX6_layAhead 1 = .ok (.bipush 7, 2) := by decide +kernel
theorem dX6_layAhead_3 : decode cX6_layAhead 3 = .ok (.iaload, 1) := by decide +kernel
theorem dX6_layAhead_4 : decode cX6_layAhead 4 = .ok (.iconst 1, 1) := by decide +kernel
theorem dX6_layAhead_5 : decode cX6_layAhead 5 = .ok (.isub, 1) := by decide +kernel
theorem dX6_layAhead_6 : decode cX6_layAhead 6 = .ok (.istore_n 2, 1) := by decide +kernel
theorem dX6_layAhead_7 : decode cX6_layAhead 7 = .ok (.iload_n 2, 1) := by decide +kernel
theorem dX6_layAhead_8 : decode cX6_layAhead 8 = .ok (.ifCond .lt 109, 3) := by decide +kernel
theorem dX6_layAhead_11 : decode cX6_layAhead 11 = .ok (.iconst 0, 1) := by decide +kernel
theorem dX6_layAhead_12 : decode cX6_layAhead 12 = .ok (.istore_n 3, 1) := by decide +kernel
theorem dX6_layAhead_13 : decode cX6_layAhead 13 = .ok (.iload_n 3, 1) := by decide +kernel
theorem dX6_layAhead_14 : decode cX6_layAhead 14 = .ok (.aload_n 0, 1) := by decide +kernel
theorem dX6_layAhead_15 : decode cX6_layAhead 15 = .ok (.getfield 44, 3) := by decide +kernel
theorem dX6_layAhead_18 : decode cX6_layAhead 18 = .ok (.iload_n 2, 1) := by decide +kernel
theorem dX6_layAhead_19 : decode cX6_layAhead 19 = .ok (.iaload, 1) := by decide +kernel
theorem dX6_layAhead_20 : decode cX6_layAhead 20 = .ok (.if_icmp .gt 91, 3) := by decide +kernel
theorem dX6_layAhead_23 : decode cX6_layAhead 23 = .ok (.iload_n 2, 1) := by decide +kernel
theorem dX6_layAhead_24 : decode cX6_layAhead 24 = .ok (.aload_n 1, 1) := by decide +kernel
theorem dX6_layAhead_25 : decode cX6_layAhead 25 = .ok (.bipush 7, 2) := by decide +kernel
theorem dX6_layAhead_27 : decode cX6_layAhead 27 = .ok (.iaload, 1) := by decide +kernel
theorem dX6_layAhead_28 : decode cX6_layAhead 28 = .ok (.iconst 1, 1) := by decide +kernel
theorem dX6_layAhead_29 : decode cX6_layAhead 29 = .ok (.isub, 1) := by decide +kernel
theorem dX6_layAhead_30 : decode cX6_layAhead 30 = .ok (.if_icmp .ne 7, 3) := by decide +kernel
theorem dX6_layAhead_33 : decode cX6_layAhead 33 = .ok (.iconst 1, 1) := by decide +kernel
theorem dX6_layAhead_34 : decode cX6_layAhead 34 = .ok (.goto 4, 3) := by decide +kernel
theorem dX6_layAhead_37 : decode cX6_layAhead 37 = .ok (.iconst 0, 1) := by decide +kernel
theorem dX6_layAhead_38 : decode cX6_layAhead 38 = .ok (.istore 4, 2) := by decide +kernel
theorem dX6_layAhead_40 : decode cX6_layAhead 40 = .ok (.iload 4, 2) := by decide +kernel
theorem dX6_layAhead_42 : decode cX6_layAhead 42 = .ok (.ifCond .eq 7, 3) := by decide +kernel
theorem dX6_layAhead_45 : decode cX6_layAhead 45 = .ok (.iconst 0, 1) := by decide +kernel
theorem dX6_layAhead_46 : decode cX6_layAhead 46 = .ok (.goto 13, 3) := by decide +kernel
theorem dX6_layAhead_49 : decode cX6_layAhead 49 = .ok (.aload_n 0, 1) := by decide +kernel
theorem dX6_layAhead_50 : decode cX6_layAhead 50 = .ok (.aload_n 1, 1) := by decide +kernel
theorem dX6_layAhead_51 : decode cX6_layAhead 51 = .ok (.iload_n 2, 1) := by decide +kernel
theorem dX6_layAhead_52 : decode cX6_layAhead 52 = .ok (.iconst 1, 1) := by decide +kernel
theorem dX6_layAhead_53 : decode cX6_layAhead 53 = .ok (.iadd, 1) := by decide +kernel
theorem dX6_layAhead_54 : decode cX6_layAhead 54 = .ok (.iload_n 3, 1) := by decide +kernel
theorem dX6_layAhead_55 : decode cX6_layAhead 55 = .ok (.iconst 1, 1) := by decide +kernel
theorem dX6_layAhead_56 : decode cX6_layAhead 56 = .ok (.invokevirtual 131, 3) := by decide +kernel
theorem dX6_layAhead_59 : decode cX6_layAhead 59 = .ok (.istore 5, 2) := by decide +kernel
theorem dX6_layAhead_61 : decode cX6_layAhead 61 = .ok (.aload_n 0, 1) := by decide +kernel
theorem dX6_layAhead_62 : decode cX6_layAhead 62 = .ok (.getfield 53, 3) := by decide +kernel
theorem dX6_layAhead_65 : decode cX6_layAhead 65 = .ok (.iconst 5, 1) := by decide +kernel
theorem dX6_layAhead_66 : decode cX6_layAhead 66 = .ok (.iload_n 2, 1) := by decide +kernel
theorem dX6_layAhead_67 : decode cX6_layAhead 67 = .ok (.imul, 1) := by decide +kernel
theorem dX6_layAhead_68 : decode cX6_layAhead 68 = .ok (.iload_n 3, 1) := by decide +kernel
theorem dX6_layAhead_69 : decode cX6_layAhead 69 = .ok (.iadd, 1) := by decide +kernel
theorem dX6_layAhead_70 : decode cX6_layAhead 70 = .ok (.iload 4, 2) := by decide +kernel
theorem dX6_layAhead_72 : decode cX6_layAhead 72 = .ok (.ifCond .eq 7, 3) := by decide +kernel
theorem dX6_layAhead_75 : decode cX6_layAhead 75 = .ok (.iconst 0, 1) := by decide +kernel
theorem dX6_layAhead_76 : decode cX6_layAhead 76 = .ok (.goto 28, 3) := by decide +kernel
theorem dX6_layAhead_79 : decode cX6_layAhead 79 = .ok (.aload_n 0, 1) := by decide +kernel
theorem dX6_layAhead_80 : decode cX6_layAhead 80 = .ok (.aload_n 1, 1) := by decide +kernel
theorem dX6_layAhead_81 : decode cX6_layAhead 81 = .ok (.iload_n 2, 1) := by decide +kernel
theorem dX6_layAhead_82 : decode cX6_layAhead 82 = .ok (.iconst 1, 1) := by decide +kernel
theorem dX6_layAhead_83 : decode cX6_layAhead 83 = .ok (.iadd, 1) := by decide +kernel
theorem dX6_layAhead_84 : decode cX6_layAhead 84 = .ok (.iload_n 3, 1) := by decide +kernel
theorem dX6_layAhead_85 : decode cX6_layAhead 85 = .ok (.iload 5, 2) := by decide +kernel
theorem dX6_layAhead_87 : decode cX6_layAhead 87 = .ok (.invokevirtual 127, 3) := by decide +kernel
theorem dX6_layAhead_90 : decode cX6_layAhead 90 = .ok (.aload_n 0, 1) := by decide +kernel
theorem dX6_layAhead_91 : decode cX6_layAhead 91 = .ok (.getfield 53, 3) := by decide +kernel
theorem dX6_layAhead_94 : decode cX6_layAhead 94 = .ok (.iconst 5, 1) := by decide +kernel
theorem dX6_layAhead_95 : decode cX6_layAhead 95 = .ok (.iload_n 2, 1) := by decide +kernel
theorem dX6_layAhead_96 : decode cX6_layAhead 96 = .ok (.iconst 1, 1) := by decide +kernel
theorem dX6_layAhead_97 : decode cX6_layAhead 97 = .ok (.iadd, 1) := by decide +kernel
theorem dX6_layAhead_98 : decode cX6_layAhead 98 = .ok (.imul, 1) := by decide +kernel
theorem dX6_layAhead_99 : decode cX6_layAhead 99 = .ok (.iload 5, 2) := by decide +kernel
theorem dX6_layAhead_101 : decode cX6_layAhead 101 = .ok (.iadd, 1) := by decide +kernel
theorem dX6_layAhead_102 : decode cX6_layAhead 102 = .ok (.iaload, 1) := by decide +kernel
theorem dX6_layAhead_103 : decode cX6_layAhead 103 = .ok (.iadd, 1) := by decide +kernel
theorem dX6_layAhead_104 : decode cX6_layAhead 104 = .ok (.iastore, 1) := by decide +kernel
theorem dX6_layAhead_105 : decode cX6_layAhead 105 = .ok (.iinc 3 1, 3) := by decide +kernel
theorem dX6_layAhead_108 : decode cX6_layAhead 108 = .ok (.goto (-95), 3) := by decide +kernel
theorem dX6_layAhead_111 : decode cX6_layAhead 111 = .ok (.iinc 2 (-1), 3) := by decide +kernel
theorem dX6_layAhead_114 : decode cX6_layAhead 114 = .ok (.goto (-107), 3) := by decide +kernel
theorem dX6_layAhead_117 : decode cX6_layAhead 117 = .ok (.return_, 1) := by decide +kernel
theorem dX6_lay_0 : decode cX6_lay 0 = .ok (.aload_n 0, 1) := by decide +kernel
theorem dX6_lay_1 : decode cX6_lay 1 = .ok (.aload_n 1, 1) := by decide +kernel
theorem dX6_lay_2 : decode cX6_lay 2 = .ok (.invokevirtual 135, 3) := by decide +kernel
theorem dX6_lay_5 : decode cX6_lay 5 = .ok (.iconst 0, 1) := by decide +kernel
theorem dX6_lay_6 : decode cX6_lay 6 = .ok (.istore_n 2, 1) := by decide +kernel
theorem dX6_lay_7 : decode cX6_lay 7 = .ok (.iload_n 2, 1) := by decide +kernel
theorem dX6_lay_8 : decode cX6_lay 8 = .ok (.aload_n 1, 1) := by decide +kernel
theorem dX6_lay_9 : decode cX6_lay 9 = .ok (.bipush 7, 2) := by decide +kernel
theorem dX6_lay_11 : decode cX6_lay 11 = .ok (.iaload, 1) := by decide +kernel
theorem dX6_lay_12 : decode cX6_lay 12 = .ok (.if_icmp .ge 57, 3) := by decide +kernel
theorem dX6_lay_15 : decode cX6_lay 15 = .ok (.aload_n 0, 1) := by decide +kernel
theorem dX6_lay_16 : decode cX6_lay 16 = .ok (.aload_n 1, 1) := by decide +kernel
theorem dX6_lay_17 : decode cX6_lay 17 = .ok (.iload_n 2, 1) := by decide +kernel
theorem dX6_lay_18 : decode cX6_lay 18 = .ok (.invokevirtual 138, 3) := by decide +kernel
theorem dX6_lay_21 : decode cX6_lay 21 = .ok (.aload_n 0, 1) := by decide +kernel
theorem dX6_lay_22 : decode cX6_lay 22 = .ok (.aload_n 1, 1) := by decide +kernel
theorem dX6_lay_23 : decode cX6_lay 23 = .ok (.iload_n 2, 1) := by decide +kernel
theorem dX6_lay_24 : decode cX6_lay 24 = .ok (.invokevirtual 142, 3) := by decide +kernel
theorem dX6_lay_27 : decode cX6_lay 27 = .ok (.aload_n 0, 1) := by decide +kernel
theorem dX6_lay_28 : decode cX6_lay 28 = .ok (.aload_n 1, 1) := by decide +kernel
theorem dX6_lay_29 : decode cX6_lay 29 = .ok (.iload_n 2, 1) := by decide +kernel
theorem dX6_lay_30 : decode cX6_lay 30 = .ok (.invokevirtual 145, 3) := by decide +kernel
theorem dX6_lay_33 : decode cX6_lay 33 = .ok (.aload_n 0, 1) := by decide +kernel
theorem dX6_lay_34 : decode cX6_lay 34 = .ok (.getfield 47, 3) := by decide +kernel
theorem dX6_lay_37 : decode cX6_lay 37 = .ok (.iload_n 2, 1) := by decide +kernel
theorem dX6_lay_38 : decode cX6_lay 38 = .ok (.iaload, 1) := by decide +kernel
theorem dX6_lay_39 : decode cX6_lay 39 = .ok (.ifCond .ne 24, 3) := by decide +kernel
theorem dX6_lay_42 : decode cX6_lay 42 = .ok (.aload_n 0, 1) := by decide +kernel
theorem dX6_lay_43 : decode cX6_lay 43 = .ok (.aload_n 1, 1) := by decide +kernel
theorem dX6_lay_44 : decode cX6_lay 44 = .ok (.iload_n 2, 1) := by decide +kernel
theorem dX6_lay_45 : decode cX6_lay 45 = .ok (.invokevirtual 148, 3) := by decide +kernel
theorem dX6_lay_48 : decode cX6_lay 48 = .ok (.aload_n 0, 1) := by decide +kernel
theorem dX6_lay_49 : decode cX6_lay 49 = .ok (.aload_n 1, 1) := by decide +kernel
theorem dX6_lay_50 : decode cX6_lay 50 = .ok (.iload_n 2, 1) := by decide +kernel
theorem dX6_lay_51 : decode cX6_lay 51 = .ok (.invokevirtual 142, 3) := by decide +kernel
theorem dX6_lay_54 : decode cX6_lay 54 = .ok (.aload_n 0, 1) := by decide +kernel
theorem dX6_lay_55 : decode cX6_lay 55 = .ok (.aload_n 1, 1) := by decide +kernel
theorem dX6_lay_56 : decode cX6_lay 56 = .ok (.iload_n 2, 1) := by decide +kernel
theorem dX6_lay_57 : decode cX6_lay 57 = .ok (.invokevirtual 145, 3) := by decide +kernel
theorem dX6_lay_60 : decode cX6_lay 60 = .ok (.goto (-27), 3) := by decide +kernel
theorem dX6_lay_63 : decode cX6_lay 63 = .ok (.iinc 2 1, 3) := by decide +kernel
theorem dX6_lay_66 : decode cX6_lay 66 = .ok (.goto (-59), 3) := by decide +kernel
theorem dX6_lay_69 : decode cX6_lay 69 = .ok (.aload_n 1, 1) := by decide +kernel
theorem dX6_lay_70 : decode cX6_lay 70 = .ok (.iconst 5, 1) := by decide +kernel
theorem dX6_lay_71 : decode cX6_lay 71 = .ok (.iaload, 1) := by decide +kernel
theorem dX6_lay_72 : decode cX6_lay 72 = .ok (.iconst 1, 1) := by decide +kernel
theorem dX6_lay_73 : decode cX6_lay 73 = .ok (.if_icmp .ne 7, 3) := by decide +kernel
theorem dX6_lay_76 : decode cX6_lay 76 = .ok (.iconst 1, 1) := by decide +kernel
theorem dX6_lay_77 : decode cX6_lay 77 = .ok (.goto 4, 3) := by decide +kernel
theorem dX6_lay_80 : decode cX6_lay 80 = .ok (.iconst 0, 1) := by decide +kernel
theorem dX6_lay_81 : decode cX6_lay 81 = .ok (.istore_n 2, 1) := by decide +kernel
theorem dX6_lay_82 : decode cX6_lay 82 = .ok (.iload_n 2, 1) := by decide +kernel
theorem dX6_lay_83 : decode cX6_lay 83 = .ok (.ifCond .eq 8, 3) := by decide +kernel
theorem dX6_lay_86 : decode cX6_lay 86 = .ok (.aload_n 0, 1) := by decide +kernel
theorem dX6_lay_87 : decode cX6_lay 87 = .ok (.aload_n 1, 1) := by decide +kernel
theorem dX6_lay_88 : decode cX6_lay 88 = .ok (.invokevirtual 151, 3) := by decide +kernel
theorem dX6_lay_91 : decode cX6_lay 91 = .ok (.iconst 0, 1) := by decide +kernel
theorem dX6_lay_92 : decode cX6_lay 92 = .ok (.istore_n 3, 1) := by decide +kernel
theorem dX6_lay_93 : decode cX6_lay 93 = .ok (.iload_n 3, 1) := by decide +kernel
theorem dX6_lay_94 : decode cX6_lay 94 = .ok (.aload_n 1, 1) := by decide +kernel
theorem dX6_lay_95 : decode cX6_lay 95 = .ok (.bipush 7, 2) := by decide +kernel
theorem dX6_lay_97 : decode cX6_lay 97 = .ok (.iaload, 1) := by decide +kernel
theorem dX6_lay_98 : decode cX6_lay 98 = .ok (.if_icmp .ge 38, 3) := by decide +kernel
theorem dX6_lay_101 : decode cX6_lay 101 = .ok (.aload_n 0, 1) := by decide +kernel
theorem dX6_lay_102 : decode cX6_lay 102 = .ok (.getfield 50, 3) := by decide +kernel
theorem dX6_lay_105 : decode cX6_lay 105 = .ok (.iload_n 3, 1) := by decide +kernel
theorem dX6_lay_106 : decode cX6_lay 106 = .ok (.aload_n 0, 1) := by decide +kernel
theorem dX6_lay_107 : decode cX6_lay 107 = .ok (.aload_n 1, 1) := by decide +kernel
theorem dX6_lay_108 : decode cX6_lay 108 = .ok (.iload_n 3, 1) := by decide +kernel
theorem dX6_lay_109 : decode cX6_lay 109 = .ok (.iload_n 3, 1) := by decide +kernel
theorem dX6_lay_110 : decode cX6_lay 110 = .ok (.ifCond .ne 7, 3) := by decide +kernel
theorem dX6_lay_113 : decode cX6_lay 113 = .ok (.iconst 0, 1) := by decide +kernel
theorem dX6_lay_114 : decode cX6_lay 114 = .ok (.goto 11, 3) := by decide +kernel
theorem dX6_lay_117 : decode cX6_lay 117 = .ok (.aload_n 0, 1) := by decide +kernel
theorem dX6_lay_118 : decode cX6_lay 118 = .ok (.getfield 50, 3) := by decide +kernel
theorem dX6_lay_121 : decode cX6_lay 121 = .ok (.iload_n 3, 1) := by decide +kernel
theorem dX6_lay_122 : decode cX6_lay 122 = .ok (.iconst 1, 1) := by decide +kernel
theorem dX6_lay_123 : decode cX6_lay 123 = .ok (.isub, 1) := by decide +kernel
theorem dX6_lay_124 : decode cX6_lay 124 = .ok (.iaload, 1) := by decide +kernel
theorem dX6_lay_125 : decode cX6_lay 125 = .ok (.iload_n 2, 1) := by decide +kernel
theorem dX6_lay_126 : decode cX6_lay 126 = .ok (.invokevirtual 131, 3) := by decide +kernel
theorem dX6_lay_129 : decode cX6_lay 129 = .ok (.iastore, 1) := by decide +kernel
theorem dX6_lay_130 : decode cX6_lay 130 = .ok (.iinc 3 1, 3) := by decide +kernel
theorem dX6_lay_133 : decode cX6_lay 133 = .ok (.goto (-40), 3) := by decide +kernel
theorem dX6_lay_136 : decode cX6_lay 136 = .ok (.return_, 1) := by decide +kernel
theorem dX6_before_0 : decode cX6_before 0 = .ok (.iload_n 1, 1) := by decide +kernel
theorem dX6_before_1 : decode cX6_before 1 = .ok (.ifCond .ne 7, 3) := by decide +kernel
theorem dX6_before_4 : decode cX6_before 4 = .ok (.iconst 0, 1) := by decide +kernel
theorem dX6_before_5 : decode cX6_before 5 = .ok (.goto 11, 3) := by decide +kernel
theorem dX6_before_8 : decode cX6_before 8 = .ok (.aload_n 0, 1) := by decide +kernel
theorem dX6_before_9 : decode cX6_before 9 = .ok (.getfield 50, 3) := by decide +kernel
theorem dX6_before_12 : decode cX6_before 12 = .ok (.iload_n 1, 1) := by decide +kernel
theorem dX6_before_13 : decode cX6_before 13 = .ok (.iconst 1, 1) := by decide +kernel
theorem dX6_before_14 : decode cX6_before 14 = .ok (.isub, 1) := by decide +kernel
theorem dX6_before_15 : decode cX6_before 15 = .ok (.iaload, 1) := by decide +kernel
theorem dX6_before_16 : decode cX6_before 16 = .ok (.ireturn, 1) := by decide +kernel
theorem dX6_isCutHere_0 : decode cX6_isCutHere 0 = .ok (.iload_n 3, 1) := by decide +kernel
theorem dX6_isCutHere_1 : decode cX6_isCutHere 1 = .ok (.ifCond .le 28, 3) := by decide +kernel
theorem dX6_isCutHere_4 : decode cX6_isCutHere 4 = .ok (.aload_n 0, 1) := by decide +kernel
theorem dX6_isCutHere_5 : decode cX6_isCutHere 5 = .ok (.aload_n 1, 1) := by decide +kernel
theorem dX6_isCutHere_6 : decode cX6_isCutHere 6 = .ok (.iload_n 2, 1) := by decide +kernel
theorem dX6_isCutHere_7 : decode cX6_isCutHere 7 = .ok (.iload_n 3, 1) := by decide +kernel
theorem dX6_isCutHere_8 : decode cX6_isCutHere 8 = .ok (.aload_n 0, 1) := by decide +kernel
theorem dX6_isCutHere_9 : decode cX6_isCutHere 9 = .ok (.iload_n 3, 1) := by decide +kernel
theorem dX6_isCutHere_10 : decode cX6_isCutHere 10 = .ok (.invokevirtual 154, 3) := by decide +kernel
theorem dX6_isCutHere_13 : decode cX6_isCutHere 13 = .ok (.aload_n 0, 1) := by decide +kernel
theorem dX6_isCutHere_14 : decode cX6_isCutHere 14 = .ok (.getfield 50, 3) := by decide +kernel
theorem dX6_isCutHere_17 : decode cX6_isCutHere 17 = .ok (.iload_n 3, 1) := by decide +kernel
theorem dX6_isCutHere_18 : decode cX6_isCutHere 18 = .ok (.iaload, 1) := by decide +kernel
theorem dX6_isCutHere_19 : decode cX6_isCutHere 19 = .ok (.invokevirtual 120, 3) := by decide +kernel
theorem dX6_isCutHere_22 : decode cX6_isCutHere 22 = .ok (.ifCond .eq 7, 3) := by decide +kernel
theorem dX6_isCutHere_25 : decode cX6_isCutHere 25 = .ok (.iconst 1, 1) := by decide +kernel
theorem dX6_isCutHere_26 : decode cX6_isCutHere 26 = .ok (.goto 4, 3) := by decide +kernel
theorem dX6_isCutHere_29 : decode cX6_isCutHere 29 = .ok (.iconst 0, 1) := by decide +kernel
theorem dX6_isCutHere_30 : decode cX6_isCutHere 30 = .ok (.ireturn, 1) := by decide +kernel
theorem dX6_wholeOf_0 : decode cX6_wholeOf 0 = .ok (.aload_n 0, 1) := by decide +kernel
theorem dX6_wholeOf_1 : decode cX6_wholeOf 1 = .ok (.aload_n 1, 1) := by decide +kernel
theorem dX6_wholeOf_2 : decode cX6_wholeOf 2 = .ok (.invokevirtual 158, 3) := by decide +kernel
theorem dX6_wholeOf_5 : decode cX6_wholeOf 5 = .ok (.iconst 0, 1) := by decide +kernel
theorem dX6_wholeOf_6 : decode cX6_wholeOf 6 = .ok (.istore_n 3, 1) := by decide +kernel
theorem dX6_wholeOf_7 : decode cX6_wholeOf 7 = .ok (.iconst 0, 1) := by decide +kernel
theorem dX6_wholeOf_8 : decode cX6_wholeOf 8 = .ok (.istore 4, 2) := by decide +kernel
theorem dX6_wholeOf_10 : decode cX6_wholeOf 10 = .ok (.iload 4, 2) := by decide +kernel
theorem dX6_wholeOf_12 : decode cX6_wholeOf 12 = .ok (.aload_n 1, 1) := by decide +kernel
theorem dX6_wholeOf_13 : decode cX6_wholeOf 13 = .ok (.bipush 7, 2) := by decide +kernel
theorem dX6_wholeOf_15 : decode cX6_wholeOf 15 = .ok (.iaload, 1) := by decide +kernel
theorem dX6_wholeOf_16 : decode cX6_wholeOf 16 = .ok (.if_icmp .ge 273, 3) := by decide +kernel
theorem dX6_wholeOf_19 : decode cX6_wholeOf 19 = .ok (.iconst 0, 1) := by decide +kernel
theorem dX6_wholeOf_20 : decode cX6_wholeOf 20 = .ok (.istore 5, 2) := by decide +kernel
theorem dX6_wholeOf_22 : decode cX6_wholeOf 22 = .ok (.iload 5, 2) := by decide +kernel
theorem dX6_wholeOf_24 : decode cX6_wholeOf 24 = .ok (.iconst 2, 1) := by decide +kernel
theorem dX6_wholeOf_25 : decode cX6_wholeOf 25 = .ok (.if_icmp .ge 75, 3) := by decide +kernel
theorem dX6_wholeOf_28 : decode cX6_wholeOf 28 = .ok (.iload_n 3, 1) := by decide +kernel
theorem dX6_wholeOf_29 : decode cX6_wholeOf 29 = .ok (.iload_n 2, 1) := by decide +kernel
theorem dX6_wholeOf_30 : decode cX6_wholeOf 30 = .ok (.iconst 5, 1) := by decide +kernel
theorem dX6_wholeOf_31 : decode cX6_wholeOf 31 = .ok (.if_icmp .ne 26, 3) := by decide +kernel
theorem dX6_wholeOf_34 : decode cX6_wholeOf 34 = .ok (.aload_n 0, 1) := by decide +kernel
theorem dX6_wholeOf_35 : decode cX6_wholeOf 35 = .ok (.aload_n 1, 1) := by decide +kernel
theorem dX6_wholeOf_36 : decode cX6_wholeOf 36 = .ok (.iload 5, 2) := by decide +kernel
theorem dX6_wholeOf_38 : decode cX6_wholeOf 38 = .ok (.iload 4, 2) := by decide +kernel
theorem dX6_wholeOf_40 : decode cX6_wholeOf 40 = .ok (.aload_n 0, 1) := by decide +kernel
theorem dX6_wholeOf_41 : decode cX6_wholeOf 41 = .ok (.getfield 50, 3) := by decide +kernel
theorem dX6_wholeOf_44 : decode cX6_wholeOf 44 = .ok (.iload 4, 2) := by decide +kernel
theorem dX6_wholeOf_46 : decode cX6_wholeOf 46 = .ok (.iaload, 1) := by decide +kernel
theorem dX6_wholeOf_47 : decode cX6_wholeOf 47 = .ok (.invokevirtual 116, 3) := by decide +kernel
theorem dX6_wholeOf_50 : decode cX6_wholeOf 50 = .ok (.ifCond .eq 7, 3) := by decide +kernel
theorem dX6_wholeOf_53 : decode cX6_wholeOf 53 = .ok (.iconst 1, 1) := by decide +kernel
theorem dX6_wholeOf_54 : decode cX6_wholeOf 54 = .ok (.goto 4, 3) := by decide +kernel
theorem dX6_wholeOf_57 : decode cX6_wholeOf 57 = .ok (.iconst 0, 1) := by decide +kernel
theorem dX6_wholeOf_58 : decode cX6_wholeOf 58 = .ok (.iadd, 1) := by decide +kernel
theorem dX6_wholeOf_59 : decode cX6_wholeOf 59 = .ok (.istore_n 3, 1) := by decide +kernel
theorem dX6_wholeOf_60 : decode cX6_wholeOf 60 = .ok (.iload_n 3, 1) := by decide +kernel
theorem dX6_wholeOf_61 : decode cX6_wholeOf 61 = .ok (.iload_n 2, 1) := by decide +kernel
theorem dX6_wholeOf_62 : decode cX6_wholeOf 62 = .ok (.bipush 6, 2) := by decide +kernel
theorem dX6_wholeOf_64 : decode cX6_wholeOf 64 = .ok (.if_icmp .ne 27, 3) := by decide +kernel
theorem dX6_wholeOf_67 : decode cX6_wholeOf 67 = .ok (.aload_n 0, 1) := by decide +kernel
theorem dX6_wholeOf_68 : decode cX6_wholeOf 68 = .ok (.iload 5, 2) := by decide +kernel
theorem dX6_wholeOf_70 : decode cX6_wholeOf 70 = .ok (.iload 4, 2) := by decide +kernel
theorem dX6_wholeOf_72 : decode cX6_wholeOf 72 = .ok (.aload_n 0, 1) := by decide +kernel
theorem dX6_wholeOf_73 : decode cX6_wholeOf 73 = .ok (.iload 4, 2) := by decide +kernel
theorem dX6_wholeOf_75 : decode cX6_wholeOf 75 = .ok (.invokevirtual 154, 3) := by decide +kernel
theorem dX6_wholeOf_78 : decode cX6_wholeOf 78 = .ok (.aload_n 0, 1) := by decide +kernel
theorem dX6_wholeOf_79 : decode cX6_wholeOf 79 = .ok (.getfield 50, 3) := by decide +kernel
theorem dX6_wholeOf_82 : decode cX6_wholeOf 82 = .ok (.iload 4, 2) := by decide +kernel
theorem dX6_wholeOf_84 : decode cX6_wholeOf 84 = .ok (.iaload, 1) := by decide +kernel
theorem dX6_wholeOf_85 : decode cX6_wholeOf 85 = .ok (.invokevirtual 112, 3) := by decide +kernel
theorem dX6_wholeOf_88 : decode cX6_wholeOf 88 = .ok (.goto 4, 3) := by decide +kernel
theorem dX6_wholeOf_91 : decode cX6_wholeOf 91 = .ok (.iconst 0, 1) := by decide +kernel
theorem dX6_wholeOf_92 : decode cX6_wholeOf 92 = .ok (.iadd, 1) := by decide +kernel
theorem dX6_wholeOf_93 : decode cX6_wholeOf 93 = .ok (.istore_n 3, 1) := by decide +kernel
theorem dX6_wholeOf_94 : decode cX6_wholeOf 94 = .ok (.iinc 5 1, 3) := by decide +kernel
theorem dX6_wholeOf_97 : decode cX6_wholeOf 97 = .ok (.goto (-75), 3) := by decide +kernel
theorem dX6_wholeOf_100 : decode cX6_wholeOf 100 = .ok (.iload_n 3, 1) := by decide +kernel
theorem dX6_wholeOf_101 : decode cX6_wholeOf 101 = .ok (.iload_n 2, 1) := by decide +kernel
theorem dX6_wholeOf_102 : decode cX6_wholeOf 102 = .ok (.ifCond .ne 26, 3) := by decide +kernel
theorem dX6_wholeOf_105 : decode cX6_wholeOf 105 = .ok (.aload_n 0, 1) := by decide +kernel
theorem dX6_wholeOf_106 : decode cX6_wholeOf 106 = .ok (.aload_n 1, 1) := by decide +kernel
theorem dX6_wholeOf_107 : decode cX6_wholeOf 107 = .ok (.iload 4, 2) := by decide +kernel
theorem dX6_wholeOf_109 : decode cX6_wholeOf 109 = .ok (.aload_n 0, 1) := by decide +kernel
theorem dX6_wholeOf_110 : decode cX6_wholeOf 110 = .ok (.iload 4, 2) := by decide +kernel
theorem dX6_wholeOf_112 : decode cX6_wholeOf 112 = .ok (.invokevirtual 154, 3) := by decide +kernel
theorem dX6_wholeOf_115 : decode cX6_wholeOf 115 = .ok (.aload_n 0, 1) := by decide +kernel
theorem dX6_wholeOf_116 : decode cX6_wholeOf 116 = .ok (.getfield 50, 3) := by decide +kernel
theorem dX6_wholeOf_119 : decode cX6_wholeOf 119 = .ok (.iload 4, 2) := by decide +kernel
theorem dX6_wholeOf_121 : decode cX6_wholeOf 121 = .ok (.iaload, 1) := by decide +kernel
theorem dX6_wholeOf_122 : decode cX6_wholeOf 122 = .ok (.invokevirtual 127, 3) := by decide +kernel
theorem dX6_wholeOf_125 : decode cX6_wholeOf 125 = .ok (.goto 4, 3) := by decide +kernel
theorem dX6_wholeOf_128 : decode cX6_wholeOf 128 = .ok (.iconst 0, 1) := by decide +kernel
theorem dX6_wholeOf_129 : decode cX6_wholeOf 129 = .ok (.iadd, 1) := by decide +kernel
theorem dX6_wholeOf_130 : decode cX6_wholeOf 130 = .ok (.istore_n 3, 1) := by decide +kernel
theorem dX6_wholeOf_131 : decode cX6_wholeOf 131 = .ok (.iconst 0, 1) := by decide +kernel
theorem dX6_wholeOf_132 : decode cX6_wholeOf 132 = .ok (.istore 5, 2) := by decide +kernel
theorem dX6_wholeOf_134 : decode cX6_wholeOf 134 = .ok (.iload 5, 2) := by decide +kernel
theorem dX6_wholeOf_136 : decode cX6_wholeOf 136 = .ok (.aload_n 1, 1) := by decide +kernel
theorem dX6_wholeOf_137 : decode cX6_wholeOf 137 = .ok (.bipush 6, 2) := by decide +kernel
theorem dX6_wholeOf_139 : decode cX6_wholeOf 139 = .ok (.iaload, 1) := by decide +kernel
theorem dX6_wholeOf_140 : decode cX6_wholeOf 140 = .ok (.if_icmp .ge 143, 3) := by decide +kernel
theorem dX6_wholeOf_143 : decode cX6_wholeOf 143 = .ok (.aload_n 0, 1) := by decide +kernel
theorem dX6_wholeOf_144 : decode cX6_wholeOf 144 = .ok (.getfield 35, 3) := by decide +kernel
theorem dX6_wholeOf_147 : decode cX6_wholeOf 147 = .ok (.iload 5, 2) := by decide +kernel
theorem dX6_wholeOf_149 : decode cX6_wholeOf 149 = .ok (.iload 4, 2) := by decide +kernel
theorem dX6_wholeOf_151 : decode cX6_wholeOf 151 = .ok (.invokestatic 70, 3) := by decide +kernel
theorem dX6_wholeOf_154 : decode cX6_wholeOf 154 = .ok (.iaload, 1) := by decide +kernel
theorem dX6_wholeOf_155 : decode cX6_wholeOf 155 = .ok (.bipush (-9), 2) := by decide +kernel
theorem dX6_wholeOf_157 : decode cX6_wholeOf 157 = .ok (.if_icmp .eq 7, 3) := by decide +kernel
theorem dX6_wholeOf_160 : decode cX6_wholeOf 160 = .ok (.iconst 1, 1) := by decide +kernel
theorem dX6_wholeOf_161 : decode cX6_wholeOf 161 = .ok (.goto 4, 3) := by decide +kernel
theorem dX6_wholeOf_164 : decode cX6_wholeOf 164 = .ok (.iconst 0, 1) := by decide +kernel
theorem dX6_wholeOf_165 : decode cX6_wholeOf 165 = .ok (.istore 6, 2) := by decide +kernel
theorem dX6_wholeOf_167 : decode cX6_wholeOf 167 = .ok (.aload_n 0, 1) := by decide +kernel
theorem dX6_wholeOf_168 : decode cX6_wholeOf 168 = .ok (.aload_n 1, 1) := by decide +kernel
theorem dX6_wholeOf_169 : decode cX6_wholeOf 169 = .ok (.iload 5, 2) := by decide +kernel
theorem dX6_wholeOf_171 : decode cX6_wholeOf 171 = .ok (.iload 4, 2) := by decide +kernel
theorem dX6_wholeOf_173 : decode cX6_wholeOf 173 = .ok (.invokevirtual 161, 3) := by decide +kernel
theorem dX6_wholeOf_176 : decode cX6_wholeOf 176 = .ok (.istore 7, 2) := by decide +kernel
theorem dX6_wholeOf_178 : decode cX6_wholeOf 178 = .ok (.iload_n 3, 1) := by decide +kernel
theorem dX6_wholeOf_179 : decode cX6_wholeOf 179 = .ok (.iload_n 2, 1) := by decide +kernel
theorem dX6_wholeOf_180 : decode cX6_wholeOf 180 = .ok (.ifCond .le 33, 3) := by decide +kernel
theorem dX6_wholeOf_183 : decode cX6_wholeOf 183 = .ok (.iload_n 2, 1) := by decide +kernel
theorem dX6_wholeOf_184 : decode cX6_wholeOf 184 = .ok (.iconst 4, 1) := by decide +kernel
theorem dX6_wholeOf_185 : decode cX6_wholeOf 185 = .ok (.if_icmp .ge 28, 3) := by decide +kernel
theorem dX6_wholeOf_188 : decode cX6_wholeOf 188 = .ok (.iload 6, 2) := by decide +kernel
theorem dX6_wholeOf_190 : decode cX6_wholeOf 190 = .ok (.ifCond .eq 23, 3) := by decide +kernel
theorem dX6_wholeOf_193 : decode cX6_wholeOf 193 = .ok (.aload_n 0, 1) := by decide +kernel
theorem dX6_wholeOf_194 : decode cX6_wholeOf 194 = .ok (.getfield 38, 3) := by decide +kernel
theorem dX6_wholeOf_197 : decode cX6_wholeOf 197 = .ok (.iload 5, 2) := by decide +kernel
theorem dX6_wholeOf_199 : decode cX6_wholeOf 199 = .ok (.iload 4, 2) := by decide +kernel
theorem dX6_wholeOf_201 : decode cX6_wholeOf 201 = .ok (.invokestatic 70, 3) := by decide +kernel
theorem dX6_wholeOf_204 : decode cX6_wholeOf 204 = .ok (.iaload, 1) := by decide +kernel
theorem dX6_wholeOf_205 : decode cX6_wholeOf 205 = .ok (.iload_n 2, 1) := by decide +kernel
theorem dX6_wholeOf_206 : decode cX6_wholeOf 206 = .ok (.if_icmp .ne 7, 3) := by decide +kernel
theorem dX6_wholeOf_209 : decode cX6_wholeOf 209 = .ok (.iconst 1, 1) := by decide +kernel
theorem dX6_wholeOf_210 : decode cX6_wholeOf 210 = .ok (.goto 4, 3) := by decide +kernel
theorem dX6_wholeOf_213 : decode cX6_wholeOf 213 = .ok (.iconst 0, 1) := by decide +kernel
theorem dX6_wholeOf_214 : decode cX6_wholeOf 214 = .ok (.iadd, 1) := by decide +kernel
theorem dX6_wholeOf_215 : decode cX6_wholeOf 215 = .ok (.istore_n 3, 1) := by decide +kernel
theorem dX6_wholeOf_216 : decode cX6_wholeOf 216 = .ok (.iload_n 3, 1) := by decide +kernel
theorem dX6_wholeOf_217 : decode cX6_wholeOf 217 = .ok (.iload_n 2, 1) := by decide +kernel
theorem dX6_wholeOf_218 : decode cX6_wholeOf 218 = .ok (.iconst 4, 1) := by decide +kernel
theorem dX6_wholeOf_219 : decode cX6_wholeOf 219 = .ok (.if_icmp .ne 8, 3) := by decide +kernel
theorem dX6_wholeOf_222 : decode cX6_wholeOf 222 = .ok (.iload 7, 2) := by decide +kernel
theorem dX6_wholeOf_224 : decode cX6_wholeOf 224 = .ok (.ifCond .ne 46, 3) := by decide +kernel
theorem dX6_wholeOf_227 : decode cX6_wholeOf 227 = .ok (.iload_n 2, 1) := by decide +kernel
theorem dX6_wholeOf_228 : decode cX6_wholeOf 228 = .ok (.bipush 7, 2) := by decide +kernel
theorem dX6_wholeOf_230 : decode cX6_wholeOf 230 = .ok (.if_icmp .ne 44, 3) := by decide +kernel
theorem dX6_wholeOf_233 : decode cX6_wholeOf 233 = .ok (.iload 6, 2) := by decide +kernel
theorem dX6_wholeOf_235 : decode cX6_wholeOf 235 = .ok (.ifCond .eq 39, 3) := by decide +kernel
theorem dX6_wholeOf_238 : decode cX6_wholeOf 238 = .ok (.aload_n 0, 1) := by decide +kernel
theorem dX6_wholeOf_239 : decode cX6_wholeOf 239 = .ok (.getfield 38, 3) := by decide +kernel
theorem dX6_wholeOf_242 : decode cX6_wholeOf 242 = .ok (.iload 5, 2) := by decide +kernel
theorem dX6_wholeOf_244 : decode cX6_wholeOf 244 = .ok (.iload 4, 2) := by decide +kernel
theorem dX6_wholeOf_246 : decode cX6_wholeOf 246 = .ok (.invokestatic 70, 3) := by decide +kernel
theorem dX6_wholeOf_249 : decode cX6_wholeOf 249 = .ok (.iaload, 1) := by decide +kernel
theorem dX6_wholeOf_250 : decode cX6_wholeOf 250 = .ok (.ifCond .ne 24, 3) := by decide +kernel
theorem dX6_wholeOf_253 : decode cX6_wholeOf 253 = .ok (.iload 7, 2) := by decide +kernel
theorem dX6_wholeOf_255 : decode cX6_wholeOf 255 = .ok (.ifCond .ne 15, 3) := by decide +kernel
theorem dX6_wholeOf_258 : decode cX6_wholeOf 258 = .ok (.aload_n 0, 1) := by decide +kernel
theorem dX6_wholeOf_259 : decode cX6_wholeOf 259 = .ok (.aload_n 1, 1) := by decide +kernel
theorem dX6_wholeOf_260 : decode cX6_wholeOf 260 = .ok (.iload 5, 2) := by decide +kernel
theorem dX6_wholeOf_262 : decode cX6_wholeOf 262 = .ok (.iload 4, 2) := by decide +kernel
theorem dX6_wholeOf_264 : decode cX6_wholeOf 264 = .ok (.invokevirtual 74, 3) := by decide +kernel
theorem dX6_wholeOf_267 : decode cX6_wholeOf 267 = .ok (.ifCond .ne 7, 3) := by decide +kernel
theorem dX6_wholeOf_270 : decode cX6_wholeOf 270 = .ok (.iconst 1, 1) := by decide +kernel
theorem dX6_wholeOf_271 : decode cX6_wholeOf 271 = .ok (.goto 4, 3) := by decide +kernel
theorem dX6_wholeOf_274 : decode cX6_wholeOf 274 = .ok (.iconst 0, 1) := by decide +kernel
theorem dX6_wholeOf_275 : decode cX6_wholeOf 275 = .ok (.iadd, 1) := by decide +kernel
theorem dX6_wholeOf_276 : decode cX6_wholeOf 276 = .ok (.istore_n 3, 1) := by decide +kernel
theorem dX6_wholeOf_277 : decode cX6_wholeOf 277 = .ok (.iinc 5 1, 3) := by decide +kernel
theorem dX6_wholeOf_280 : decode cX6_wholeOf 280 = .ok (.goto (-146), 3) := by decide +kernel
theorem dX6_wholeOf_283 : decode cX6_wholeOf 283 = .ok (.iinc 4 1, 3) := by decide +kernel
theorem dX6_wholeOf_286 : decode cX6_wholeOf 286 = .ok (.goto (-276), 3) := by decide +kernel
theorem dX6_wholeOf_289 : decode cX6_wholeOf 289 = .ok (.iload_n 3, 1) := by decide +kernel
theorem dX6_wholeOf_290 : decode cX6_wholeOf 290 = .ok (.ireturn, 1) := by decide +kernel
theorem dX6_mend_0 : decode cX6_mend 0 = .ok (.iconst 0, 1) := by decide +kernel
theorem dX6_mend_1 : decode cX6_mend 1 = .ok (.istore_n 1, 1) := by decide +kernel
theorem dX6_mend_2 : decode cX6_mend 2 = .ok (.iload_n 1, 1) := by decide +kernel
theorem dX6_mend_3 : decode cX6_mend 3 = .ok (.aload_n 0, 1) := by decide +kernel
theorem dX6_mend_4 : decode cX6_mend 4 = .ok (.bipush 6, 2) := by decide +kernel
theorem dX6_mend_6 : decode cX6_mend 6 = .ok (.iaload, 1) := by decide +kernel
theorem dX6_mend_7 : decode cX6_mend 7 = .ok (.if_icmp .ge 67, 3) := by decide +kernel
theorem dX6_mend_10 : decode cX6_mend 10 = .ok (.iconst 0, 1) := by decide +kernel
theorem dX6_mend_11 : decode cX6_mend 11 = .ok (.istore_n 2, 1) := by decide +kernel
theorem dX6_mend_12 : decode cX6_mend 12 = .ok (.iload_n 2, 1) := by decide +kernel
theorem dX6_mend_13 : decode cX6_mend 13 = .ok (.aload_n 0, 1) := by decide +kernel
theorem dX6_mend_14 : decode cX6_mend 14 = .ok (.bipush 7, 2) := by decide +kernel
theorem dX6_mend_16 : decode cX6_mend 16 = .ok (.iaload, 1) := by decide +kernel
theorem dX6_mend_17 : decode cX6_mend 17 = .ok (.if_icmp .ge 51, 3) := by decide +kernel
theorem dX6_mend_20 : decode cX6_mend 20 = .ok (.bipush 8, 2) := by decide +kernel
theorem dX6_mend_22 : decode cX6_mend 22 = .ok (.iload_n 1, 1) := by decide +kernel
theorem dX6_mend_23 : decode cX6_mend 23 = .ok (.iload_n 2, 1) := by decide +kernel
theorem dX6_mend_24 : decode cX6_mend 24 = .ok (.invokestatic 70, 3) := by decide +kernel
theorem dX6_mend_27 : decode cX6_mend 27 = .ok (.iadd, 1) := by decide +kernel
theorem dX6_mend_28 : decode cX6_mend 28 = .ok (.istore_n 3, 1) := by decide +kernel
theorem dX6_mend_29 : decode cX6_mend 29 = .ok (.aload_n 0, 1) := by decide +kernel
theorem dX6_mend_30 : decode cX6_mend 30 = .ok (.iload_n 3, 1) := by decide +kernel
theorem dX6_mend_31 : decode cX6_mend 31 = .ok (.aload_n 0, 1) := by decide +kernel
theorem dX6_mend_32 : decode cX6_mend 32 = .ok (.iload_n 3, 1) := by decide +kernel
theorem dX6_mend_33 : decode cX6_mend 33 = .ok (.iaload, 1) := by decide +kernel
theorem dX6_mend_34 : decode cX6_mend 34 = .ok (.bipush 99, 2) := by decide +kernel
theorem dX6_mend_36 : decode cX6_mend 36 = .ok (.if_icmp .ne 22, 3) := by decide +kernel
theorem dX6_mend_39 : decode cX6_mend 39 = .ok (.iload_n 2, 1) := by decide +kernel
theorem dX6_mend_40 : decode cX6_mend 40 = .ok (.ifCond .eq 13, 3) := by decide +kernel
theorem dX6_mend_43 : decode cX6_mend 43 = .ok (.aload_n 0, 1) := by decide +kernel
theorem dX6_mend_44 : decode cX6_mend 44 = .ok (.iload_n 3, 1) := by decide +kernel
theorem dX6_mend_45 : decode cX6_mend 45 = .ok (.iconst 1, 1) := by decide +kernel
theorem dX6_mend_46 : decode cX6_mend 46 = .ok (.isub, 1) := by decide +kernel
theorem dX6_mend_47 : decode cX6_mend 47 = .ok (.iaload, 1) := by decide +kernel
theorem dX6_mend_48 : decode cX6_mend 48 = .ok (.bipush (-9), 2) := by decide +kernel
theorem dX6_mend_50 : decode cX6_mend 50 = .ok (.if_icmp .ne 8, 3) := by decide +kernel
theorem dX6_mend_53 : decode cX6_mend 53 = .ok (.bipush (-9), 2) := by decide +kernel
theorem dX6_mend_55 : decode cX6_mend 55 = .ok (.goto 6, 3) := by decide +kernel
theorem dX6_mend_58 : decode cX6_mend 58 = .ok (.aload_n 0, 1) := by decide +kernel
theorem dX6_mend_59 : decode cX6_mend 59 = .ok (.iload_n 3, 1) := by decide +kernel
theorem dX6_mend_60 : decode cX6_mend 60 = .ok (.iaload, 1) := by decide +kernel
theorem dX6_mend_61 : decode cX6_mend 61 = .ok (.iastore, 1) := by decide +kernel
theorem dX6_mend_62 : decode cX6_mend 62 = .ok (.iinc 2 1, 3) := by decide +kernel
theorem dX6_mend_65 : decode cX6_mend 65 = .ok (.goto (-53), 3) := by decide +kernel
theorem dX6_mend_68 : decode cX6_mend 68 = .ok (.iinc 1 1, 3) := by decide +kernel
theorem dX6_mend_71 : decode cX6_mend 71 = .ok (.goto (-69), 3) := by decide +kernel
theorem dX6_mend_74 : decode cX6_mend 74 = .ok (.return_, 1) := by decide +kernel
theorem dX6_append_0 : decode cX6_append 0 = .ok (.aload_n 0, 1) := by decide +kernel
theorem dX6_append_1 : decode cX6_append 1 = .ok (.iload_n 1, 1) := by decide +kernel
theorem dX6_append_2 : decode cX6_append 2 = .ok (.i2l, 1) := by decide +kernel
theorem dX6_append_3 : decode cX6_append 3 = .ok (.lconst 0, 1) := by decide +kernel
theorem dX6_append_4 : decode cX6_append 4 = .ok (.ldc2_w 164, 3) := by decide +kernel
theorem dX6_append_7 : decode cX6_append 7 = .ok (.invokestatic 66, 3) := by decide +kernel
theorem dX6_append_10 : decode cX6_append 10 = .ok (.ifCond .ne 7, 3) := by decide +kernel
theorem dX6_append_13 : decode cX6_append 13 = .ok (.iconst 1, 1) := by decide +kernel
theorem dX6_append_14 : decode cX6_append 14 = .ok (.goto 18, 3) := by decide +kernel
theorem dX6_append_17 : decode cX6_append 17 = .ok (.aload_n 0, 1) := by decide +kernel
theorem dX6_append_18 : decode cX6_append 18 = .ok (.getfield 166, 3) := by decide +kernel
theorem dX6_append_21 : decode cX6_append 21 = .ok (.sipush 140, 3) := by decide +kernel
theorem dX6_append_24 : decode cX6_append 24 = .ok (.if_icmp .ne 7, 3) := by decide +kernel
theorem dX6_append_27 : decode cX6_append 27 = .ok (.iconst 2, 1) := by decide +kernel
theorem dX6_append_28 : decode cX6_append 28 = .ok (.goto 4, 3) := by decide +kernel
theorem dX6_append_31 : decode cX6_append 31 = .ok (.iconst 0, 1) := by decide +kernel
theorem dX6_append_32 : decode cX6_append 32 = .ok (.invokevirtual 169, 3) := by decide +kernel
theorem dX6_append_35 : decode cX6_append 35 = .ok (.ifCond .eq 5, 3) := by decide +kernel
theorem dX6_append_38 : decode cX6_append 38 = .ok (.iconst 0, 1) := by decide +kernel
theorem dX6_append_39 : decode cX6_append 39 = .ok (.ireturn, 1) := by decide +kernel
theorem dX6_append_40 : decode cX6_append 40 = .ok (.aload_n 0, 1) := by decide +kernel
theorem dX6_append_41 : decode cX6_append 41 = .ok (.getfield 7, 3) := by decide +kernel
theorem dX6_append_44 : decode cX6_append 44 = .ok (.aload_n 0, 1) := by decide +kernel
theorem dX6_append_45 : decode cX6_append 45 = .ok (.getfield 166, 3) := by decide +kernel
theorem dX6_append_48 : decode cX6_append 48 = .ok (.iload_n 1, 1) := by decide +kernel
theorem dX6_append_49 : decode cX6_append 49 = .ok (.iastore, 1) := by decide +kernel
theorem dX6_append_50 : decode cX6_append 50 = .ok (.aload_n 0, 1) := by decide +kernel
theorem dX6_append_51 : decode cX6_append 51 = .ok (.dup, 1) := by decide +kernel
theorem dX6_append_52 : decode cX6_append 52 = .ok (.getfield 166, 3) := by decide +kernel
theorem dX6_append_55 : decode cX6_append 55 = .ok (.iconst 1, 1) := by decide +kernel
theorem dX6_append_56 : decode cX6_append 56 = .ok (.iadd, 1) := by decide +kernel
theorem dX6_append_57 : decode cX6_append 57 = .ok (.putfield 166, 3) := by decide +kernel
theorem dX6_append_60 : decode cX6_append 60 = .ok (.aload_n 0, 1) := by decide +kernel
theorem dX6_append_61 : decode cX6_append 61 = .ok (.getfield 166, 3) := by decide +kernel
theorem dX6_append_64 : decode cX6_append 64 = .ok (.ireturn, 1) := by decide +kernel
theorem dX6_clearText_0 : decode cX6_clearText 0 = .ok (.aload_n 0, 1) := by decide +kernel
theorem dX6_clearText_1 : decode cX6_clearText 1 = .ok (.iconst 0, 1) := by decide +kernel
theorem dX6_clearText_2 : decode cX6_clearText 2 = .ok (.putfield 60, 3) := by decide +kernel
theorem dX6_clearText_5 : decode cX6_clearText 5 = .ok (.aload_n 0, 1) := by decide +kernel
theorem dX6_clearText_6 : decode cX6_clearText 6 = .ok (.getfield 166, 3) := by decide +kernel
theorem dX6_clearText_9 : decode cX6_clearText 9 = .ok (.istore_n 1, 1) := by decide +kernel
theorem dX6_clearText_10 : decode cX6_clearText 10 = .ok (.aload_n 0, 1) := by decide +kernel
theorem dX6_clearText_11 : decode cX6_clearText 11 = .ok (.iconst 0, 1) := by decide +kernel
theorem dX6_clearText_12 : decode cX6_clearText 12 = .ok (.putfield 166, 3) := by decide +kernel
theorem dX6_clearText_15 : decode cX6_clearText 15 = .ok (.iload_n 1, 1) := by decide +kernel
theorem dX6_clearText_16 : decode cX6_clearText 16 = .ok (.ireturn, 1) := by decide +kernel
theorem dX6_eat_0 : decode cX6_eat 0 = .ok (.aload_n 0, 1) := by decide +kernel
theorem dX6_eat_1 : decode cX6_eat 1 = .ok (.getfield 173, 3) := by decide +kernel
theorem dX6_eat_4 : decode cX6_eat 4 = .ok (.aload_n 0, 1) := by decide +kernel
theorem dX6_eat_5 : decode cX6_eat 5 = .ok (.getfield 166, 3) := by decide +kernel
theorem dX6_eat_8 : decode cX6_eat 8 = .ok (.if_icmp .ge 20, 3) := by decide +kernel
theorem dX6_eat_11 : decode cX6_eat 11 = .ok (.aload_n 0, 1) := by decide +kernel
theorem dX6_eat_12 : decode cX6_eat 12 = .ok (.getfield 7, 3) := by decide +kernel
theorem dX6_eat_15 : decode cX6_eat 15 = .ok (.aload_n 0, 1) := by decide +kernel
theorem dX6_eat_16 : decode cX6_eat 16 = .ok (.getfield 173, 3) := by decide +kernel
theorem dX6_eat_19 : decode cX6_eat 19 = .ok (.iaload, 1) := by decide +kernel
theorem dX6_eat_20 : decode cX6_eat 20 = .ok (.iload_n 1, 1) := by decide +kernel
theorem dX6_eat_21 : decode cX6_eat 21 = .ok (.if_icmp .ne 7, 3) := by decide +kernel
theorem dX6_eat_24 : decode cX6_eat 24 = .ok (.iconst 1, 1) := by decide +kernel
theorem dX6_eat_25 : decode cX6_eat 25 = .ok (.goto 4, 3) := by decide +kernel
theorem dX6_eat_28 : decode cX6_eat 28 = .ok (.iconst 0, 1) := by decide +kernel
theorem dX6_eat_29 : decode cX6_eat 29 = .ok (.istore_n 2, 1) := by decide +kernel
theorem dX6_eat_30 : decode cX6_eat 30 = .ok (.aload_n 0, 1) := by decide +kernel
theorem dX6_eat_31 : decode cX6_eat 31 = .ok (.dup, 1) := by decide +kernel
theorem dX6_eat_32 : decode cX6_eat 32 = .ok (.getfield 173, 3) := by decide +kernel
theorem dX6_eat_35 : decode cX6_eat 35 = .ok (.iload_n 2, 1) := by decide +kernel
theorem dX6_eat_36 : decode cX6_eat 36 = .ok (.ifCond .eq 7, 3) := by decide +kernel
theorem dX6_eat_39 : decode cX6_eat 39 = .ok (.iconst 1, 1) := by decide +kernel
theorem dX6_eat_40 : decode cX6_eat 40 = .ok (.goto 4, 3) := by decide +kernel
theorem dX6_eat_43 : decode cX6_eat 43 = .ok (.iconst 0, 1) := by decide +kernel
theorem dX6_eat_44 : decode cX6_eat 44 = .ok (.iadd, 1) := by decide +kernel
theorem dX6_eat_45 : decode cX6_eat 45 = .ok (.putfield 173, 3) := by decide +kernel
theorem dX6_eat_48 : decode cX6_eat 48 = .ok (.iload_n 2, 1) := by decide +kernel
theorem dX6_eat_49 : decode cX6_eat 49 = .ok (.ireturn, 1) := by decide +kernel
theorem dX6_digit_0 : decode cX6_digit 0 = .ok (.aload_n 0, 1) := by decide +kernel
theorem dX6_digit_1 : decode cX6_digit 1 = .ok (.getfield 173, 3) := by decide +kernel
theorem dX6_digit_4 : decode cX6_digit 4 = .ok (.aload_n 0, 1) := by decide +kernel
theorem dX6_digit_5 : decode cX6_digit 5 = .ok (.getfield 166, 3) := by decide +kernel
theorem dX6_digit_8 : decode cX6_digit 8 = .ok (.if_icmp .ge 18, 3) := by decide +kernel
theorem dX6_digit_11 : decode cX6_digit 11 = .ok (.aload_n 0, 1) := by decide +kernel
theorem dX6_digit_12 : decode cX6_digit 12 = .ok (.getfield 7, 3) := by decide +kernel
theorem dX6_digit_15 : decode cX6_digit 15 = .ok (.aload_n 0, 1) := by decide +kernel
theorem dX6_digit_16 : decode cX6_digit 16 = .ok (.getfield 173, 3) := by decide +kernel
theorem dX6_digit_19 : decode cX6_digit 19 = .ok (.iaload, 1) := by decide +kernel
theorem dX6_digit_20 : decode cX6_digit 20 = .ok (.bipush 48, 2) := by decide +kernel
theorem dX6_digit_22 : decode cX6_digit 22 = .ok (.isub, 1) := by decide +kernel
theorem dX6_digit_23 : decode cX6_digit 23 = .ok (.goto 5, 3) := by decide +kernel
theorem dX6_digit_26 : decode cX6_digit 26 = .ok (.bipush (-9), 2) := by decide +kernel
theorem dX6_digit_28 : decode cX6_digit 28 = .ok (.istore_n 3, 1) := by decide +kernel
theorem dX6_digit_29 : decode cX6_digit 29 = .ok (.iload_n 3, 1) := by decide +kernel
theorem dX6_digit_30 : decode cX6_digit 30 = .ok (.i2l, 1) := by decide +kernel
theorem dX6_digit_31 : decode cX6_digit 31 = .ok (.iload_n 1, 1) := by decide +kernel
theorem dX6_digit_32 : decode cX6_digit 32 = .ok (.i2l, 1) := by decide +kernel
theorem dX6_digit_33 : decode cX6_digit 33 = .ok (.iload_n 2, 1) := by decide +kernel
theorem dX6_digit_34 : decode cX6_digit 34 = .ok (.i2l, 1) := by decide +kernel
theorem dX6_digit_35 : decode cX6_digit 35 = .ok (.invokestatic 66, 3) := by decide +kernel
theorem dX6_digit_38 : decode cX6_digit 38 = .ok (.istore 4, 2) := by decide +kernel
theorem dX6_digit_40 : decode cX6_digit 40 = .ok (.aload_n 0, 1) := by decide +kernel
theorem dX6_digit_41 : decode cX6_digit 41 = .ok (.dup, 1) := by decide +kernel
theorem dX6_digit_42 : decode cX6_digit 42 = .ok (.getfield 173, 3) := by decide +kernel
theorem dX6_digit_45 : decode cX6_digit 45 = .ok (.iload 4, 2) := by decide +kernel
theorem dX6_digit_47 : decode cX6_digit 47 = .ok (.ifCond .eq 7, 3) := by decide +kernel
theorem dX6_digit_50 : decode cX6_digit 50 = .ok (.iconst 1, 1) := by decide +kernel
theorem dX6_digit_51 : decode cX6_digit 51 = .ok (.goto 4, 3) := by decide +kernel
theorem dX6_digit_54 : decode cX6_digit 54 = .ok (.iconst 0, 1) := by decide +kernel
theorem dX6_digit_55 : decode cX6_digit 55 = .ok (.iadd, 1) := by decide +kernel
theorem dX6_digit_56 : decode cX6_digit 56 = .ok (.putfield 173, 3) := by decide +kernel
theorem dX6_digit_59 : decode cX6_digit 59 = .ok (.iload 4, 2) := by decide +kernel
theorem dX6_digit_61 : decode cX6_digit 61 = .ok (.ifCond .eq 7, 3) := by decide +kernel
theorem dX6_digit_64 : decode cX6_digit 64 = .ok (.iload_n 3, 1) := by decide +kernel
theorem dX6_digit_65 : decode cX6_digit 65 = .ok (.goto 5, 3) := by decide +kernel
theorem dX6_digit_68 : decode cX6_digit 68 = .ok (.bipush (-9), 2) := by decide +kernel
theorem dX6_digit_70 : decode cX6_digit 70 = .ok (.ireturn, 1) := by decide +kernel
theorem dX6_two_0 : decode cX6_two 0 = .ok (.aload_n 0, 1) := by decide +kernel
theorem dX6_two_1 : decode cX6_two 1 = .ok (.iload_n 1, 1) := by decide +kernel
theorem dX6_two_2 : decode cX6_two 2 = .ok (.bipush 10, 2) := by decide +kernel
theorem dX6_two_4 : decode cX6_two 4 = .ok (.idiv, 1) := by decide +kernel
theorem dX6_two_5 : decode cX6_two 5 = .ok (.iload_n 2, 1) := by decide +kernel
theorem dX6_two_6 : decode cX6_two 6 = .ok (.bipush 10, 2) := by decide +kernel
theorem dX6_two_8 : decode cX6_two 8 = .ok (.idiv, 1) := by decide +kernel
theorem dX6_two_9 : decode cX6_two 9 = .ok (.invokevirtual 176, 3) := by decide +kernel
theorem dX6_two_12 : decode cX6_two 12 = .ok (.istore_n 3, 1) := by decide +kernel
theorem dX6_two_13 : decode cX6_two 13 = .ok (.iload_n 3, 1) := by decide +kernel
theorem dX6_two_14 : decode cX6_two 14 = .ok (.bipush (-9), 2) := by decide +kernel
theorem dX6_two_16 : decode cX6_two 16 = .ok (.if_icmp .ne 6, 3) := by decide +kernel
theorem dX6_two_19 : decode cX6_two 19 = .ok (.bipush (-9), 2) := by decide +kernel
theorem dX6_two_21 : decode cX6_two 21 = .ok (.ireturn, 1) := by decide +kernel
theorem dX6_two_22 : decode cX6_two 22 = .ok (.aload_n 0, 1) := by decide +kernel
theorem dX6_two_23 : decode cX6_two 23 = .ok (.iload_n 3, 1) := by decide +kernel
theorem dX6_two_24 : decode cX6_two 24 = .ok (.iload_n 1, 1) := by decide +kernel
theorem dX6_two_25 : decode cX6_two 25 = .ok (.bipush 10, 2) := by decide +kernel
theorem dX6_two_27 : decode cX6_two 27 = .ok (.idiv, 1) := by decide +kernel
theorem dX6_two_28 : decode cX6_two 28 = .ok (.if_icmp .ne 10, 3) := by decide +kernel
theorem dX6_two_31 : decode cX6_two 31 = .ok (.iload_n 1, 1) := by decide +kernel
theorem dX6_two_32 : decode cX6_two 32 = .ok (.bipush 10, 2) := by decide +kernel
theorem dX6_two_34 : decode cX6_two 34 = .ok (.irem, 1) := by decide +kernel
theorem dX6_two_35 : decode cX6_two 35 = .ok (.goto 4, 3) := by decide +kernel
theorem dX6_two_38 : decode cX6_two 38 = .ok (.iconst 0, 1) := by decide +kernel
theorem dX6_two_39 : decode cX6_two 39 = .ok (.iload_n 3, 1) := by decide +kernel
theorem dX6_two_40 : decode cX6_two 40 = .ok (.iload_n 2, 1) := by decide +kernel
theorem dX6_two_41 : decode cX6_two 41 = .ok (.bipush 10, 2) := by decide +kernel
theorem dX6_two_43 : decode cX6_two 43 = .ok (.idiv, 1) := by decide +kernel
theorem dX6_two_44 : decode cX6_two 44 = .ok (.if_icmp .ne 10, 3) := by decide +kernel
theorem dX6_two_47 : decode cX6_two 47 = .ok (.iload_n 2, 1) := by decide +kernel
theorem dX6_two_48 : decode cX6_two 48 = .ok (.bipush 10, 2) := by decide +kernel
theorem dX6_two_50 : decode cX6_two 50 = .ok (.irem, 1) := by decide +kernel
theorem dX6_two_51 : decode cX6_two 51 = .ok (.goto 5, 3) := by decide +kernel
theorem dX6_two_54 : decode cX6_two 54 = .ok (.bipush 9, 2) := by decide +kernel
theorem dX6_two_56 : decode cX6_two 56 = .ok (.invokevirtual 176, 3) := by decide +kernel
theorem dX6_two_59 : decode cX6_two 59 = .ok (.istore 4, 2) := by decide +kernel
theorem dX6_two_61 : decode cX6_two 61 = .ok (.iload 4, 2) := by decide +kernel
theorem dX6_two_63 : decode cX6_two 63 = .ok (.bipush (-9), 2) := by decide +kernel
theorem dX6_two_65 : decode cX6_two 65 = .ok (.if_icmp .ne 8, 3) := by decide +kernel
theorem dX6_two_68 : decode cX6_two 68 = .ok (.bipush (-9), 2) := by decide +kernel
theorem dX6_two_70 : decode cX6_two 70 = .ok (.goto 10, 3) := by decide +kernel
theorem dX6_two_73 : decode cX6_two 73 = .ok (.bipush 10, 2) := by decide +kernel
theorem dX6_two_75 : decode cX6_two 75 = .ok (.iload_n 3, 1) := by decide +kernel
theorem dX6_two_76 : decode cX6_two 76 = .ok (.imul, 1) := by decide +kernel
theorem dX6_two_77 : decode cX6_two 77 = .ok (.iload 4, 2) := by decide +kernel
theorem dX6_two_79 : decode cX6_two 79 = .ok (.iadd, 1) := by decide +kernel
theorem dX6_two_80 : decode cX6_two 80 = .ok (.ireturn, 1) := by decide +kernel
theorem dX6_readCell_0 : decode cX6_readCell 0 = .ok (.bipush 8, 2) := by decide +kernel
theorem dX6_readCell_2 : decode cX6_readCell 2 = .ok (.iload_n 1, 1) := by decide +kernel
theorem dX6_readCell_3 : decode cX6_readCell 3 = .ok (.iload_n 2, 1) := by decide +kernel
theorem dX6_readCell_4 : decode cX6_readCell 4 = .ok (.invokestatic 70, 3) := by decide +kernel
theorem dX6_readCell_7 : decode cX6_readCell 7 = .ok (.iadd, 1) := by decide +kernel
theorem dX6_readCell_8 : decode cX6_readCell 8 = .ok (.istore_n 3, 1) := by decide +kernel
theorem dX6_readCell_9 : decode cX6_readCell 9 = .ok (.aload_n 0, 1) := by decide +kernel
theorem dX6_readCell_10 : decode cX6_readCell 10 = .ok (.bipush 45, 2) := by decide +kernel
theorem dX6_readCell_12 : decode cX6_readCell 12 = .ok (.invokevirtual 179, 3) := by decide +kernel
theorem dX6_readCell_15 : decode cX6_readCell 15 = .ok (.ifCond .eq 5, 3) := by decide +kernel
theorem dX6_readCell_18 : decode cX6_readCell 18 = .ok (.iconst 1, 1) := by decide +kernel
theorem dX6_readCell_19 : decode cX6_readCell 19 = .ok (.ireturn, 1) := by decide +kernel
theorem dX6_readCell_20 : decode cX6_readCell 20 = .ok (.iload_n 2, 1) := by decide +kernel
theorem dX6_readCell_21 : decode cX6_readCell 21 = .ok (.ifCond .le 35, 3) := by decide +kernel
theorem dX6_readCell_24 : decode cX6_readCell 24 = .ok (.aload_n 0, 1) := by decide +kernel
theorem dX6_readCell_25 : decode cX6_readCell 25 = .ok (.getfield 13, 3) := by decide +kernel
theorem dX6_readCell_28 : decode cX6_readCell 28 = .ok (.iload_n 3, 1) := by decide +kernel
theorem dX6_readCell_29 : decode cX6_readCell 29 = .ok (.iconst 1, 1) := by decide +kernel
theorem dX6_readCell_30 : decode cX6_readCell 30 = .ok (.isub, 1) := by decide +kernel
theorem dX6_readCell_31 : decode cX6_readCell 31 = .ok (.iaload, 1) := by decide +kernel
theorem dX6_readCell_32 : decode cX6_readCell 32 = .ok (.bipush (-9), 2) := by decide +kernel
theorem dX6_readCell_34 : decode cX6_readCell 34 = .ok (.if_icmp .eq 22, 3) := by decide +kernel
theorem dX6_readCell_37 : decode cX6_readCell 37 = .ok (.aload_n 0, 1) := by decide +kernel
theorem dX6_readCell_38 : decode cX6_readCell 38 = .ok (.bipush 61, 2) := by decide +kernel
theorem dX6_readCell_40 : decode cX6_readCell 40 = .ok (.invokevirtual 179, 3) := by decide +kernel
theorem dX6_readCell_43 : decode cX6_readCell 43 = .ok (.ifCond .eq 13, 3) := by decide +kernel
theorem dX6_readCell_46 : decode cX6_readCell 46 = .ok (.aload_n 0, 1) := by decide +kernel
theorem dX6_readCell_47 : decode cX6_readCell 47 = .ok (.getfield 13, 3) := by decide +kernel
theorem dX6_readCell_50 : decode cX6_readCell 50 = .ok (.iload_n 3, 1) := by decide +kernel
theorem dX6_readCell_51 : decode cX6_readCell 51 = .ok (.bipush 99, 2) := by decide +kernel
theorem dX6_readCell_53 : decode cX6_readCell 53 = .ok (.iastore, 1) := by decide +kernel
theorem dX6_readCell_54 : decode cX6_readCell 54 = .ok (.iconst 1, 1) := by decide +kernel
theorem dX6_readCell_55 : decode cX6_readCell 55 = .ok (.ireturn, 1) := by decide +kernel
theorem dX6_readCell_56 : decode cX6_readCell 56 = .ok (.aload_n 0, 1) := by decide +kernel
theorem dX6_readCell_57 : decode cX6_readCell 57 = .ok (.getfield 13, 3) := by decide +kernel
theorem dX6_readCell_60 : decode cX6_readCell 60 = .ok (.iload_n 3, 1) := by decide +kernel
theorem dX6_readCell_61 : decode cX6_readCell 61 = .ok (.aload_n 0, 1) := by decide +kernel
theorem dX6_readCell_62 : decode cX6_readCell 62 = .ok (.iconst 0, 1) := by decide +kernel
theorem dX6_readCell_63 : decode cX6_readCell 63 = .ok (.bipush 60, 2) := by decide +kernel
theorem dX6_readCell_65 : decode cX6_readCell 65 = .ok (.invokevirtual 182, 3) := by decide +kernel
theorem dX6_readCell_68 : decode cX6_readCell 68 = .ok (.iastore, 1) := by decide +kernel
theorem dX6_readCell_69 : decode cX6_readCell 69 = .ok (.aload_n 0, 1) := by decide +kernel
theorem dX6_readCell_70 : decode cX6_readCell 70 = .ok (.getfield 13, 3) := by decide +kernel
theorem dX6_readCell_73 : decode cX6_readCell 73 = .ok (.iload_n 3, 1) := by decide +kernel
theorem dX6_readCell_74 : decode cX6_readCell 74 = .ok (.iaload, 1) := by decide +kernel
theorem dX6_readCell_75 : decode cX6_readCell 75 = .ok (.bipush (-9), 2) := by decide +kernel
theorem dX6_readCell_77 : decode cX6_readCell 77 = .ok (.if_icmp .eq 7, 3) := by decide +kernel
theorem dX6_readCell_80 : decode cX6_readCell 80 = .ok (.iconst 1, 1) := by decide +kernel
theorem dX6_readCell_81 : decode cX6_readCell 81 = .ok (.goto 4, 3) := by decide +kernel
theorem dX6_readCell_84 : decode cX6_readCell 84 = .ok (.iconst 0, 1) := by decide +kernel
theorem dX6_readCell_85 : decode cX6_readCell 85 = .ok (.ireturn, 1) := by decide +kernel
theorem dX6_readAll_0 : decode cX6_readAll 0 = .ok (.aload_n 0, 1) := by decide +kernel
theorem dX6_readAll_1 : decode cX6_readAll 1 = .ok (.iconst 0, 1) := by decide +kernel
theorem dX6_readAll_2 : decode cX6_readAll 2 = .ok (.putfield 173, 3) := by decide +kernel
theorem dX6_readAll_5 : decode cX6_readAll 5 = .ok (.aload_n 0, 1) := by decide +kernel
theorem dX6_readAll_6 : decode cX6_readAll 6 = .ok (.getfield 13, 3) := by decide +kernel
theorem dX6_readAll_9 : decode cX6_readAll 9 = .ok (.invokestatic 56, 3) := by decide +kernel
theorem dX6_readAll_12 : decode cX6_readAll 12 = .ok (.aload_n 0, 1) := by decide +kernel
theorem dX6_readAll_13 : decode cX6_readAll 13 = .ok (.bipush 77, 2) := by decide +kernel
theorem dX6_readAll_15 : decode cX6_readAll 15 = .ok (.invokevirtual 179, 3) := by decide +kernel
theorem dX6_readAll_18 : decode cX6_readAll 18 = .ok (.ifCond .ne 5, 3) := by decide +kernel
theorem dX6_readAll_21 : decode cX6_readAll 21 = .ok (.iconst 0, 1) := by decide +kernel
theorem dX6_readAll_22 : decode cX6_readAll 22 = .ok (.ireturn, 1) := by decide +kernel
theorem dX6_readAll_23 : decode cX6_readAll 23 = .ok (.aload_n 0, 1) := by decide +kernel
theorem dX6_readAll_24 : decode cX6_readAll 24 = .ok (.getfield 13, 3) := by decide +kernel
theorem dX6_readAll_27 : decode cX6_readAll 27 = .ok (.bipush 6, 2) := by decide +kernel
theorem dX6_readAll_29 : decode cX6_readAll 29 = .ok (.aload_n 0, 1) := by decide +kernel
theorem dX6_readAll_30 : decode cX6_readAll 30 = .ok (.iconst 1, 1) := by decide +kernel
theorem dX6_readAll_31 : decode cX6_readAll 31 = .ok (.iconst 4, 1) := by decide +kernel
theorem dX6_readAll_32 : decode cX6_readAll 32 = .ok (.invokevirtual 176, 3) := by decide +kernel
theorem dX6_readAll_35 : decode cX6_readAll 35 = .ok (.iastore, 1) := by decide +kernel
theorem dX6_readAll_36 : decode cX6_readAll 36 = .ok (.aload_n 0, 1) := by decide +kernel
theorem dX6_readAll_37 : decode cX6_readAll 37 = .ok (.getfield 13, 3) := by decide +kernel
theorem dX6_readAll_40 : decode cX6_readAll 40 = .ok (.bipush 7, 2) := by decide +kernel
theorem dX6_readAll_42 : decode cX6_readAll 42 = .ok (.aload_n 0, 1) := by decide +kernel
theorem dX6_readAll_43 : decode cX6_readAll 43 = .ok (.getfield 13, 3) := by decide +kernel
theorem dX6_readAll_46 : decode cX6_readAll 46 = .ok (.bipush 6, 2) := by decide +kernel
theorem dX6_readAll_48 : decode cX6_readAll 48 = .ok (.iaload, 1) := by decide +kernel
theorem dX6_readAll_49 : decode cX6_readAll 49 = .ok (.bipush (-9), 2) := by decide +kernel
theorem dX6_readAll_51 : decode cX6_readAll 51 = .ok (.if_icmp .ne 8, 3) := by decide +kernel
theorem dX6_readAll_54 : decode cX6_readAll 54 = .ok (.bipush (-9), 2) := by decide +kernel
theorem dX6_readAll_56 : decode cX6_readAll 56 = .ok (.goto 10, 3) := by decide +kernel
theorem dX6_readAll_59 : decode cX6_readAll 59 = .ok (.aload_n 0, 1) := by decide +kernel
theorem dX6_readAll_60 : decode cX6_readAll 60 = .ok (.iconst 1, 1) := by decide +kernel
theorem dX6_readAll_61 : decode cX6_readAll 61 = .ok (.bipush 16, 2) := by decide +kernel
theorem dX6_readAll_63 : decode cX6_readAll 63 = .ok (.invokevirtual 182, 3) := by decide +kernel
theorem dX6_readAll_66 : decode cX6_readAll 66 = .ok (.iastore, 1) := by decide +kernel
theorem dX6_readAll_67 : decode cX6_readAll 67 = .ok (.aload_n 0, 1) := by decide +kernel
theorem dX6_readAll_68 : decode cX6_readAll 68 = .ok (.getfield 13, 3) := by decide +kernel
theorem dX6_readAll_71 : decode cX6_readAll 71 = .ok (.bipush 7, 2) := by decide +kernel
theorem dX6_readAll_73 : decode cX6_readAll 73 = .ok (.iaload, 1) := by decide +kernel
theorem dX6_readAll_74 : decode cX6_readAll 74 = .ok (.bipush (-9), 2) := by decide +kernel
theorem dX6_readAll_76 : decode cX6_readAll 76 = .ok (.if_icmp .ne 5, 3) := by decide +kernel
theorem dX6_readAll_79 : decode cX6_readAll 79 = .ok (.iconst 0, 1) := by decide +kernel
theorem dX6_readAll_80 : decode cX6_readAll 80 = .ok (.ireturn, 1) := by decide +kernel
theorem dX6_readAll_81 : decode cX6_readAll 81 = .ok (.iconst 0, 1) := by decide +kernel
theorem dX6_readAll_82 : decode cX6_readAll 82 = .ok (.istore_n 1, 1) := by decide +kernel
theorem dX6_readAll_83 : decode cX6_readAll 83 = .ok (.iload_n 1, 1) := by decide +kernel
theorem dX6_readAll_84 : decode cX6_readAll 84 = .ok (.aload_n 0, 1) := by decide +kernel
theorem dX6_readAll_85 : decode cX6_readAll 85 = .ok (.getfield 13, 3) := by decide +kernel
theorem dX6_readAll_88 : decode cX6_readAll 88 = .ok (.bipush 6, 2) := by decide +kernel
theorem dX6_readAll_90 : decode cX6_readAll 90 = .ok (.iaload, 1) := by decide +kernel
theorem dX6_readAll_91 : decode cX6_readAll 91 = .ok (.if_icmp .ge 39, 3) := by decide +kernel
theorem dX6_readAll_94 : decode cX6_readAll 94 = .ok (.iconst 0, 1) := by decide +kernel
theorem dX6_readAll_95 : decode cX6_readAll 95 = .ok (.istore_n 2, 1) := by decide +kernel
theorem dX6_readAll_96 : decode cX6_readAll 96 = .ok (.iload_n 2, 1) := by decide +kernel
theorem dX6_readAll_97 : decode cX6_readAll 97 = .ok (.aload_n 0, 1) := by decide +kernel
theorem dX6_readAll_98 : decode cX6_readAll 98 = .ok (.getfield 13, 3) := by decide +kernel
theorem dX6_readAll_101 : decode cX6_readAll 101 = .ok (.bipush 7, 2) := by decide +kernel
theorem dX6_readAll_103 : decode cX6_readAll 103 = .ok (.iaload, 1) := by decide +kernel
theorem dX6_readAll_104 : decode cX6_readAll 104 = .ok (.if_icmp .ge 20, 3) := by decide +kernel
theorem dX6_readAll_107 : decode cX6_readAll 107 = .ok (.aload_n 0, 1) := by decide +kernel
theorem dX6_readAll_108 : decode cX6_readAll 108 = .ok (.iload_n 1, 1) := by decide +kernel
theorem dX6_readAll_109 : decode cX6_readAll 109 = .ok (.iload_n 2, 1) := by decide +kernel
theorem dX6_readAll_110 : decode cX6_readAll 110 = .ok (.invokevirtual 185, 3) := by decide +kernel
theorem dX6_readAll_113 : decode cX6_readAll 113 = .ok (.ifCond .ne 5, 3) := by decide +kernel
theorem dX6_readAll_116 : decode cX6_readAll 116 = .ok (.iconst 0, 1) := by decide +kernel
theorem dX6_readAll_117 : decode cX6_readAll 117 = .ok (.ireturn, 1) := by decide +kernel
theorem dX6_readAll_118 : decode cX6_readAll 118 = .ok (.iinc 2 1, 3) := by decide +kernel
theorem dX6_readAll_121 : decode cX6_readAll 121 = .ok (.goto (-25), 3) := by decide +kernel
theorem dX6_readAll_124 : decode cX6_readAll 124 = .ok (.iinc 1 1, 3) := by decide +kernel
theorem dX6_readAll_127 : decode cX6_readAll 127 = .ok (.goto (-44), 3) := by decide +kernel
theorem dX6_readAll_130 : decode cX6_readAll 130 = .ok (.aload_n 0, 1) := by decide +kernel
theorem dX6_readAll_131 : decode cX6_readAll 131 = .ok (.getfield 173, 3) := by decide +kernel
theorem dX6_readAll_134 : decode cX6_readAll 134 = .ok (.aload_n 0, 1) := by decide +kernel
theorem dX6_readAll_135 : decode cX6_readAll 135 = .ok (.getfield 166, 3) := by decide +kernel
theorem dX6_readAll_138 : decode cX6_readAll 138 = .ok (.if_icmp .ne 7, 3) := by decide +kernel
theorem dX6_readAll_141 : decode cX6_readAll 141 = .ok (.iconst 1, 1) := by decide +kernel
theorem dX6_readAll_142 : decode cX6_readAll 142 = .ok (.goto 4, 3) := by decide +kernel
theorem dX6_readAll_145 : decode cX6_readAll 145 = .ok (.iconst 0, 1) := by decide +kernel
theorem dX6_readAll_146 : decode cX6_readAll 146 = .ok (.ireturn, 1) := by decide +kernel
theorem dX6_errorPosition_0 : decode cX6_errorPosition 0 = .ok (.aload_n 0, 1) := by decide +kernel
theorem dX6_errorPosition_1 : decode cX6_errorPosition 1 = .ok (.iconst 0, 1) := by decide +kernel
theorem dX6_errorPosition_2 : decode cX6_errorPosition 2 = .ok (.putfield 60, 3) := by decide +kernel
theorem dX6_errorPosition_5 : decode cX6_errorPosition 5 = .ok (.aload_n 0, 1) := by decide +kernel
theorem dX6_errorPosition_6 : decode cX6_errorPosition 6 = .ok (.invokevirtual 188, 3) := by decide +kernel
theorem dX6_errorPosition_9 : decode cX6_errorPosition 9 = .ok (.ifCond .eq 8, 3) := by decide +kernel
theorem dX6_errorPosition_12 : decode cX6_errorPosition 12 = .ok (.bipush (-9), 2) := by decide +kernel
theorem dX6_errorPosition_14 : decode cX6_errorPosition 14 = .ok (.goto 7, 3) := by decide +kernel
theorem dX6_errorPosition_17 : decode cX6_errorPosition 17 = .ok (.aload_n 0, 1) := by decide +kernel
theorem dX6_errorPosition_18 : decode cX6_errorPosition 18 = .ok (.getfield 173, 3) := by decide +kernel
theorem dX6_errorPosition_21 : decode cX6_errorPosition 21 = .ok (.ireturn, 1) := by decide +kernel
theorem dX6_load_0 : decode cX6_load 0 = .ok (.aload_n 0, 1) := by decide +kernel
theorem dX6_load_1 : decode cX6_load 1 = .ok (.aload_n 0, 1) := by decide +kernel
theorem dX6_load_2 : decode cX6_load 2 = .ok (.invokevirtual 188, 3) := by decide +kernel
theorem dX6_load_5 : decode cX6_load 5 = .ok (.ifCond .eq 7, 3) := by decide +kernel
theorem dX6_load_8 : decode cX6_load 8 = .ok (.iconst 0, 1) := by decide +kernel
theorem dX6_load_9 : decode cX6_load 9 = .ok (.goto 4, 3) := by decide +kernel
theorem dX6_load_12 : decode cX6_load 12 = .ok (.iconst 1, 1) := by decide +kernel
theorem dX6_load_13 : decode cX6_load 13 = .ok (.invokevirtual 169, 3) := by decide +kernel
theorem dX6_load_16 : decode cX6_load 16 = .ok (.ifCond .eq 5, 3) := by decide +kernel
theorem dX6_load_19 : decode cX6_load 19 = .ok (.iconst 0, 1) := by decide +kernel
theorem dX6_load_20 : decode cX6_load 20 = .ok (.ireturn, 1) := by decide +kernel
theorem dX6_load_21 : decode cX6_load 21 = .ok (.aload_n 0, 1) := by decide +kernel
theorem dX6_load_22 : decode cX6_load 22 = .ok (.getfield 13, 3) := by decide +kernel
theorem dX6_load_25 : decode cX6_load 25 = .ok (.iconst 0, 1) := by decide +kernel
theorem dX6_load_26 : decode cX6_load 26 = .ok (.aload_n 0, 1) := by decide +kernel
theorem dX6_load_27 : decode cX6_load 27 = .ok (.getfield 16, 3) := by decide +kernel
theorem dX6_load_30 : decode cX6_load 30 = .ok (.iconst 0, 1) := by decide +kernel
theorem dX6_load_31 : decode cX6_load 31 = .ok (.invokestatic 192, 3) := by decide +kernel
theorem dX6_load_34 : decode cX6_load 34 = .ok (.aload_n 0, 1) := by decide +kernel
theorem dX6_load_35 : decode cX6_load 35 = .ok (.iconst 0, 1) := by decide +kernel
theorem dX6_load_36 : decode cX6_load 36 = .ok (.putfield 196, 3) := by decide +kernel
theorem dX6_load_39 : decode cX6_load 39 = .ok (.aload_n 0, 1) := by decide +kernel
theorem dX6_load_40 : decode cX6_load 40 = .ok (.getfield 31, 3) := by decide +kernel
theorem dX6_load_43 : decode cX6_load 43 = .ok (.iconst 0, 1) := by decide +kernel
theorem dX6_load_44 : decode cX6_load 44 = .ok (.iconst 0, 1) := by decide +kernel
theorem dX6_load_45 : decode cX6_load 45 = .ok (.bastore, 1) := by decide +kernel
theorem dX6_load_46 : decode cX6_load 46 = .ok (.aload_n 0, 1) := by decide +kernel
theorem dX6_load_47 : decode cX6_load 47 = .ok (.getfield 31, 3) := by decide +kernel
theorem dX6_load_50 : decode cX6_load 50 = .ok (.iconst 1, 1) := by decide +kernel
theorem dX6_load_51 : decode cX6_load 51 = .ok (.iconst 0, 1) := by decide +kernel
theorem dX6_load_52 : decode cX6_load 52 = .ok (.bastore, 1) := by decide +kernel
theorem dX6_load_53 : decode cX6_load 53 = .ok (.aload_n 0, 1) := by decide +kernel
theorem dX6_load_54 : decode cX6_load 54 = .ok (.getfield 16, 3) := by decide +kernel
theorem dX6_load_57 : decode cX6_load 57 = .ok (.bipush 7, 2) := by decide +kernel
theorem dX6_load_59 : decode cX6_load 59 = .ok (.iaload, 1) := by decide +kernel
theorem dX6_load_60 : decode cX6_load 60 = .ok (.ireturn, 1) := by decide +kernel
theorem dX6_cellsLike_0 : decode cX6_cellsLike 0 = .ok (.iconst 0, 1) := by decide +kernel
theorem dX6_cellsLike_1 : decode cX6_cellsLike 1 = .ok (.istore_n 2, 1) := by decide +kernel
theorem dX6_cellsLike_2 : decode cX6_cellsLike 2 = .ok (.iconst 0, 1) := by decide +kernel
theorem dX6_cellsLike_3 : decode cX6_cellsLike 3 = .ok (.istore_n 3, 1) := by decide +kernel
theorem dX6_cellsLike_4 : decode cX6_cellsLike 4 = .ok (.iload_n 3, 1) := by decide +kernel
theorem dX6_cellsLike_5 : decode cX6_cellsLike 5 = .ok (.aload_n 0, 1) := by decide +kernel
theorem dX6_cellsLike_6 : decode cX6_cellsLike 6 = .ok (.bipush 6, 2) := by decide +kernel
theorem dX6_cellsLike_8 : decode cX6_cellsLike 8 = .ok (.iaload, 1) := by decide +kernel
theorem dX6_cellsLike_9 : decode cX6_cellsLike 9 = .ok (.if_icmp .ge 80, 3) := by decide +kernel
theorem dX6_cellsLike_12 : decode cX6_cellsLike 12 = .ok (.iconst 0, 1) := by decide +kernel
theorem dX6_cellsLike_13 : decode cX6_cellsLike 13 = .ok (.istore 4, 2) := by decide +kernel
theorem dX6_cellsLike_15 : decode cX6_cellsLike 15 = .ok (.iload 4, 2) := by decide +kernel
theorem dX6_cellsLike_17 : decode cX6_cellsLike 17 = .ok (.aload_n 0, 1) := by decide +kernel
theorem dX6_cellsLike_18 : decode cX6_cellsLike 18 = .ok (.bipush 7, 2) := by decide +kernel
theorem dX6_cellsLike_20 : decode cX6_cellsLike 20 = .ok (.iaload, 1) := by decide +kernel
theorem dX6_cellsLike_21 : decode cX6_cellsLike 21 = .ok (.if_icmp .ge 62, 3) := by decide +kernel
theorem dX6_cellsLike_24 : decode cX6_cellsLike 24 = .ok (.aload_n 0, 1) := by decide +kernel
theorem dX6_cellsLike_25 : decode cX6_cellsLike 25 = .ok (.bipush 8, 2) := by decide +kernel
theorem dX6_cellsLike_27 : decode cX6_cellsLike 27 = .ok (.iload_n 3, 1) := by decide +kernel
theorem dX6_cellsLike_28 : decode cX6_cellsLike 28 = .ok (.iload 4, 2) := by decide +kernel
theorem dX6_cellsLike_30 : decode cX6_cellsLike 30 = .ok (.invokestatic 70, 3) := by decide +kernel
theorem dX6_cellsLike_33 : decode cX6_cellsLike 33 = .ok (.iadd, 1) := by decide +kernel
theorem dX6_cellsLike_34 : decode cX6_cellsLike 34 = .ok (.iaload, 1) := by decide +kernel
theorem dX6_cellsLike_35 : decode cX6_cellsLike 35 = .ok (.istore 5, 2) := by decide +kernel
theorem dX6_cellsLike_37 : decode cX6_cellsLike 37 = .ok (.iload_n 2, 1) := by decide +kernel
theorem dX6_cellsLike_38 : decode cX6_cellsLike 38 = .ok (.iload_n 1, 1) := by decide +kernel
theorem dX6_cellsLike_39 : decode cX6_cellsLike 39 = .ok (.ifCond .eq 18, 3) := by decide +kernel
theorem dX6_cellsLike_42 : decode cX6_cellsLike 42 = .ok (.iload 5, 2) := by decide +kernel
theorem dX6_cellsLike_44 : decode cX6_cellsLike 44 = .ok (.bipush 99, 2) := by decide +kernel
theorem dX6_cellsLike_46 : decode cX6_cellsLike 46 = .ok (.if_icmp .ne 7, 3) := by decide +kernel
theorem dX6_cellsLike_49 : decode cX6_cellsLike 49 = .ok (.iconst 1, 1) := by decide +kernel
theorem dX6_cellsLike_50 : decode cX6_cellsLike 50 = .ok (.goto 25, 3) := by decide +kernel
theorem dX6_cellsLike_53 : decode cX6_cellsLike 53 = .ok (.iconst 0, 1) := by decide +kernel
theorem dX6_cellsLike_54 : decode cX6_cellsLike 54 = .ok (.goto 21, 3) := by decide +kernel
theorem dX6_cellsLike_57 : decode cX6_cellsLike 57 = .ok (.iload 5, 2) := by decide +kernel
theorem dX6_cellsLike_59 : decode cX6_cellsLike 59 = .ok (.i2l, 1) := by decide +kernel
theorem dX6_cellsLike_60 : decode cX6_cellsLike 60 = .ok (.lconst 0, 1) := by decide +kernel
theorem dX6_cellsLike_61 : decode cX6_cellsLike 61 = .ok (.ldc2_w 199, 3) := by decide +kernel
theorem dX6_cellsLike_64 : decode cX6_cellsLike 64 = .ok (.invokestatic 66, 3) := by decide +kernel
theorem dX6_cellsLike_67 : decode cX6_cellsLike 67 = .ok (.ifCond .eq 7, 3) := by decide +kernel
theorem dX6_cellsLike_70 : decode cX6_cellsLike 70 = .ok (.iconst 1, 1) := by decide +kernel
theorem dX6_cellsLike_71 : decode cX6_cellsLike 71 = .ok (.goto 4, 3) := by decide +kernel
theorem dX6_cellsLike_74 : decode cX6_cellsLike 74 = .ok (.iconst 0, 1) := by decide +kernel
theorem dX6_cellsLike_75 : decode cX6_cellsLike 75 = .ok (.iadd, 1) := by decide +kernel
theorem dX6_cellsLike_76 : decode cX6_cellsLike 76 = .ok (.istore_n 2, 1) := by decide +kernel
theorem dX6_cellsLike_77 : decode cX6_cellsLike 77 = .ok (.iinc 4 1, 3) := by decide +kernel
theorem dX6_cellsLike_80 : decode cX6_cellsLike 80 = .ok (.goto (-65), 3) := by decide +kernel
theorem dX6_cellsLike_83 : decode cX6_cellsLike 83 = .ok (.iinc 3 1, 3) := by decide +kernel
theorem dX6_cellsLike_86 : decode cX6_cellsLike 86 = .ok (.goto (-82), 3) := by decide +kernel
theorem dX6_cellsLike_89 : decode cX6_cellsLike 89 = .ok (.iload_n 2, 1) := by decide +kernel
theorem dX6_cellsLike_90 : decode cX6_cellsLike 90 = .ok (.ireturn, 1) := by decide +kernel
theorem dX6_about_0 : decode cX6_about 0 = .ok (.aload_n 0, 1) := by decide +kernel
theorem dX6_about_1 : decode cX6_about 1 = .ok (.iload_n 1, 1) := by decide +kernel
theorem dX6_about_2 : decode cX6_about 2 = .ok (.i2l, 1) := by decide +kernel
theorem dX6_about_3 : decode cX6_about 3 = .ok (.lconst 0, 1) := by decide +kernel
theorem dX6_about_4 : decode cX6_about 4 = .ok (.ldc2_w 201, 3) := by decide +kernel
theorem dX6_about_7 : decode cX6_about 7 = .ok (.invokestatic 66, 3) := by decide +kernel
theorem dX6_about_10 : decode cX6_about 10 = .ok (.ifCond .eq 7, 3) := by decide +kernel
theorem dX6_about_13 : decode cX6_about 13 = .ok (.iconst 0, 1) := by decide +kernel
theorem dX6_about_14 : decode cX6_about 14 = .ok (.goto 4, 3) := by decide +kernel
theorem dX6_about_17 : decode cX6_about 17 = .ok (.iconst 1, 1) := by decide +kernel
theorem dX6_about_18 : decode cX6_about 18 = .ok (.invokevirtual 169, 3) := by decide +kernel
theorem dX6_about_21 : decode cX6_about 21 = .ok (.ifCond .eq 5, 3) := by decide +kernel
theorem dX6_about_24 : decode cX6_about 24 = .ok (.iconst 0, 1) := by decide +kernel
theorem dX6_about_25 : decode cX6_about 25 = .ok (.ireturn, 1) := by decide +kernel
theorem dX6_about_26 : decode cX6_about 26 = .ok (.iload_n 1, 1) := by decide +kernel
theorem dX6_about_27 : decode cX6_about 27 = .ok (.bipush 8, 2) := by decide +kernel
theorem dX6_about_29 : decode cX6_about 29 = .ok (.if_icmp .ge 12, 3) := by decide +kernel
theorem dX6_about_32 : decode cX6_about 32 = .ok (.aload_n 0, 1) := by decide +kernel
theorem dX6_about_33 : decode cX6_about 33 = .ok (.getfield 16, 3) := by decide +kernel
theorem dX6_about_36 : decode cX6_about 36 = .ok (.iload_n 1, 1) := by decide +kernel
theorem dX6_about_37 : decode cX6_about 37 = .ok (.iaload, 1) := by decide +kernel
theorem dX6_about_38 : decode cX6_about 38 = .ok (.goto 21, 3) := by decide +kernel
theorem dX6_about_41 : decode cX6_about 41 = .ok (.aload_n 0, 1) := by decide +kernel
theorem dX6_about_42 : decode cX6_about 42 = .ok (.getfield 16, 3) := by decide +kernel
theorem dX6_about_45 : decode cX6_about 45 = .ok (.iload_n 1, 1) := by decide +kernel
theorem dX6_about_46 : decode cX6_about 46 = .ok (.bipush 9, 2) := by decide +kernel
theorem dX6_about_48 : decode cX6_about 48 = .ok (.if_icmp .ne 7, 3) := by decide +kernel
theorem dX6_about_51 : decode cX6_about 51 = .ok (.iconst 1, 1) := by decide +kernel
theorem dX6_about_52 : decode cX6_about 52 = .ok (.goto 4, 3) := by decide +kernel
theorem dX6_about_55 : decode cX6_about 55 = .ok (.iconst 0, 1) := by decide +kernel
theorem dX6_about_56 : decode cX6_about 56 = .ok (.invokestatic 203, 3) := by decide +kernel
theorem dX6_about_59 : decode cX6_about 59 = .ok (.ireturn, 1) := by decide +kernel
theorem dX6_isStaff_0 : decode cX6_isStaff 0 = .ok (.iload_n 1, 1) := by decide +kernel
theorem dX6_isStaff_1 : decode cX6_isStaff 1 = .ok (.i2l, 1) := by decide +kernel
theorem dX6_isStaff_2 : decode cX6_isStaff 2 = .ok (.lconst 0, 1) := by decide +kernel
theorem dX6_isStaff_3 : decode cX6_isStaff 3 = .ok (.aload_n 0, 1) := by decide +kernel
theorem dX6_isStaff_4 : decode cX6_isStaff 4 = .ok (.bipush 6, 2) := by decide +kernel
theorem dX6_isStaff_6 : decode cX6_isStaff 6 = .ok (.iaload, 1) := by decide +kernel
theorem dX6_isStaff_7 : decode cX6_isStaff 7 = .ok (.iconst 1, 1) := by decide +kernel
theorem dX6_isStaff_8 : decode cX6_isStaff 8 = .ok (.isub, 1) := by decide +kernel
theorem dX6_isStaff_9 : decode cX6_isStaff 9 = .ok (.i2l, 1) := by decide +kernel
theorem dX6_isStaff_10 : decode cX6_isStaff 10 = .ok (.invokestatic 66, 3) := by decide +kernel
theorem dX6_isStaff_13 : decode cX6_isStaff 13 = .ok (.ireturn, 1) := by decide +kernel
theorem dX6_isBeat_0 : decode cX6_isBeat 0 = .ok (.iload_n 1, 1) := by decide +kernel
theorem dX6_isBeat_1 : decode cX6_isBeat 1 = .ok (.i2l, 1) := by decide +kernel
theorem dX6_isBeat_2 : decode cX6_isBeat 2 = .ok (.lconst 0, 1) := by decide +kernel
theorem dX6_isBeat_3 : decode cX6_isBeat 3 = .ok (.aload_n 0, 1) := by decide +kernel
theorem dX6_isBeat_4 : decode cX6_isBeat 4 = .ok (.bipush 7, 2) := by decide +kernel
theorem dX6_isBeat_6 : decode cX6_isBeat 6 = .ok (.iaload, 1) := by decide +kernel
theorem dX6_isBeat_7 : decode cX6_isBeat 7 = .ok (.iconst 1, 1) := by decide +kernel
theorem dX6_isBeat_8 : decode cX6_isBeat 8 = .ok (.isub, 1) := by decide +kernel
theorem dX6_isBeat_9 : decode cX6_isBeat 9 = .ok (.i2l, 1) := by decide +kernel
theorem dX6_isBeat_10 : decode cX6_isBeat 10 = .ok (.invokestatic 66, 3) := by decide +kernel
theorem dX6_isBeat_13 : decode cX6_isBeat 13 = .ok (.ireturn, 1) := by decide +kernel
theorem dX6_isCell_0 : decode cX6_isCell 0 = .ok (.aload_n 0, 1) := by decide +kernel
theorem dX6_isCell_1 : decode cX6_isCell 1 = .ok (.iload_n 1, 1) := by decide +kernel
theorem dX6_isCell_2 : decode cX6_isCell 2 = .ok (.invokestatic 207, 3) := by decide +kernel
theorem dX6_isCell_5 : decode cX6_isCell 5 = .ok (.ifCond .eq 15, 3) := by decide +kernel
theorem dX6_isCell_8 : decode cX6_isCell 8 = .ok (.aload_n 0, 1) := by decide +kernel
theorem dX6_isCell_9 : decode cX6_isCell 9 = .ok (.iload_n 2, 1) := by decide +kernel
theorem dX6_isCell_10 : decode cX6_isCell 10 = .ok (.invokestatic 211, 3) := by decide +kernel
theorem dX6_isCell_13 : decode cX6_isCell 13 = .ok (.ifCond .eq 7, 3) := by decide +kernel
theorem dX6_isCell_16 : decode cX6_isCell 16 = .ok (.iconst 1, 1) := by decide +kernel
theorem dX6_isCell_17 : decode cX6_isCell 17 = .ok (.goto 4, 3) := by decide +kernel
theorem dX6_isCell_20 : decode cX6_isCell 20 = .ok (.iconst 0, 1) := by decide +kernel
theorem dX6_isCell_21 : decode cX6_isCell 21 = .ok (.ireturn, 1) := by decide +kernel
theorem dX6_cell_0 : decode cX6_cell 0 = .ok (.aload_n 0, 1) := by decide +kernel
theorem dX6_cell_1 : decode cX6_cell 1 = .ok (.aload_n 0, 1) := by decide +kernel
theorem dX6_cell_2 : decode cX6_cell 2 = .ok (.getfield 16, 3) := by decide +kernel
theorem dX6_cell_5 : decode cX6_cell 5 = .ok (.iload_n 1, 1) := by decide +kernel
theorem dX6_cell_6 : decode cX6_cell 6 = .ok (.iload_n 2, 1) := by decide +kernel
theorem dX6_cell_7 : decode cX6_cell 7 = .ok (.invokestatic 214, 3) := by decide +kernel
theorem dX6_cell_10 : decode cX6_cell 10 = .ok (.ifCond .eq 7, 3) := by decide +kernel
theorem dX6_cell_13 : decode cX6_cell 13 = .ok (.iconst 0, 1) := by decide +kernel
theorem dX6_cell_14 : decode cX6_cell 14 = .ok (.goto 4, 3) := by decide +kernel
theorem dX6_cell_17 : decode cX6_cell 17 = .ok (.iconst 1, 1) := by decide +kernel
theorem dX6_cell_18 : decode cX6_cell 18 = .ok (.invokevirtual 169, 3) := by decide +kernel
theorem dX6_cell_21 : decode cX6_cell 21 = .ok (.ifCond .eq 5, 3) := by decide +kernel
theorem dX6_cell_24 : decode cX6_cell 24 = .ok (.iconst 0, 1) := by decide +kernel
theorem dX6_cell_25 : decode cX6_cell 25 = .ok (.ireturn, 1) := by decide +kernel
theorem dX6_cell_26 : decode cX6_cell 26 = .ok (.aload_n 0, 1) := by decide +kernel
theorem dX6_cell_27 : decode cX6_cell 27 = .ok (.aload_n 0, 1) := by decide +kernel
theorem dX6_cell_28 : decode cX6_cell 28 = .ok (.getfield 16, 3) := by decide +kernel
theorem dX6_cell_31 : decode cX6_cell 31 = .ok (.invokevirtual 135, 3) := by decide +kernel
theorem dX6_cell_34 : decode cX6_cell 34 = .ok (.iload_n 3, 1) := by decide +kernel
theorem dX6_cell_35 : decode cX6_cell 35 = .ok (.ifCond .eq 16, 3) := by decide +kernel
theorem dX6_cell_38 : decode cX6_cell 38 = .ok (.aload_n 0, 1) := by decide +kernel
theorem dX6_cell_39 : decode cX6_cell 39 = .ok (.getfield 35, 3) := by decide +kernel
theorem dX6_cell_42 : decode cX6_cell 42 = .ok (.iload_n 1, 1) := by decide +kernel
theorem dX6_cell_43 : decode cX6_cell 43 = .ok (.iload_n 2, 1) := by decide +kernel
theorem dX6_cell_44 : decode cX6_cell 44 = .ok (.invokestatic 70, 3) := by decide +kernel
theorem dX6_cell_47 : decode cX6_cell 47 = .ok (.iaload, 1) := by decide +kernel
theorem dX6_cell_48 : decode cX6_cell 48 = .ok (.goto 16, 3) := by decide +kernel
theorem dX6_cell_51 : decode cX6_cell 51 = .ok (.aload_n 0, 1) := by decide +kernel
theorem dX6_cell_52 : decode cX6_cell 52 = .ok (.getfield 16, 3) := by decide +kernel
theorem dX6_cell_55 : decode cX6_cell 55 = .ok (.bipush 8, 2) := by decide +kernel
theorem dX6_cell_57 : decode cX6_cell 57 = .ok (.iload_n 1, 1) := by decide +kernel
theorem dX6_cell_58 : decode cX6_cell 58 = .ok (.iload_n 2, 1) := by decide +kernel
theorem dX6_cell_59 : decode cX6_cell 59 = .ok (.invokestatic 70, 3) := by decide +kernel
theorem dX6_cell_62 : decode cX6_cell 62 = .ok (.iadd, 1) := by decide +kernel
theorem dX6_cell_63 : decode cX6_cell 63 = .ok (.iaload, 1) := by decide +kernel
theorem dX6_cell_64 : decode cX6_cell 64 = .ok (.ireturn, 1) := by decide +kernel
theorem dX6_remember_0 : decode cX6_remember 0 = .ok (.aload_n 0, 1) := by decide +kernel
theorem dX6_remember_1 : decode cX6_remember 1 = .ok (.getfield 196, 3) := by decide +kernel
theorem dX6_remember_4 : decode cX6_remember 4 = .ok (.bipush 14, 2) := by decide +kernel
theorem dX6_remember_6 : decode cX6_remember 6 = .ok (.if_icmp .ne 43, 3) := by decide +kernel
theorem dX6_remember_9 : decode cX6_remember 9 = .ok (.iconst 0, 1) := by decide +kernel
theorem dX6_remember_10 : decode cX6_remember 10 = .ok (.istore_n 1, 1) := by decide +kernel
theorem dX6_remember_11 : decode cX6_remember 11 = .ok (.iload_n 1, 1) := by decide +kernel
theorem dX6_remember_12 : decode cX6_remember 12 = .ok (.sipush 936, 3) := by decide +kernel
theorem dX6_remember_15 : decode cX6_remember 15 = .ok (.if_icmp .ge 24, 3) := by decide +kernel
theorem dX6_remember_18 : decode cX6_remember 18 = .ok (.aload_n 0, 1) := by decide +kernel
theorem dX6_remember_19 : decode cX6_remember 19 = .ok (.getfield 25, 3) := by decide +kernel
theorem dX6_remember_22 : decode cX6_remember 22 = .ok (.iload_n 1, 1) := by decide +kernel
theorem dX6_remember_23 : decode cX6_remember 23 = .ok (.aload_n 0, 1) := by decide +kernel
theorem dX6_remember_24 : decode cX6_remember 24 = .ok (.getfield 25, 3) := by decide +kernel
theorem dX6_remember_27 : decode cX6_remember 27 = .ok (.iload_n 1, 1) := by decide +kernel
theorem dX6_remember_28 : decode cX6_remember 28 = .ok (.bipush 72, 2) := by decide +kernel
theorem dX6_remember_30 : decode cX6_remember 30 = .ok (.iadd, 1) := by decide +kernel
theorem dX6_remember_31 : decode cX6_remember 31 = .ok (.iaload, 1) := by decide +kernel
theorem dX6_remember_32 : decode cX6_remember 32 = .ok (.iastore, 1) := by decide +kernel
theorem dX6_remember_33 : decode cX6_remember 33 = .ok (.iinc 1 1, 3) := by decide +kernel
theorem dX6_remember_36 : decode cX6_remember 36 = .ok (.goto (-25), 3) := by decide +kernel
theorem dX6_remember_39 : decode cX6_remember 39 = .ok (.aload_n 0, 1) := by decide +kernel
theorem dX6_remember_40 : decode cX6_remember 40 = .ok (.dup, 1) := by decide +kernel
theorem dX6_remember_41 : decode cX6_remember 41 = .ok (.getfield 196, 3) := by decide +kernel
theorem dX6_remember_44 : decode cX6_remember 44 = .ok (.iconst 1, 1) := by decide +kernel
theorem dX6_remember_45 : decode cX6_remember 45 = .ok (.isub, 1) := by decide +kernel
theorem dX6_remember_46 : decode cX6_remember 46 = .ok (.putfield 196, 3) := by decide +kernel
theorem dX6_remember_49 : decode cX6_remember 49 = .ok (.aload_n 0, 1) := by decide +kernel
theorem dX6_remember_50 : decode cX6_remember 50 = .ok (.getfield 16, 3) := by decide +kernel
theorem dX6_remember_53 : decode cX6_remember 53 = .ok (.iconst 0, 1) := by decide +kernel
theorem dX6_remember_54 : decode cX6_remember 54 = .ok (.aload_n 0, 1) := by decide +kernel
theorem dX6_remember_55 : decode cX6_remember 55 = .ok (.getfield 25, 3) := by decide +kernel
theorem dX6_remember_58 : decode cX6_remember 58 = .ok (.bipush 72, 2) := by decide +kernel
theorem dX6_remember_60 : decode cX6_remember 60 = .ok (.aload_n 0, 1) := by decide +kernel
theorem dX6_remember_61 : decode cX6_remember 61 = .ok (.getfield 196, 3) := by decide +kernel
theorem dX6_remember_64 : decode cX6_remember 64 = .ok (.imul, 1) := by decide +kernel
theorem dX6_remember_65 : decode cX6_remember 65 = .ok (.invokestatic 192, 3) := by decide +kernel
theorem dX6_remember_68 : decode cX6_remember 68 = .ok (.aload_n 0, 1) := by decide +kernel
theorem dX6_remember_69 : decode cX6_remember 69 = .ok (.dup, 1) := by decide +kernel
theorem dX6_remember_70 : decode cX6_remember 70 = .ok (.getfield 196, 3) := by decide +kernel
theorem dX6_remember_73 : decode cX6_remember 73 = .ok (.iconst 1, 1) := by decide +kernel
theorem dX6_remember_74 : decode cX6_remember 74 = .ok (.iadd, 1) := by decide +kernel
theorem dX6_remember_75 : decode cX6_remember 75 = .ok (.putfield 196, 3) := by decide +kernel
theorem dX6_remember_78 : decode cX6_remember 78 = .ok (.return_, 1) := by decide +kernel
theorem dX6_set_0 : decode cX6_set 0 = .ok (.aload_n 0, 1) := by decide +kernel
theorem dX6_set_1 : decode cX6_set 1 = .ok (.iload_n 1, 1) := by decide +kernel
theorem dX6_set_2 : decode cX6_set 2 = .ok (.iload_n 2, 1) := by decide +kernel
theorem dX6_set_3 : decode cX6_set 3 = .ok (.invokestatic 217, 3) := by decide +kernel
theorem dX6_set_6 : decode cX6_set 6 = .ok (.ifCond .eq 7, 3) := by decide +kernel
theorem dX6_set_9 : decode cX6_set 9 = .ok (.iconst 0, 1) := by decide +kernel
theorem dX6_set_10 : decode cX6_set 10 = .ok (.goto 4, 3) := by decide +kernel
theorem dX6_set_13 : decode cX6_set 13 = .ok (.iconst 1, 1) := by decide +kernel
theorem dX6_set_14 : decode cX6_set 14 = .ok (.invokevirtual 169, 3) := by decide +kernel
theorem dX6_set_17 : decode cX6_set 17 = .ok (.ifCond .eq 5, 3) := by decide +kernel
theorem dX6_set_20 : decode cX6_set 20 = .ok (.iconst 0, 1) := by decide +kernel
theorem dX6_set_21 : decode cX6_set 21 = .ok (.ireturn, 1) := by decide +kernel
theorem dX6_set_22 : decode cX6_set 22 = .ok (.aload_n 0, 1) := by decide +kernel
theorem dX6_set_23 : decode cX6_set 23 = .ok (.invokevirtual 220, 3) := by decide +kernel
theorem dX6_set_26 : decode cX6_set 26 = .ok (.aload_n 0, 1) := by decide +kernel
theorem dX6_set_27 : decode cX6_set 27 = .ok (.getfield 16, 3) := by decide +kernel
theorem dX6_set_30 : decode cX6_set 30 = .ok (.iload_n 1, 1) := by decide +kernel
theorem dX6_set_31 : decode cX6_set 31 = .ok (.iaload, 1) := by decide +kernel
theorem dX6_set_32 : decode cX6_set 32 = .ok (.istore_n 3, 1) := by decide +kernel
theorem dX6_set_33 : decode cX6_set 33 = .ok (.aload_n 0, 1) := by decide +kernel
theorem dX6_set_34 : decode cX6_set 34 = .ok (.getfield 16, 3) := by decide +kernel
theorem dX6_set_37 : decode cX6_set 37 = .ok (.iload_n 1, 1) := by decide +kernel
theorem dX6_set_38 : decode cX6_set 38 = .ok (.iload_n 2, 1) := by decide +kernel
theorem dX6_set_39 : decode cX6_set 39 = .ok (.iastore, 1) := by decide +kernel
theorem dX6_set_40 : decode cX6_set 40 = .ok (.iload_n 3, 1) := by decide +kernel
theorem dX6_set_41 : decode cX6_set 41 = .ok (.ireturn, 1) := by decide +kernel
theorem dX6_canWrite_0 : decode cX6_canWrite 0 = .ok (.iload_n 3, 1) := by decide +kernel
theorem dX6_canWrite_1 : decode cX6_canWrite 1 = .ok (.bipush 99, 2) := by decide +kernel
theorem dX6_canWrite_3 : decode cX6_canWrite 3 = .ok (.if_icmp .ne 24, 3) := by decide +kernel
theorem dX6_canWrite_6 : decode cX6_canWrite 6 = .ok (.iload_n 2, 1) := by decide +kernel
theorem dX6_canWrite_7 : decode cX6_canWrite 7 = .ok (.ifCond .le 24, 3) := by decide +kernel
theorem dX6_canWrite_10 : decode cX6_canWrite 10 = .ok (.aload_n 0, 1) := by decide +kernel
theorem dX6_canWrite_11 : decode cX6_canWrite 11 = .ok (.bipush 8, 2) := by decide +kernel
theorem dX6_canWrite_13 : decode cX6_canWrite 13 = .ok (.iload_n 1, 1) := by decide +kernel
theorem dX6_canWrite_14 : decode cX6_canWrite 14 = .ok (.iload_n 2, 1) := by decide +kernel
theorem dX6_canWrite_15 : decode cX6_canWrite 15 = .ok (.invokestatic 70, 3) := by decide +kernel
theorem dX6_canWrite_18 : decode cX6_canWrite 18 = .ok (.iadd, 1) := by decide +kernel
theorem dX6_canWrite_19 : decode cX6_canWrite 19 = .ok (.iconst 1, 1) := by decide +kernel
theorem dX6_canWrite_20 : decode cX6_canWrite 20 = .ok (.isub, 1) := by decide +kernel
theorem dX6_canWrite_21 : decode cX6_canWrite 21 = .ok (.iaload, 1) := by decide +kernel
theorem dX6_canWrite_22 : decode cX6_canWrite 22 = .ok (.bipush (-9), 2) := by decide +kernel
theorem dX6_canWrite_24 : decode cX6_canWrite 24 = .ok (.if_icmp .eq 7, 3) := by decide +kernel
theorem dX6_canWrite_27 : decode cX6_canWrite 27 = .ok (.iconst 1, 1) := by decide +kernel
theorem dX6_canWrite_28 : decode cX6_canWrite 28 = .ok (.goto 4, 3) := by decide +kernel
theorem dX6_canWrite_31 : decode cX6_canWrite 31 = .ok (.iconst 0, 1) := by decide +kernel
theorem dX6_canWrite_32 : decode cX6_canWrite 32 = .ok (.ireturn, 1) := by decide +kernel
theorem dX6_put_0 : decode cX6_put 0 = .ok (.aload_n 0, 1) := by decide +kernel
theorem dX6_put_1 : decode cX6_put 1 = .ok (.bipush 8, 2) := by decide +kernel
theorem dX6_put_3 : decode cX6_put 3 = .ok (.iload_n 1, 1) := by decide +kernel
theorem dX6_put_4 : decode cX6_put 4 = .ok (.iload_n 2, 1) := by decide +kernel
theorem dX6_put_5 : decode cX6_put 5 = .ok (.invokestatic 70, 3) := by decide +kernel
theorem dX6_put_8 : decode cX6_put 8 = .ok (.iadd, 1) := by decide +kernel
theorem dX6_put_9 : decode cX6_put 9 = .ok (.iload_n 3, 1) := by decide +kernel
theorem dX6_put_10 : decode cX6_put 10 = .ok (.ifCond .ge 8, 3) := by decide +kernel
theorem dX6_put_13 : decode cX6_put 13 = .ok (.bipush (-9), 2) := by decide +kernel
theorem dX6_put_15 : decode cX6_put 15 = .ok (.goto 4, 3) := by decide +kernel
theorem dX6_put_18 : decode cX6_put 18 = .ok (.iload_n 3, 1) := by decide +kernel
theorem dX6_put_19 : decode cX6_put 19 = .ok (.iastore, 1) := by decide +kernel
theorem dX6_put_20 : decode cX6_put 20 = .ok (.aload_n 0, 1) := by decide +kernel
theorem dX6_put_21 : decode cX6_put 21 = .ok (.invokestatic 223, 3) := by decide +kernel
theorem dX6_put_24 : decode cX6_put 24 = .ok (.return_, 1) := by decide +kernel
theorem dX6_write_0 : decode cX6_write 0 = .ok (.aload_n 0, 1) := by decide +kernel
theorem dX6_write_1 : decode cX6_write 1 = .ok (.getfield 16, 3) := by decide +kernel
theorem dX6_write_4 : decode cX6_write 4 = .ok (.iload_n 1, 1) := by decide +kernel
theorem dX6_write_5 : decode cX6_write 5 = .ok (.iload_n 2, 1) := by decide +kernel
theorem dX6_write_6 : decode cX6_write 6 = .ok (.invokestatic 214, 3) := by decide +kernel
theorem dX6_write_9 : decode cX6_write 9 = .ok (.istore 4, 2) := by decide +kernel
theorem dX6_write_11 : decode cX6_write 11 = .ok (.aload_n 0, 1) := by decide +kernel
theorem dX6_write_12 : decode cX6_write 12 = .ok (.iload 4, 2) := by decide +kernel
theorem dX6_write_14 : decode cX6_write 14 = .ok (.ifCond .ne 7, 3) := by decide +kernel
theorem dX6_write_17 : decode cX6_write 17 = .ok (.iconst 1, 1) := by decide +kernel
theorem dX6_write_18 : decode cX6_write 18 = .ok (.goto 45, 3) := by decide +kernel
theorem dX6_write_21 : decode cX6_write 21 = .ok (.iload_n 3, 1) := by decide +kernel
theorem dX6_write_22 : decode cX6_write 22 = .ok (.i2l, 1) := by decide +kernel
theorem dX6_write_23 : decode cX6_write 23 = .ok (.ldc2_w 226, 3) := by decide +kernel
theorem dX6_write_26 : decode cX6_write 26 = .ok (.ldc2_w 199, 3) := by decide +kernel
theorem dX6_write_29 : decode cX6_write 29 = .ok (.invokestatic 66, 3) := by decide +kernel
theorem dX6_write_32 : decode cX6_write 32 = .ok (.ifCond .ne 13, 3) := by decide +kernel
theorem dX6_write_35 : decode cX6_write 35 = .ok (.iload_n 3, 1) := by decide +kernel
theorem dX6_write_36 : decode cX6_write 36 = .ok (.bipush 99, 2) := by decide +kernel
theorem dX6_write_38 : decode cX6_write 38 = .ok (.if_icmp .eq 7, 3) := by decide +kernel
theorem dX6_write_41 : decode cX6_write 41 = .ok (.iconst 2, 1) := by decide +kernel
theorem dX6_write_42 : decode cX6_write 42 = .ok (.goto 21, 3) := by decide +kernel
theorem dX6_write_45 : decode cX6_write 45 = .ok (.aload_n 0, 1) := by decide +kernel
theorem dX6_write_46 : decode cX6_write 46 = .ok (.getfield 16, 3) := by decide +kernel
theorem dX6_write_49 : decode cX6_write 49 = .ok (.iload_n 1, 1) := by decide +kernel
theorem dX6_write_50 : decode cX6_write 50 = .ok (.iload_n 2, 1) := by decide +kernel
theorem dX6_write_51 : decode cX6_write 51 = .ok (.iload_n 3, 1) := by decide +kernel
theorem dX6_write_52 : decode cX6_write 52 = .ok (.invokestatic 228, 3) := by decide +kernel
theorem dX6_write_55 : decode cX6_write 55 = .ok (.ifCond .ne 7, 3) := by decide +kernel
theorem dX6_write_58 : decode cX6_write 58 = .ok (.iconst 3, 1) := by decide +kernel
theorem dX6_write_59 : decode cX6_write 59 = .ok (.goto 4, 3) := by decide +kernel
theorem dX6_write_62 : decode cX6_write 62 = .ok (.iconst 0, 1) := by decide +kernel
theorem dX6_write_63 : decode cX6_write 63 = .ok (.invokevirtual 169, 3) := by decide +kernel
theorem dX6_write_66 : decode cX6_write 66 = .ok (.ifCond .eq 5, 3) := by decide +kernel
theorem dX6_write_69 : decode cX6_write 69 = .ok (.iconst 0, 1) := by decide +kernel
theorem dX6_write_70 : decode cX6_write 70 = .ok (.ireturn, 1) := by decide +kernel
theorem dX6_write_71 : decode cX6_write 71 = .ok (.aload_n 0, 1) := by decide +kernel
theorem dX6_write_72 : decode cX6_write 72 = .ok (.invokevirtual 220, 3) := by decide +kernel
theorem dX6_write_75 : decode cX6_write 75 = .ok (.aload_n 0, 1) := by decide +kernel
theorem dX6_write_76 : decode cX6_write 76 = .ok (.getfield 16, 3) := by decide +kernel
theorem dX6_write_79 : decode cX6_write 79 = .ok (.bipush 8, 2) := by decide +kernel
theorem dX6_write_81 : decode cX6_write 81 = .ok (.iload_n 1, 1) := by decide +kernel
theorem dX6_write_82 : decode cX6_write 82 = .ok (.iload_n 2, 1) := by decide +kernel
theorem dX6_write_83 : decode cX6_write 83 = .ok (.invokestatic 70, 3) := by decide +kernel
theorem dX6_write_86 : decode cX6_write 86 = .ok (.iadd, 1) := by decide +kernel
theorem dX6_write_87 : decode cX6_write 87 = .ok (.iaload, 1) := by decide +kernel
theorem dX6_write_88 : decode cX6_write 88 = .ok (.istore 5, 2) := by decide +kernel
theorem dX6_write_90 : decode cX6_write 90 = .ok (.aload_n 0, 1) := by decide +kernel
theorem dX6_write_91 : decode cX6_write 91 = .ok (.getfield 16, 3) := by decide +kernel
theorem dX6_write_94 : decode cX6_write 94 = .ok (.iload_n 1, 1) := by decide +kernel
theorem dX6_write_95 : decode cX6_write 95 = .ok (.iload_n 2, 1) := by decide +kernel
theorem dX6_write_96 : decode cX6_write 96 = .ok (.iload_n 3, 1) := by decide +kernel
theorem dX6_write_97 : decode cX6_write 97 = .ok (.invokestatic 231, 3) := by decide +kernel
theorem dX6_write_100 : decode cX6_write 100 = .ok (.iload 5, 2) := by decide +kernel
theorem dX6_write_102 : decode cX6_write 102 = .ok (.ireturn, 1) := by decide +kernel
theorem dX6_canShift_0 : decode cX6_canShift 0 = .ok (.iconst 1, 1) := by decide +kernel
theorem dX6_canShift_1 : decode cX6_canShift 1 = .ok (.istore_n 3, 1) := by decide +kernel
theorem dX6_canShift_2 : decode cX6_canShift 2 = .ok (.iconst 0, 1) := by decide +kernel
theorem dX6_canShift_3 : decode cX6_canShift 3 = .ok (.istore 4, 2) := by decide +kernel
theorem dX6_canShift_5 : decode cX6_canShift 5 = .ok (.iload 4, 2) := by decide +kernel
theorem dX6_canShift_7 : decode cX6_canShift 7 = .ok (.aload_n 0, 1) := by decide +kernel
theorem dX6_canShift_8 : decode cX6_canShift 8 = .ok (.bipush 7, 2) := by decide +kernel
theorem dX6_canShift_10 : decode cX6_canShift 10 = .ok (.iaload, 1) := by decide +kernel
theorem dX6_canShift_11 : decode cX6_canShift 11 = .ok (.if_icmp .ge 60, 3) := by decide +kernel
theorem dX6_canShift_14 : decode cX6_canShift 14 = .ok (.aload_n 0, 1) := by decide +kernel
theorem dX6_canShift_15 : decode cX6_canShift 15 = .ok (.bipush 8, 2) := by decide +kernel
theorem dX6_canShift_17 : decode cX6_canShift 17 = .ok (.iload_n 1, 1) := by decide +kernel
theorem dX6_canShift_18 : decode cX6_canShift 18 = .ok (.iload 4, 2) := by decide +kernel
theorem dX6_canShift_20 : decode cX6_canShift 20 = .ok (.invokestatic 70, 3) := by decide +kernel
theorem dX6_canShift_23 : decode cX6_canShift 23 = .ok (.iadd, 1) := by decide +kernel
theorem dX6_canShift_24 : decode cX6_canShift 24 = .ok (.iaload, 1) := by decide +kernel
theorem dX6_canShift_25 : decode cX6_canShift 25 = .ok (.istore 5, 2) := by decide +kernel
theorem dX6_canShift_27 : decode cX6_canShift 27 = .ok (.iload_n 3, 1) := by decide +kernel
theorem dX6_canShift_28 : decode cX6_canShift 28 = .ok (.ifCond .eq 35, 3) := by decide +kernel
theorem dX6_canShift_31 : decode cX6_canShift 31 = .ok (.iload 5, 2) := by decide +kernel
theorem dX6_canShift_33 : decode cX6_canShift 33 = .ok (.i2l, 1) := by decide +kernel
theorem dX6_canShift_34 : decode cX6_canShift 34 = .ok (.lconst 0, 1) := by decide +kernel
theorem dX6_canShift_35 : decode cX6_canShift 35 = .ok (.ldc2_w 199, 3) := by decide +kernel
theorem dX6_canShift_38 : decode cX6_canShift 38 = .ok (.invokestatic 66, 3) := by decide +kernel
theorem dX6_canShift_41 : decode cX6_canShift 41 = .ok (.ifCond .eq 18, 3) := by decide +kernel
theorem dX6_canShift_44 : decode cX6_canShift 44 = .ok (.iload 5, 2) := by decide +kernel
theorem dX6_canShift_46 : decode cX6_canShift 46 = .ok (.iload_n 2, 1) := by decide +kernel
theorem dX6_canShift_47 : decode cX6_canShift 47 = .ok (.iadd, 1) := by decide +kernel
theorem dX6_canShift_48 : decode cX6_canShift 48 = .ok (.i2l, 1) := by decide +kernel
theorem dX6_canShift_49 : decode cX6_canShift 49 = .ok (.lconst 0, 1) := by decide +kernel
theorem dX6_canShift_50 : decode cX6_canShift 50 = .ok (.ldc2_w 199, 3) := by decide +kernel
theorem dX6_canShift_53 : decode cX6_canShift 53 = .ok (.invokestatic 66, 3) := by decide +kernel
theorem dX6_canShift_56 : decode cX6_canShift 56 = .ok (.ifCond .eq 7, 3) := by decide +kernel
theorem dX6_canShift_59 : decode cX6_canShift 59 = .ok (.iconst 1, 1) := by decide +kernel
theorem dX6_canShift_60 : decode cX6_canShift 60 = .ok (.goto 4, 3) := by decide +kernel
theorem dX6_canShift_63 : decode cX6_canShift 63 = .ok (.iconst 0, 1) := by decide +kernel
theorem dX6_canShift_64 : decode cX6_canShift 64 = .ok (.istore_n 3, 1) := by decide +kernel
theorem dX6_canShift_65 : decode cX6_canShift 65 = .ok (.iinc 4 1, 3) := by decide +kernel
theorem dX6_canShift_68 : decode cX6_canShift 68 = .ok (.goto (-63), 3) := by decide +kernel
theorem dX6_canShift_71 : decode cX6_canShift 71 = .ok (.iload_n 3, 1) := by decide +kernel
theorem dX6_canShift_72 : decode cX6_canShift 72 = .ok (.ireturn, 1) := by decide +kernel
theorem dX6_shift_0 : decode cX6_shift 0 = .ok (.iconst 0, 1) := by decide +kernel
theorem dX6_shift_1 : decode cX6_shift 1 = .ok (.istore_n 3, 1) := by decide +kernel
theorem dX6_shift_2 : decode cX6_shift 2 = .ok (.iconst 0, 1) := by decide +kernel
theorem dX6_shift_3 : decode cX6_shift 3 = .ok (.istore 4, 2) := by decide +kernel
theorem dX6_shift_5 : decode cX6_shift 5 = .ok (.iload 4, 2) := by decide +kernel
theorem dX6_shift_7 : decode cX6_shift 7 = .ok (.aload_n 0, 1) := by decide +kernel
theorem dX6_shift_8 : decode cX6_shift 8 = .ok (.bipush 7, 2) := by decide +kernel
theorem dX6_shift_10 : decode cX6_shift 10 = .ok (.iaload, 1) := by decide +kernel
theorem dX6_shift_11 : decode cX6_shift 11 = .ok (.if_icmp .ge 46, 3) := by decide +kernel
theorem dX6_shift_14 : decode cX6_shift 14 = .ok (.bipush 8, 2) := by decide +kernel
theorem dX6_shift_16 : decode cX6_shift 16 = .ok (.iload_n 1, 1) := by decide +kernel
theorem dX6_shift_17 : decode cX6_shift 17 = .ok (.iload 4, 2) := by decide +kernel
theorem dX6_shift_19 : decode cX6_shift 19 = .ok (.invokestatic 70, 3) := by decide +kernel
theorem dX6_shift_22 : decode cX6_shift 22 = .ok (.iadd, 1) := by decide +kernel
theorem dX6_shift_23 : decode cX6_shift 23 = .ok (.istore 5, 2) := by decide +kernel
theorem dX6_shift_25 : decode cX6_shift 25 = .ok (.aload_n 0, 1) := by decide +kernel
theorem dX6_shift_26 : decode cX6_shift 26 = .ok (.iload 5, 2) := by decide +kernel
theorem dX6_shift_28 : decode cX6_shift 28 = .ok (.iaload, 1) := by decide +kernel
theorem dX6_shift_29 : decode cX6_shift 29 = .ok (.i2l, 1) := by decide +kernel
theorem dX6_shift_30 : decode cX6_shift 30 = .ok (.lconst 0, 1) := by decide +kernel
theorem dX6_shift_31 : decode cX6_shift 31 = .ok (.ldc2_w 199, 3) := by decide +kernel
theorem dX6_shift_34 : decode cX6_shift 34 = .ok (.invokestatic 66, 3) := by decide +kernel
theorem dX6_shift_37 : decode cX6_shift 37 = .ok (.ifCond .eq 14, 3) := by decide +kernel
theorem dX6_shift_40 : decode cX6_shift 40 = .ok (.aload_n 0, 1) := by decide +kernel
theorem dX6_shift_41 : decode cX6_shift 41 = .ok (.iload 5, 2) := by decide +kernel
theorem dX6_shift_43 : decode cX6_shift 43 = .ok (.dup2, 1) := by decide +kernel
theorem dX6_shift_44 : decode cX6_shift 44 = .ok (.iaload, 1) := by decide +kernel
theorem dX6_shift_45 : decode cX6_shift 45 = .ok (.iload_n 2, 1) := by decide +kernel
theorem dX6_shift_46 : decode cX6_shift 46 = .ok (.iadd, 1) := by decide +kernel
theorem dX6_shift_47 : decode cX6_shift 47 = .ok (.iastore, 1) := by decide +kernel
theorem dX6_shift_48 : decode cX6_shift 48 = .ok (.iinc 3 1, 3) := by decide +kernel
theorem dX6_shift_51 : decode cX6_shift 51 = .ok (.iinc 4 1, 3) := by decide +kernel
theorem dX6_shift_54 : decode cX6_shift 54 = .ok (.goto (-49), 3) := by decide +kernel
theorem dX6_shift_57 : decode cX6_shift 57 = .ok (.iload_n 3, 1) := by decide +kernel
theorem dX6_shift_58 : decode cX6_shift 58 = .ok (.ireturn, 1) := by decide +kernel
theorem dX6_transpose_0 : decode cX6_transpose 0 = .ok (.aload_n 0, 1) := by decide +kernel
theorem dX6_transpose_1 : decode cX6_transpose 1 = .ok (.aload_n 0, 1) := by decide +kernel
theorem dX6_transpose_2 : decode cX6_transpose 2 = .ok (.getfield 16, 3) := by decide +kernel
theorem dX6_transpose_5 : decode cX6_transpose 5 = .ok (.iload_n 1, 1) := by decide +kernel
theorem dX6_transpose_6 : decode cX6_transpose 6 = .ok (.invokestatic 207, 3) := by decide +kernel
theorem dX6_transpose_9 : decode cX6_transpose 9 = .ok (.ifCond .ne 7, 3) := by decide +kernel
theorem dX6_transpose_12 : decode cX6_transpose 12 = .ok (.iconst 1, 1) := by decide +kernel
theorem dX6_transpose_13 : decode cX6_transpose 13 = .ok (.goto 38, 3) := by decide +kernel
theorem dX6_transpose_16 : decode cX6_transpose 16 = .ok (.iload_n 2, 1) := by decide +kernel
theorem dX6_transpose_17 : decode cX6_transpose 17 = .ok (.i2l, 1) := by decide +kernel
theorem dX6_transpose_18 : decode cX6_transpose 18 = .ok (.ldc2_w 235, 3) := by decide +kernel
theorem dX6_transpose_21 : decode cX6_transpose 21 = .ok (.ldc2_w 199, 3) := by decide +kernel
theorem dX6_transpose_24 : decode cX6_transpose 24 = .ok (.invokestatic 66, 3) := by decide +kernel
theorem dX6_transpose_27 : decode cX6_transpose 27 = .ok (.ifCond .ne 7, 3) := by decide +kernel
theorem dX6_transpose_30 : decode cX6_transpose 30 = .ok (.iconst 2, 1) := by decide +kernel
theorem dX6_transpose_31 : decode cX6_transpose 31 = .ok (.goto 20, 3) := by decide +kernel
theorem dX6_transpose_34 : decode cX6_transpose 34 = .ok (.aload_n 0, 1) := by decide +kernel
theorem dX6_transpose_35 : decode cX6_transpose 35 = .ok (.getfield 16, 3) := by decide +kernel
theorem dX6_transpose_38 : decode cX6_transpose 38 = .ok (.iload_n 1, 1) := by decide +kernel
theorem dX6_transpose_39 : decode cX6_transpose 39 = .ok (.iload_n 2, 1) := by decide +kernel
theorem dX6_transpose_40 : decode cX6_transpose 40 = .ok (.invokestatic 237, 3) := by decide +kernel
theorem dX6_transpose_43 : decode cX6_transpose 43 = .ok (.ifCond .ne 7, 3) := by decide +kernel
theorem dX6_transpose_46 : decode cX6_transpose 46 = .ok (.iconst 3, 1) := by decide +kernel
theorem dX6_transpose_47 : decode cX6_transpose 47 = .ok (.goto 4, 3) := by decide +kernel
theorem dX6_transpose_50 : decode cX6_transpose 50 = .ok (.iconst 0, 1) := by decide +kernel
theorem dX6_transpose_51 : decode cX6_transpose 51 = .ok (.invokevirtual 169, 3) := by decide +kernel
theorem dX6_transpose_54 : decode cX6_transpose 54 = .ok (.ifCond .eq 5, 3) := by decide +kernel
theorem dX6_transpose_57 : decode cX6_transpose 57 = .ok (.iconst 0, 1) := by decide +kernel
theorem dX6_transpose_58 : decode cX6_transpose 58 = .ok (.ireturn, 1) := by decide +kernel
theorem dX6_transpose_59 : decode cX6_transpose 59 = .ok (.aload_n 0, 1) := by decide +kernel
theorem dX6_transpose_60 : decode cX6_transpose 60 = .ok (.invokevirtual 220, 3) := by decide +kernel
theorem dX6_transpose_63 : decode cX6_transpose 63 = .ok (.aload_n 0, 1) := by decide +kernel
theorem dX6_transpose_64 : decode cX6_transpose 64 = .ok (.getfield 16, 3) := by decide +kernel
theorem dX6_transpose_67 : decode cX6_transpose 67 = .ok (.iload_n 1, 1) := by decide +kernel
theorem dX6_transpose_68 : decode cX6_transpose 68 = .ok (.iload_n 2, 1) := by decide +kernel
theorem dX6_transpose_69 : decode cX6_transpose 69 = .ok (.invokestatic 240, 3) := by decide +kernel
theorem dX6_transpose_72 : decode cX6_transpose 72 = .ok (.ireturn, 1) := by decide +kernel
theorem dX6_swap_0 : decode cX6_swap 0 = .ok (.iconst 0, 1) := by decide +kernel
theorem dX6_swap_1 : decode cX6_swap 1 = .ok (.istore_n 3, 1) := by decide +kernel
theorem dX6_swap_2 : decode cX6_swap 2 = .ok (.iconst 0, 1) := by decide +kernel
theorem dX6_swap_3 : decode cX6_swap 3 = .ok (.istore 4, 2) := by decide +kernel
theorem dX6_swap_5 : decode cX6_swap 5 = .ok (.iload 4, 2) := by decide +kernel
theorem dX6_swap_7 : decode cX6_swap 7 = .ok (.aload_n 0, 1) := by decide +kernel
theorem dX6_swap_8 : decode cX6_swap 8 = .ok (.bipush 7, 2) := by decide +kernel
theorem dX6_swap_10 : decode cX6_swap 10 = .ok (.iaload, 1) := by decide +kernel
theorem dX6_swap_11 : decode cX6_swap 11 = .ok (.if_icmp .ge 76, 3) := by decide +kernel
theorem dX6_swap_14 : decode cX6_swap 14 = .ok (.aload_n 0, 1) := by decide +kernel
theorem dX6_swap_15 : decode cX6_swap 15 = .ok (.bipush 8, 2) := by decide +kernel
theorem dX6_swap_17 : decode cX6_swap 17 = .ok (.iload_n 1, 1) := by decide +kernel
theorem dX6_swap_18 : decode cX6_swap 18 = .ok (.iload 4, 2) := by decide +kernel
theorem dX6_swap_20 : decode cX6_swap 20 = .ok (.invokestatic 70, 3) := by decide +kernel
theorem dX6_swap_23 : decode cX6_swap 23 = .ok (.iadd, 1) := by decide +kernel
theorem dX6_swap_24 : decode cX6_swap 24 = .ok (.iaload, 1) := by decide +kernel
theorem dX6_swap_25 : decode cX6_swap 25 = .ok (.istore 5, 2) := by decide +kernel
theorem dX6_swap_27 : decode cX6_swap 27 = .ok (.aload_n 0, 1) := by decide +kernel
theorem dX6_swap_28 : decode cX6_swap 28 = .ok (.bipush 8, 2) := by decide +kernel
theorem dX6_swap_30 : decode cX6_swap 30 = .ok (.iload_n 2, 1) := by decide +kernel
theorem dX6_swap_31 : decode cX6_swap 31 = .ok (.iload 4, 2) := by decide +kernel
theorem dX6_swap_33 : decode cX6_swap 33 = .ok (.invokestatic 70, 3) := by decide +kernel
theorem dX6_swap_36 : decode cX6_swap 36 = .ok (.iadd, 1) := by decide +kernel
theorem dX6_swap_37 : decode cX6_swap 37 = .ok (.iaload, 1) := by decide +kernel
theorem dX6_swap_38 : decode cX6_swap 38 = .ok (.istore 6, 2) := by decide +kernel
theorem dX6_swap_40 : decode cX6_swap 40 = .ok (.iload_n 3, 1) := by decide +kernel
theorem dX6_swap_41 : decode cX6_swap 41 = .ok (.iload 5, 2) := by decide +kernel
theorem dX6_swap_43 : decode cX6_swap 43 = .ok (.iload 6, 2) := by decide +kernel
theorem dX6_swap_45 : decode cX6_swap 45 = .ok (.if_icmp .ne 7, 3) := by decide +kernel
theorem dX6_swap_48 : decode cX6_swap 48 = .ok (.iconst 0, 1) := by decide +kernel
theorem dX6_swap_49 : decode cX6_swap 49 = .ok (.goto 4, 3) := by decide +kernel
theorem dX6_swap_52 : decode cX6_swap 52 = .ok (.iconst 1, 1) := by decide +kernel
theorem dX6_swap_53 : decode cX6_swap 53 = .ok (.iadd, 1) := by decide +kernel
theorem dX6_swap_54 : decode cX6_swap 54 = .ok (.istore_n 3, 1) := by decide +kernel
theorem dX6_swap_55 : decode cX6_swap 55 = .ok (.aload_n 0, 1) := by decide +kernel
theorem dX6_swap_56 : decode cX6_swap 56 = .ok (.bipush 8, 2) := by decide +kernel
theorem dX6_swap_58 : decode cX6_swap 58 = .ok (.iload_n 1, 1) := by decide +kernel
theorem dX6_swap_59 : decode cX6_swap 59 = .ok (.iload 4, 2) := by decide +kernel
theorem dX6_swap_61 : decode cX6_swap 61 = .ok (.invokestatic 70, 3) := by decide +kernel
theorem dX6_swap_64 : decode cX6_swap 64 = .ok (.iadd, 1) := by decide +kernel
theorem dX6_swap_65 : decode cX6_swap 65 = .ok (.iload 6, 2) := by decide +kernel
theorem dX6_swap_67 : decode cX6_swap 67 = .ok (.iastore, 1) := by decide +kernel
theorem dX6_swap_68 : decode cX6_swap 68 = .ok (.aload_n 0, 1) := by decide +kernel
theorem dX6_swap_69 : decode cX6_swap 69 = .ok (.bipush 8, 2) := by decide +kernel
theorem dX6_swap_71 : decode cX6_swap 71 = .ok (.iload_n 2, 1) := by decide +kernel
theorem dX6_swap_72 : decode cX6_swap 72 = .ok (.iload 4, 2) := by decide +kernel
theorem dX6_swap_74 : decode cX6_swap 74 = .ok (.invokestatic 70, 3) := by decide +kernel
theorem dX6_swap_77 : decode cX6_swap 77 = .ok (.iadd, 1) := by decide +kernel
theorem dX6_swap_78 : decode cX6_swap 78 = .ok (.iload 5, 2) := by decide +kernel
theorem dX6_swap_80 : decode cX6_swap 80 = .ok (.iastore, 1) := by decide +kernel
theorem dX6_swap_81 : decode cX6_swap 81 = .ok (.iinc 4 1, 3) := by decide +kernel
theorem dX6_swap_84 : decode cX6_swap 84 = .ok (.goto (-79), 3) := by decide +kernel
theorem dX6_swap_87 : decode cX6_swap 87 = .ok (.iload_n 3, 1) := by decide +kernel
theorem dX6_swap_88 : decode cX6_swap 88 = .ok (.ireturn, 1) := by decide +kernel
theorem dX6_exchange_0 : decode cX6_exchange 0 = .ok (.aload_n 0, 1) := by decide +kernel
theorem dX6_exchange_1 : decode cX6_exchange 1 = .ok (.aload_n 0, 1) := by decide +kernel
theorem dX6_exchange_2 : decode cX6_exchange 2 = .ok (.getfield 16, 3) := by decide +kernel
theorem dX6_exchange_5 : decode cX6_exchange 5 = .ok (.iload_n 1, 1) := by decide +kernel
theorem dX6_exchange_6 : decode cX6_exchange 6 = .ok (.invokestatic 207, 3) := by decide +kernel
theorem dX6_exchange_9 : decode cX6_exchange 9 = .ok (.ifCond .eq 18, 3) := by decide +kernel
theorem dX6_exchange_12 : decode cX6_exchange 12 = .ok (.aload_n 0, 1) := by decide +kernel
theorem dX6_exchange_13 : decode cX6_exchange 13 = .ok (.getfield 16, 3) := by decide +kernel
theorem dX6_exchange_16 : decode cX6_exchange 16 = .ok (.iload_n 2, 1) := by decide +kernel
theorem dX6_exchange_17 : decode cX6_exchange 17 = .ok (.invokestatic 207, 3) := by decide +kernel
theorem dX6_exchange_20 : decode cX6_exchange 20 = .ok (.ifCond .eq 7, 3) := by decide +kernel
theorem dX6_exchange_23 : decode cX6_exchange 23 = .ok (.iconst 0, 1) := by decide +kernel
theorem dX6_exchange_24 : decode cX6_exchange 24 = .ok (.goto 4, 3) := by decide +kernel
theorem dX6_exchange_27 : decode cX6_exchange 27 = .ok (.iconst 1, 1) := by decide +kernel
theorem dX6_exchange_28 : decode cX6_exchange 28 = .ok (.invokevirtual 169, 3) := by decide +kernel
theorem dX6_exchange_31 : decode cX6_exchange 31 = .ok (.ifCond .eq 5, 3) := by decide +kernel
theorem dX6_exchange_34 : decode cX6_exchange 34 = .ok (.iconst 0, 1) := by decide +kernel
theorem dX6_exchange_35 : decode cX6_exchange 35 = .ok (.ireturn, 1) := by decide +kernel
theorem dX6_exchange_36 : decode cX6_exchange 36 = .ok (.aload_n 0, 1) := by decide +kernel
theorem dX6_exchange_37 : decode cX6_exchange 37 = .ok (.invokevirtual 220, 3) := by decide +kernel
theorem dX6_exchange_40 : decode cX6_exchange 40 = .ok (.aload_n 0, 1) := by decide +kernel
theorem dX6_exchange_41 : decode cX6_exchange 41 = .ok (.getfield 16, 3) := by decide +kernel
theorem dX6_exchange_44 : decode cX6_exchange 44 = .ok (.iload_n 1, 1) := by decide +kernel
theorem dX6_exchange_45 : decode cX6_exchange 45 = .ok (.iload_n 2, 1) := by decide +kernel
theorem dX6_exchange_46 : decode cX6_exchange 46 = .ok (.invokestatic 244, 3) := by decide +kernel
theorem dX6_exchange_49 : decode cX6_exchange 49 = .ok (.ireturn, 1) := by decide +kernel
theorem dX6_staff_0 : decode cX6_staff 0 = .ok (.aload_n 0, 1) := by decide +kernel
theorem dX6_staff_1 : decode cX6_staff 1 = .ok (.aload_n 0, 1) := by decide +kernel
theorem dX6_staff_2 : decode cX6_staff 2 = .ok (.getfield 16, 3) := by decide +kernel
theorem dX6_staff_5 : decode cX6_staff 5 = .ok (.bipush 6, 2) := by decide +kernel
theorem dX6_staff_7 : decode cX6_staff 7 = .ok (.iaload, 1) := by decide +kernel
theorem dX6_staff_8 : decode cX6_staff 8 = .ok (.iload_n 1, 1) := by decide +kernel
theorem dX6_staff_9 : decode cX6_staff 9 = .ok (.ifCond .eq 7, 3) := by decide +kernel
theorem dX6_staff_12 : decode cX6_staff 12 = .ok (.iconst 4, 1) := by decide +kernel
theorem dX6_staff_13 : decode cX6_staff 13 = .ok (.goto 4, 3) := by decide +kernel
theorem dX6_staff_16 : decode cX6_staff 16 = .ok (.iconst 1, 1) := by decide +kernel
theorem dX6_staff_17 : decode cX6_staff 17 = .ok (.if_icmp .ne 7, 3) := by decide +kernel
theorem dX6_staff_20 : decode cX6_staff 20 = .ok (.iconst 1, 1) := by decide +kernel
theorem dX6_staff_21 : decode cX6_staff 21 = .ok (.goto 4, 3) := by decide +kernel
theorem dX6_staff_24 : decode cX6_staff 24 = .ok (.iconst 0, 1) := by decide +kernel
theorem dX6_staff_25 : decode cX6_staff 25 = .ok (.invokevirtual 169, 3) := by decide +kernel
theorem dX6_staff_28 : decode cX6_staff 28 = .ok (.ifCond .eq 5, 3) := by decide +kernel
theorem dX6_staff_31 : decode cX6_staff 31 = .ok (.iconst 0, 1) := by decide +kernel
theorem dX6_staff_32 : decode cX6_staff 32 = .ok (.ireturn, 1) := by decide +kernel
theorem dX6_staff_33 : decode cX6_staff 33 = .ok (.aload_n 0, 1) := by decide +kernel
theorem dX6_staff_34 : decode cX6_staff 34 = .ok (.invokevirtual 220, 3) := by decide +kernel
theorem dX6_staff_37 : decode cX6_staff 37 = .ok (.iload_n 1, 1) := by decide +kernel
theorem dX6_staff_38 : decode cX6_staff 38 = .ok (.ifCond .ne 14, 3) := by decide +kernel
theorem dX6_staff_41 : decode cX6_staff 41 = .ok (.aload_n 0, 1) := by decide +kernel
theorem dX6_staff_42 : decode cX6_staff 42 = .ok (.getfield 16, 3) := by decide +kernel
theorem dX6_staff_45 : decode cX6_staff 45 = .ok (.bipush 6, 2) := by decide +kernel
theorem dX6_staff_47 : decode cX6_staff 47 = .ok (.dup2, 1) := by decide +kernel
theorem dX6_staff_48 : decode cX6_staff 48 = .ok (.iaload, 1) := by decide +kernel
theorem dX6_staff_49 : decode cX6_staff 49 = .ok (.iconst 1, 1) := by decide +kernel
theorem dX6_staff_50 : decode cX6_staff 50 = .ok (.isub, 1) := by decide +kernel
theorem dX6_staff_51 : decode cX6_staff 51 = .ok (.iastore, 1) := by decide +kernel
theorem dX6_staff_52 : decode cX6_staff 52 = .ok (.iconst 0, 1) := by decide +kernel
theorem dX6_staff_53 : decode cX6_staff 53 = .ok (.istore_n 2, 1) := by decide +kernel
theorem dX6_staff_54 : decode cX6_staff 54 = .ok (.iload_n 2, 1) := by decide +kernel
theorem dX6_staff_55 : decode cX6_staff 55 = .ok (.bipush 16, 2) := by decide +kernel
theorem dX6_staff_57 : decode cX6_staff 57 = .ok (.if_icmp .ge 30, 3) := by decide +kernel
theorem dX6_staff_60 : decode cX6_staff 60 = .ok (.aload_n 0, 1) := by decide +kernel
theorem dX6_staff_61 : decode cX6_staff 61 = .ok (.getfield 16, 3) := by decide +kernel
theorem dX6_staff_64 : decode cX6_staff 64 = .ok (.bipush 8, 2) := by decide +kernel
theorem dX6_staff_66 : decode cX6_staff 66 = .ok (.aload_n 0, 1) := by decide +kernel
theorem dX6_staff_67 : decode cX6_staff 67 = .ok (.getfield 16, 3) := by decide +kernel
theorem dX6_staff_70 : decode cX6_staff 70 = .ok (.bipush 6, 2) := by decide +kernel
theorem dX6_staff_72 : decode cX6_staff 72 = .ok (.iaload, 1) := by decide +kernel
theorem dX6_staff_73 : decode cX6_staff 73 = .ok (.iload_n 2, 1) := by decide +kernel
theorem dX6_staff_74 : decode cX6_staff 74 = .ok (.invokestatic 70, 3) := by decide +kernel
theorem dX6_staff_77 : decode cX6_staff 77 = .ok (.iadd, 1) := by decide +kernel
theorem dX6_staff_78 : decode cX6_staff 78 = .ok (.bipush (-9), 2) := by decide +kernel
theorem dX6_staff_80 : decode cX6_staff 80 = .ok (.iastore, 1) := by decide +kernel
theorem dX6_staff_81 : decode cX6_staff 81 = .ok (.iinc 2 1, 3) := by decide +kernel
theorem dX6_staff_84 : decode cX6_staff 84 = .ok (.goto (-30), 3) := by decide +kernel
theorem dX6_staff_87 : decode cX6_staff 87 = .ok (.aload_n 0, 1) := by decide +kernel
theorem dX6_staff_88 : decode cX6_staff 88 = .ok (.getfield 16, 3) := by decide +kernel
theorem dX6_staff_91 : decode cX6_staff 91 = .ok (.bipush 6, 2) := by decide +kernel
theorem dX6_staff_93 : decode cX6_staff 93 = .ok (.dup2, 1) := by decide +kernel
theorem dX6_staff_94 : decode cX6_staff 94 = .ok (.iaload, 1) := by decide +kernel
theorem dX6_staff_95 : decode cX6_staff 95 = .ok (.iload_n 1, 1) := by decide +kernel
theorem dX6_staff_96 : decode cX6_staff 96 = .ok (.ifCond .eq 7, 3) := by decide +kernel
theorem dX6_staff_99 : decode cX6_staff 99 = .ok (.iconst 1, 1) := by decide +kernel
theorem dX6_staff_100 : decode cX6_staff 100 = .ok (.goto 4, 3) := by decide +kernel
theorem dX6_staff_103 : decode cX6_staff 103 = .ok (.iconst 0, 1) := by decide +kernel
theorem dX6_staff_104 : decode cX6_staff 104 = .ok (.iadd, 1) := by decide +kernel
theorem dX6_staff_105 : decode cX6_staff 105 = .ok (.iastore, 1) := by decide +kernel
theorem dX6_staff_106 : decode cX6_staff 106 = .ok (.aload_n 0, 1) := by decide +kernel
theorem dX6_staff_107 : decode cX6_staff 107 = .ok (.getfield 16, 3) := by decide +kernel
theorem dX6_staff_110 : decode cX6_staff 110 = .ok (.bipush 6, 2) := by decide +kernel
theorem dX6_staff_112 : decode cX6_staff 112 = .ok (.iaload, 1) := by decide +kernel
theorem dX6_staff_113 : decode cX6_staff 113 = .ok (.ireturn, 1) := by decide +kernel
theorem dX6_insertBeat_0 : decode cX6_insertBeat 0 = .ok (.aload_n 0, 1) := by decide +kernel
theorem dX6_insertBeat_1 : decode cX6_insertBeat 1 = .ok (.iload_n 1, 1) := by decide +kernel
theorem dX6_insertBeat_2 : decode cX6_insertBeat 2 = .ok (.i2l, 1) := by decide +kernel
theorem dX6_insertBeat_3 : decode cX6_insertBeat 3 = .ok (.lconst 0, 1) := by decide +kernel
theorem dX6_insertBeat_4 : decode cX6_insertBeat 4 = .ok (.aload_n 0, 1) := by decide +kernel
theorem dX6_insertBeat_5 : decode cX6_insertBeat 5 = .ok (.getfield 16, 3) := by decide +kernel
theorem dX6_insertBeat_8 : decode cX6_insertBeat 8 = .ok (.bipush 7, 2) := by decide +kernel
theorem dX6_insertBeat_10 : decode cX6_insertBeat 10 = .ok (.iaload, 1) := by decide +kernel
theorem dX6_insertBeat_11 : decode cX6_insertBeat 11 = .ok (.i2l, 1) := by decide +kernel
theorem dX6_insertBeat_12 : decode cX6_insertBeat 12 = .ok (.invokestatic 66, 3) := by decide +kernel
theorem dX6_insertBeat_15 : decode cX6_insertBeat 15 = .ok (.ifCond .ne 7, 3) := by decide +kernel
theorem dX6_insertBeat_18 : decode cX6_insertBeat 18 = .ok (.iconst 1, 1) := by decide +kernel
theorem dX6_insertBeat_19 : decode cX6_insertBeat 19 = .ok (.goto 20, 3) := by decide +kernel
theorem dX6_insertBeat_22 : decode cX6_insertBeat 22 = .ok (.aload_n 0, 1) := by decide +kernel
theorem dX6_insertBeat_23 : decode cX6_insertBeat 23 = .ok (.getfield 16, 3) := by decide +kernel
theorem dX6_insertBeat_26 : decode cX6_insertBeat 26 = .ok (.bipush 7, 2) := by decide +kernel
theorem dX6_insertBeat_28 : decode cX6_insertBeat 28 = .ok (.iaload, 1) := by decide +kernel
theorem dX6_insertBeat_29 : decode cX6_insertBeat 29 = .ok (.bipush 16, 2) := by decide +kernel
theorem dX6_insertBeat_31 : decode cX6_insertBeat 31 = .ok (.if_icmp .ne 7, 3) := by decide +kernel
theorem dX6_insertBeat_34 : decode cX6_insertBeat 34 = .ok (.iconst 2, 1) := by decide +kernel
theorem dX6_insertBeat_35 : decode cX6_insertBeat 35 = .ok (.goto 4, 3) := by decide +kernel
theorem dX6_insertBeat_38 : decode cX6_insertBeat 38 = .ok (.iconst 0, 1) := by decide +kernel
theorem dX6_insertBeat_39 : decode cX6_insertBeat 39 = .ok (.invokevirtual 169, 3) := by decide +kernel
theorem dX6_insertBeat_42 : decode cX6_insertBeat 42 = .ok (.ifCond .eq 5, 3) := by decide +kernel
theorem dX6_insertBeat_45 : decode cX6_insertBeat 45 = .ok (.iconst 0, 1) := by decide +kernel
theorem dX6_insertBeat_46 : decode cX6_insertBeat 46 = .ok (.ireturn, 1) := by decide +kernel
theorem dX6_insertBeat_47 : decode cX6_insertBeat 47 = .ok (.aload_n 0, 1) := by decide +kernel
theorem dX6_insertBeat_48 : decode cX6_insertBeat 48 = .ok (.invokevirtual 220, 3) := by decide +kernel
theorem dX6_insertBeat_51 : decode cX6_insertBeat 51 = .ok (.iconst 0, 1) := by decide +kernel
theorem dX6_insertBeat_52 : decode cX6_insertBeat 52 = .ok (.istore_n 2, 1) := by decide +kernel
theorem dX6_insertBeat_53 : decode cX6_insertBeat 53 = .ok (.iload_n 2, 1) := by decide +kernel
theorem dX6_insertBeat_54 : decode cX6_insertBeat 54 = .ok (.aload_n 0, 1) := by decide +kernel
theorem dX6_insertBeat_55 : decode cX6_insertBeat 55 = .ok (.getfield 16, 3) := by decide +kernel
theorem dX6_insertBeat_58 : decode cX6_insertBeat 58 = .ok (.bipush 6, 2) := by decide +kernel
theorem dX6_insertBeat_60 : decode cX6_insertBeat 60 = .ok (.iaload, 1) := by decide +kernel
theorem dX6_insertBeat_61 : decode cX6_insertBeat 61 = .ok (.if_icmp .ge 71, 3) := by decide +kernel
theorem dX6_insertBeat_64 : decode cX6_insertBeat 64 = .ok (.aload_n 0, 1) := by decide +kernel
theorem dX6_insertBeat_65 : decode cX6_insertBeat 65 = .ok (.getfield 16, 3) := by decide +kernel
theorem dX6_insertBeat_68 : decode cX6_insertBeat 68 = .ok (.bipush 7, 2) := by decide +kernel
theorem dX6_insertBeat_70 : decode cX6_insertBeat 70 = .ok (.iaload, 1) := by decide +kernel
theorem dX6_insertBeat_71 : decode cX6_insertBeat 71 = .ok (.istore_n 3, 1) := by decide +kernel
theorem dX6_insertBeat_72 : decode cX6_insertBeat 72 = .ok (.iload_n 3, 1) := by decide +kernel
theorem dX6_insertBeat_73 : decode cX6_insertBeat 73 = .ok (.iload_n 1, 1) := by decide +kernel
theorem dX6_insertBeat_74 : decode cX6_insertBeat 74 = .ok (.if_icmp .le 37, 3) := by decide +kernel
theorem dX6_insertBeat_77 : decode cX6_insertBeat 77 = .ok (.aload_n 0, 1) := by decide +kernel
theorem dX6_insertBeat_78 : decode cX6_insertBeat 78 = .ok (.getfield 16, 3) := by decide +kernel
theorem dX6_insertBeat_81 : decode cX6_insertBeat 81 = .ok (.bipush 8, 2) := by decide +kernel
theorem dX6_insertBeat_83 : decode cX6_insertBeat 83 = .ok (.iload_n 2, 1) := by decide +kernel
theorem dX6_insertBeat_84 : decode cX6_insertBeat 84 = .ok (.iload_n 3, 1) := by decide +kernel
theorem dX6_insertBeat_85 : decode cX6_insertBeat 85 = .ok (.invokestatic 70, 3) := by decide +kernel
theorem dX6_insertBeat_88 : decode cX6_insertBeat 88 = .ok (.iadd, 1) := by decide +kernel
theorem dX6_insertBeat_89 : decode cX6_insertBeat 89 = .ok (.aload_n 0, 1) := by decide +kernel
theorem dX6_insertBeat_90 : decode cX6_insertBeat 90 = .ok (.getfield 16, 3) := by decide +kernel
theorem dX6_insertBeat_93 : decode cX6_insertBeat 93 = .ok (.bipush 8, 2) := by decide +kernel
theorem dX6_insertBeat_95 : decode cX6_insertBeat 95 = .ok (.iload_n 2, 1) := by decide +kernel
theorem dX6_insertBeat_96 : decode cX6_insertBeat 96 = .ok (.iload_n 3, 1) := by decide +kernel
theorem dX6_insertBeat_97 : decode cX6_insertBeat 97 = .ok (.iconst 1, 1) := by decide +kernel
theorem dX6_insertBeat_98 : decode cX6_insertBeat 98 = .ok (.isub, 1) := by decide +kernel
theorem dX6_insertBeat_99 : decode cX6_insertBeat 99 = .ok (.invokestatic 70, 3) := by decide +kernel
theorem dX6_insertBeat_102 : decode cX6_insertBeat 102 = .ok (.iadd, 1) := by decide +kernel
theorem dX6_insertBeat_103 : decode cX6_insertBeat 103 = .ok (.iaload, 1) := by decide +kernel
theorem dX6_insertBeat_104 : decode cX6_insertBeat 104 = .ok (.iastore, 1) := by decide +kernel
theorem dX6_insertBeat_105 : decode cX6_insertBeat 105 = .ok (.iinc 3 (-1), 3) := by decide +kernel
theorem dX6_insertBeat_108 : decode cX6_insertBeat 108 = .ok (.goto (-36), 3) := by decide +kernel
theorem dX6_insertBeat_111 : decode cX6_insertBeat 111 = .ok (.aload_n 0, 1) := by decide +kernel
theorem dX6_insertBeat_112 : decode cX6_insertBeat 112 = .ok (.getfield 16, 3) := by decide +kernel
theorem dX6_insertBeat_115 : decode cX6_insertBeat 115 = .ok (.bipush 8, 2) := by decide +kernel
theorem dX6_insertBeat_117 : decode cX6_insertBeat 117 = .ok (.iload_n 2, 1) := by decide +kernel
theorem dX6_insertBeat_118 : decode cX6_insertBeat 118 = .ok (.iload_n 1, 1) := by decide +kernel
theorem dX6_insertBeat_119 : decode cX6_insertBeat 119 = .ok (.invokestatic 70, 3) := by decide +kernel
theorem dX6_insertBeat_122 : decode cX6_insertBeat 122 = .ok (.iadd, 1) := by decide +kernel
theorem dX6_insertBeat_123 : decode cX6_insertBeat 123 = .ok (.bipush (-9), 2) := by decide +kernel
theorem dX6_insertBeat_125 : decode cX6_insertBeat 125 = .ok (.iastore, 1) := by decide +kernel
theorem dX6_insertBeat_126 : decode cX6_insertBeat 126 = .ok (.iinc 2 1, 3) := by decide +kernel
theorem dX6_insertBeat_129 : decode cX6_insertBeat 129 = .ok (.goto (-76), 3) := by decide +kernel
theorem dX6_insertBeat_132 : decode cX6_insertBeat 132 = .ok (.aload_n 0, 1) := by decide +kernel
theorem dX6_insertBeat_133 : decode cX6_insertBeat 133 = .ok (.getfield 16, 3) := by decide +kernel
theorem dX6_insertBeat_136 : decode cX6_insertBeat 136 = .ok (.bipush 7, 2) := by decide +kernel
theorem dX6_insertBeat_138 : decode cX6_insertBeat 138 = .ok (.dup2, 1) := by decide +kernel
theorem dX6_insertBeat_139 : decode cX6_insertBeat 139 = .ok (.iaload, 1) := by decide +kernel
theorem dX6_insertBeat_140 : decode cX6_insertBeat 140 = .ok (.iconst 1, 1) := by decide +kernel
theorem dX6_insertBeat_141 : decode cX6_insertBeat 141 = .ok (.iadd, 1) := by decide +kernel
theorem dX6_insertBeat_142 : decode cX6_insertBeat 142 = .ok (.iastore, 1) := by decide +kernel
theorem dX6_insertBeat_143 : decode cX6_insertBeat 143 = .ok (.aload_n 0, 1) := by decide +kernel
theorem dX6_insertBeat_144 : decode cX6_insertBeat 144 = .ok (.getfield 16, 3) := by decide +kernel
theorem dX6_insertBeat_147 : decode cX6_insertBeat 147 = .ok (.invokestatic 223, 3) := by decide +kernel
theorem dX6_insertBeat_150 : decode cX6_insertBeat 150 = .ok (.aload_n 0, 1) := by decide +kernel
theorem dX6_insertBeat_151 : decode cX6_insertBeat 151 = .ok (.getfield 16, 3) := by decide +kernel
theorem dX6_insertBeat_154 : decode cX6_insertBeat 154 = .ok (.bipush 7, 2) := by decide +kernel
theorem dX6_insertBeat_156 : decode cX6_insertBeat 156 = .ok (.iaload, 1) := by decide +kernel
theorem dX6_insertBeat_157 : decode cX6_insertBeat 157 = .ok (.ireturn, 1) := by decide +kernel
theorem dX6_dropBeat_0 : decode cX6_dropBeat 0 = .ok (.iconst 0, 1) := by decide +kernel
theorem dX6_dropBeat_1 : decode cX6_dropBeat 1 = .ok (.istore_n 2, 1) := by decide +kernel
theorem dX6_dropBeat_2 : decode cX6_dropBeat 2 = .ok (.iload_n 2, 1) := by decide +kernel
theorem dX6_dropBeat_3 : decode cX6_dropBeat 3 = .ok (.aload_n 0, 1) := by decide +kernel
theorem dX6_dropBeat_4 : decode cX6_dropBeat 4 = .ok (.bipush 6, 2) := by decide +kernel
theorem dX6_dropBeat_6 : decode cX6_dropBeat 6 = .ok (.iaload, 1) := by decide +kernel
theorem dX6_dropBeat_7 : decode cX6_dropBeat 7 = .ok (.if_icmp .ge 66, 3) := by decide +kernel
theorem dX6_dropBeat_10 : decode cX6_dropBeat 10 = .ok (.iload_n 1, 1) := by decide +kernel
theorem dX6_dropBeat_11 : decode cX6_dropBeat 11 = .ok (.istore_n 3, 1) := by decide +kernel
theorem dX6_dropBeat_12 : decode cX6_dropBeat 12 = .ok (.iload_n 3, 1) := by decide +kernel
theorem dX6_dropBeat_13 : decode cX6_dropBeat 13 = .ok (.iconst 1, 1) := by decide +kernel
theorem dX6_dropBeat_14 : decode cX6_dropBeat 14 = .ok (.iadd, 1) := by decide +kernel
theorem dX6_dropBeat_15 : decode cX6_dropBeat 15 = .ok (.aload_n 0, 1) := by decide +kernel
theorem dX6_dropBeat_16 : decode cX6_dropBeat 16 = .ok (.bipush 7, 2) := by decide +kernel
theorem dX6_dropBeat_18 : decode cX6_dropBeat 18 = .ok (.iaload, 1) := by decide +kernel
theorem dX6_dropBeat_19 : decode cX6_dropBeat 19 = .ok (.if_icmp .ge 31, 3) := by decide +kernel
theorem dX6_dropBeat_22 : decode cX6_dropBeat 22 = .ok (.aload_n 0, 1) := by decide +kernel
theorem dX6_dropBeat_23 : decode cX6_dropBeat 23 = .ok (.bipush 8, 2) := by decide +kernel
theorem dX6_dropBeat_25 : decode cX6_dropBeat 25 = .ok (.iload_n 2, 1) := by decide +kernel
theorem dX6_dropBeat_26 : decode cX6_dropBeat 26 = .ok (.iload_n 3, 1) := by decide +kernel
theorem dX6_dropBeat_27 : decode cX6_dropBeat 27 = .ok (.invokestatic 70, 3) := by decide +kernel
theorem dX6_dropBeat_30 : decode cX6_dropBeat 30 = .ok (.iadd, 1) := by decide +kernel
theorem dX6_dropBeat_31 : decode cX6_dropBeat 31 = .ok (.aload_n 0, 1) := by decide +kernel
theorem dX6_dropBeat_32 : decode cX6_dropBeat 32 = .ok (.bipush 8, 2) := by decide +kernel
theorem dX6_dropBeat_34 : decode cX6_dropBeat 34 = .ok (.iload_n 2, 1) := by decide +kernel
theorem dX6_dropBeat_35 : decode cX6_dropBeat 35 = .ok (.iload_n 3, 1) := by decide +kernel
theorem dX6_dropBeat_36 : decode cX6_dropBeat 36 = .ok (.iconst 1, 1) := by decide +kernel
theorem dX6_dropBeat_37 : decode cX6_dropBeat 37 = .ok (.iadd, 1) := by decide +kernel
theorem dX6_dropBeat_38 : decode cX6_dropBeat 38 = .ok (.invokestatic 70, 3) := by decide +kernel
theorem dX6_dropBeat_41 : decode cX6_dropBeat 41 = .ok (.iadd, 1) := by decide +kernel
theorem dX6_dropBeat_42 : decode cX6_dropBeat 42 = .ok (.iaload, 1) := by decide +kernel
theorem dX6_dropBeat_43 : decode cX6_dropBeat 43 = .ok (.iastore, 1) := by decide +kernel
theorem dX6_dropBeat_44 : decode cX6_dropBeat 44 = .ok (.iinc 3 1, 3) := by decide +kernel
theorem dX6_dropBeat_47 : decode cX6_dropBeat 47 = .ok (.goto (-35), 3) := by decide +kernel
theorem dX6_dropBeat_50 : decode cX6_dropBeat 50 = .ok (.aload_n 0, 1) := by decide +kernel
theorem dX6_dropBeat_51 : decode cX6_dropBeat 51 = .ok (.bipush 8, 2) := by decide +kernel
theorem dX6_dropBeat_53 : decode cX6_dropBeat 53 = .ok (.iload_n 2, 1) := by decide +kernel
theorem dX6_dropBeat_54 : decode cX6_dropBeat 54 = .ok (.aload_n 0, 1) := by decide +kernel
theorem dX6_dropBeat_55 : decode cX6_dropBeat 55 = .ok (.bipush 7, 2) := by decide +kernel
theorem dX6_dropBeat_57 : decode cX6_dropBeat 57 = .ok (.iaload, 1) := by decide +kernel
theorem dX6_dropBeat_58 : decode cX6_dropBeat 58 = .ok (.iconst 1, 1) := by decide +kernel
theorem dX6_dropBeat_59 : decode cX6_dropBeat 59 = .ok (.isub, 1) := by decide +kernel
theorem dX6_dropBeat_60 : decode cX6_dropBeat 60 = .ok (.invokestatic 70, 3) := by decide +kernel
theorem dX6_dropBeat_63 : decode cX6_dropBeat 63 = .ok (.iadd, 1) := by decide +kernel
theorem dX6_dropBeat_64 : decode cX6_dropBeat 64 = .ok (.bipush (-9), 2) := by decide +kernel
theorem dX6_dropBeat_66 : decode cX6_dropBeat 66 = .ok (.iastore, 1) := by decide +kernel
theorem dX6_dropBeat_67 : decode cX6_dropBeat 67 = .ok (.iinc 2 1, 3) := by decide +kernel
theorem dX6_dropBeat_70 : decode cX6_dropBeat 70 = .ok (.goto (-68), 3) := by decide +kernel
theorem dX6_dropBeat_73 : decode cX6_dropBeat 73 = .ok (.aload_n 0, 1) := by decide +kernel
theorem dX6_dropBeat_74 : decode cX6_dropBeat 74 = .ok (.bipush 7, 2) := by decide +kernel
theorem dX6_dropBeat_76 : decode cX6_dropBeat 76 = .ok (.dup2, 1) := by decide +kernel
theorem dX6_dropBeat_77 : decode cX6_dropBeat 77 = .ok (.iaload, 1) := by decide +kernel
theorem dX6_dropBeat_78 : decode cX6_dropBeat 78 = .ok (.iconst 1, 1) := by decide +kernel
theorem dX6_dropBeat_79 : decode cX6_dropBeat 79 = .ok (.isub, 1) := by decide +kernel
theorem dX6_dropBeat_80 : decode cX6_dropBeat 80 = .ok (.iastore, 1) := by decide +kernel
theorem dX6_dropBeat_81 : decode cX6_dropBeat 81 = .ok (.aload_n 0, 1) := by decide +kernel
theorem dX6_dropBeat_82 : decode cX6_dropBeat 82 = .ok (.invokestatic 223, 3) := by decide +kernel
theorem dX6_dropBeat_85 : decode cX6_dropBeat 85 = .ok (.return_, 1) := by decide +kernel
theorem dX6_removeBeat_0 : decode cX6_removeBeat 0 = .ok (.aload_n 0, 1) := by decide +kernel
theorem dX6_removeBeat_1 : decode cX6_removeBeat 1 = .ok (.aload_n 0, 1) := by decide +kernel
theorem dX6_removeBeat_2 : decode cX6_removeBeat 2 = .ok (.getfield 16, 3) := by decide +kernel
theorem dX6_removeBeat_5 : decode cX6_removeBeat 5 = .ok (.iload_n 1, 1) := by decide +kernel
theorem dX6_removeBeat_6 : decode cX6_removeBeat 6 = .ok (.invokestatic 211, 3) := by decide +kernel
theorem dX6_removeBeat_9 : decode cX6_removeBeat 9 = .ok (.ifCond .ne 7, 3) := by decide +kernel
theorem dX6_removeBeat_12 : decode cX6_removeBeat 12 = .ok (.iconst 1, 1) := by decide +kernel
theorem dX6_removeBeat_13 : decode cX6_removeBeat 13 = .ok (.goto 19, 3) := by decide +kernel
theorem dX6_removeBeat_16 : decode cX6_removeBeat 16 = .ok (.aload_n 0, 1) := by decide +kernel
theorem dX6_removeBeat_17 : decode cX6_removeBeat 17 = .ok (.getfield 16, 3) := by decide +kernel
theorem dX6_removeBeat_20 : decode cX6_removeBeat 20 = .ok (.bipush 7, 2) := by decide +kernel
theorem dX6_removeBeat_22 : decode cX6_removeBeat 22 = .ok (.iaload, 1) := by decide +kernel
theorem dX6_removeBeat_23 : decode cX6_removeBeat 23 = .ok (.iconst 1, 1) := by decide +kernel
theorem dX6_removeBeat_24 : decode cX6_removeBeat 24 = .ok (.if_icmp .ne 7, 3) := by decide +kernel
theorem dX6_removeBeat_27 : decode cX6_removeBeat 27 = .ok (.iconst 2, 1) := by decide +kernel
theorem dX6_removeBeat_28 : decode cX6_removeBeat 28 = .ok (.goto 4, 3) := by decide +kernel
theorem dX6_removeBeat_31 : decode cX6_removeBeat 31 = .ok (.iconst 0, 1) := by decide +kernel
theorem dX6_removeBeat_32 : decode cX6_removeBeat 32 = .ok (.invokevirtual 169, 3) := by decide +kernel
theorem dX6_removeBeat_35 : decode cX6_removeBeat 35 = .ok (.ifCond .eq 5, 3) := by decide +kernel
theorem dX6_removeBeat_38 : decode cX6_removeBeat 38 = .ok (.iconst 0, 1) := by decide +kernel
theorem dX6_removeBeat_39 : decode cX6_removeBeat 39 = .ok (.ireturn, 1) := by decide +kernel
theorem dX6_removeBeat_40 : decode cX6_removeBeat 40 = .ok (.aload_n 0, 1) := by decide +kernel
theorem dX6_removeBeat_41 : decode cX6_removeBeat 41 = .ok (.invokevirtual 220, 3) := by decide +kernel
theorem dX6_removeBeat_44 : decode cX6_removeBeat 44 = .ok (.aload_n 0, 1) := by decide +kernel
theorem dX6_removeBeat_45 : decode cX6_removeBeat 45 = .ok (.getfield 16, 3) := by decide +kernel
theorem dX6_removeBeat_48 : decode cX6_removeBeat 48 = .ok (.iload_n 1, 1) := by decide +kernel
theorem dX6_removeBeat_49 : decode cX6_removeBeat 49 = .ok (.invokestatic 247, 3) := by decide +kernel
theorem dX6_removeBeat_52 : decode cX6_removeBeat 52 = .ok (.aload_n 0, 1) := by decide +kernel
theorem dX6_removeBeat_53 : decode cX6_removeBeat 53 = .ok (.getfield 16, 3) := by decide +kernel
theorem dX6_removeBeat_56 : decode cX6_removeBeat 56 = .ok (.bipush 7, 2) := by decide +kernel
theorem dX6_removeBeat_58 : decode cX6_removeBeat 58 = .ok (.iaload, 1) := by decide +kernel
theorem dX6_removeBeat_59 : decode cX6_removeBeat 59 = .ok (.ireturn, 1) := by decide +kernel
theorem dX6_undo_0 : decode cX6_undo 0 = .ok (.aload_n 0, 1) := by decide +kernel
theorem dX6_undo_1 : decode cX6_undo 1 = .ok (.aload_n 0, 1) := by decide +kernel
theorem dX6_undo_2 : decode cX6_undo 2 = .ok (.getfield 196, 3) := by decide +kernel
theorem dX6_undo_5 : decode cX6_undo 5 = .ok (.ifCond .ne 7, 3) := by decide +kernel
theorem dX6_undo_8 : decode cX6_undo 8 = .ok (.iconst 1, 1) := by decide +kernel
theorem dX6_undo_9 : decode cX6_undo 9 = .ok (.goto 4, 3) := by decide +kernel
theorem dX6_undo_12 : decode cX6_undo 12 = .ok (.iconst 0, 1) := by decide +kernel
theorem dX6_undo_13 : decode cX6_undo 13 = .ok (.invokevirtual 169, 3) := by decide +kernel
theorem dX6_undo_16 : decode cX6_undo 16 = .ok (.ifCond .eq 5, 3) := by decide +kernel
theorem dX6_undo_19 : decode cX6_undo 19 = .ok (.iconst 0, 1) := by decide +kernel
theorem dX6_undo_20 : decode cX6_undo 20 = .ok (.ireturn, 1) := by decide +kernel
theorem dX6_undo_21 : decode cX6_undo 21 = .ok (.aload_n 0, 1) := by decide +kernel
theorem dX6_undo_22 : decode cX6_undo 22 = .ok (.dup, 1) := by decide +kernel
theorem dX6_undo_23 : decode cX6_undo 23 = .ok (.getfield 196, 3) := by decide +kernel
theorem dX6_undo_26 : decode cX6_undo 26 = .ok (.iconst 1, 1) := by decide +kernel
theorem dX6_undo_27 : decode cX6_undo 27 = .ok (.isub, 1) := by decide +kernel
theorem dX6_undo_28 : decode cX6_undo 28 = .ok (.putfield 196, 3) := by decide +kernel
theorem dX6_undo_31 : decode cX6_undo 31 = .ok (.aload_n 0, 1) := by decide +kernel
theorem dX6_undo_32 : decode cX6_undo 32 = .ok (.getfield 25, 3) := by decide +kernel
theorem dX6_undo_35 : decode cX6_undo 35 = .ok (.bipush 72, 2) := by decide +kernel
theorem dX6_undo_37 : decode cX6_undo 37 = .ok (.aload_n 0, 1) := by decide +kernel
theorem dX6_undo_38 : decode cX6_undo 38 = .ok (.getfield 196, 3) := by decide +kernel
theorem dX6_undo_41 : decode cX6_undo 41 = .ok (.imul, 1) := by decide +kernel
theorem dX6_undo_42 : decode cX6_undo 42 = .ok (.aload_n 0, 1) := by decide +kernel
theorem dX6_undo_43 : decode cX6_undo 43 = .ok (.getfield 16, 3) := by decide +kernel
theorem dX6_undo_46 : decode cX6_undo 46 = .ok (.iconst 0, 1) := by decide +kernel
theorem dX6_undo_47 : decode cX6_undo 47 = .ok (.invokestatic 192, 3) := by decide +kernel
theorem dX6_undo_50 : decode cX6_undo 50 = .ok (.aload_n 0, 1) := by decide +kernel
theorem dX6_undo_51 : decode cX6_undo 51 = .ok (.getfield 196, 3) := by decide +kernel
theorem dX6_undo_54 : decode cX6_undo 54 = .ok (.ireturn, 1) := by decide +kernel
theorem dX6_note_0 : decode cX6_note 0 = .ok (.aload_n 0, 1) := by decide +kernel
theorem dX6_note_1 : decode cX6_note 1 = .ok (.aload_n 0, 1) := by decide +kernel
theorem dX6_note_2 : decode cX6_note 2 = .ok (.getfield 16, 3) := by decide +kernel
theorem dX6_note_5 : decode cX6_note 5 = .ok (.iload_n 1, 1) := by decide +kernel
theorem dX6_note_6 : decode cX6_note 6 = .ok (.iload_n 2, 1) := by decide +kernel
theorem dX6_note_7 : decode cX6_note 7 = .ok (.invokestatic 214, 3) := by decide +kernel
theorem dX6_note_10 : decode cX6_note 10 = .ok (.ifCond .ne 7, 3) := by decide +kernel
theorem dX6_note_13 : decode cX6_note 13 = .ok (.iconst 1, 1) := by decide +kernel
theorem dX6_note_14 : decode cX6_note 14 = .ok (.goto 20, 3) := by decide +kernel
theorem dX6_note_17 : decode cX6_note 17 = .ok (.iload_n 3, 1) := by decide +kernel
theorem dX6_note_18 : decode cX6_note 18 = .ok (.i2l, 1) := by decide +kernel
theorem dX6_note_19 : decode cX6_note 19 = .ok (.lconst 0, 1) := by decide +kernel
theorem dX6_note_20 : decode cX6_note 20 = .ok (.ldc2_w 250, 3) := by decide +kernel
theorem dX6_note_23 : decode cX6_note 23 = .ok (.invokestatic 66, 3) := by decide +kernel
theorem dX6_note_26 : decode cX6_note 26 = .ok (.ifCond .ne 7, 3) := by decide +kernel
theorem dX6_note_29 : decode cX6_note 29 = .ok (.iconst 2, 1) := by decide +kernel
theorem dX6_note_30 : decode cX6_note 30 = .ok (.goto 4, 3) := by decide +kernel
theorem dX6_note_33 : decode cX6_note 33 = .ok (.iconst 0, 1) := by decide +kernel
theorem dX6_note_34 : decode cX6_note 34 = .ok (.invokevirtual 169, 3) := by decide +kernel
theorem dX6_note_37 : decode cX6_note 37 = .ok (.ifCond .eq 5, 3) := by decide +kernel
theorem dX6_note_40 : decode cX6_note 40 = .ok (.iconst 0, 1) := by decide +kernel
theorem dX6_note_41 : decode cX6_note 41 = .ok (.ireturn, 1) := by decide +kernel
theorem dX6_note_42 : decode cX6_note 42 = .ok (.aload_n 0, 1) := by decide +kernel
theorem dX6_note_43 : decode cX6_note 43 = .ok (.aload_n 0, 1) := by decide +kernel
theorem dX6_note_44 : decode cX6_note 44 = .ok (.getfield 16, 3) := by decide +kernel
theorem dX6_note_47 : decode cX6_note 47 = .ok (.invokevirtual 158, 3) := by decide +kernel
theorem dX6_note_50 : decode cX6_note 50 = .ok (.aload_n 0, 1) := by decide +kernel
theorem dX6_note_51 : decode cX6_note 51 = .ok (.getfield 35, 3) := by decide +kernel
theorem dX6_note_54 : decode cX6_note 54 = .ok (.iload_n 1, 1) := by decide +kernel
theorem dX6_note_55 : decode cX6_note 55 = .ok (.iload_n 2, 1) := by decide +kernel
theorem dX6_note_56 : decode cX6_note 56 = .ok (.invokestatic 70, 3) := by decide +kernel
theorem dX6_note_59 : decode cX6_note 59 = .ok (.iaload, 1) := by decide +kernel
theorem dX6_note_60 : decode cX6_note 60 = .ok (.bipush (-9), 2) := by decide +kernel
theorem dX6_note_62 : decode cX6_note 62 = .ok (.if_icmp .ne 6, 3) := by decide +kernel
theorem dX6_note_65 : decode cX6_note 65 = .ok (.bipush (-9), 2) := by decide +kernel
theorem dX6_note_67 : decode cX6_note 67 = .ok (.ireturn, 1) := by decide +kernel
theorem dX6_note_68 : decode cX6_note 68 = .ok (.aload_n 0, 1) := by decide +kernel
theorem dX6_note_69 : decode cX6_note 69 = .ok (.iload_n 1, 1) := by decide +kernel
theorem dX6_note_70 : decode cX6_note 70 = .ok (.iload_n 2, 1) := by decide +kernel
theorem dX6_note_71 : decode cX6_note 71 = .ok (.aload_n 0, 1) := by decide +kernel
theorem dX6_note_72 : decode cX6_note 72 = .ok (.getfield 50, 3) := by decide +kernel
theorem dX6_note_75 : decode cX6_note 75 = .ok (.iload_n 2, 1) := by decide +kernel
theorem dX6_note_76 : decode cX6_note 76 = .ok (.iaload, 1) := by decide +kernel
theorem dX6_note_77 : decode cX6_note 77 = .ok (.invokevirtual 100, 3) := by decide +kernel
theorem dX6_note_80 : decode cX6_note 80 = .ok (.istore 4, 2) := by decide +kernel
theorem dX6_note_82 : decode cX6_note 82 = .ok (.aload_n 0, 1) := by decide +kernel
theorem dX6_note_83 : decode cX6_note 83 = .ok (.aload_n 0, 1) := by decide +kernel
theorem dX6_note_84 : decode cX6_note 84 = .ok (.getfield 16, 3) := by decide +kernel
theorem dX6_note_87 : decode cX6_note 87 = .ok (.iload_n 1, 1) := by decide +kernel
theorem dX6_note_88 : decode cX6_note 88 = .ok (.iload_n 2, 1) := by decide +kernel
theorem dX6_note_89 : decode cX6_note 89 = .ok (.invokevirtual 161, 3) := by decide +kernel
theorem dX6_note_92 : decode cX6_note 92 = .ok (.istore 5, 2) := by decide +kernel
theorem dX6_note_94 : decode cX6_note 94 = .ok (.iload_n 3, 1) := by decide +kernel
theorem dX6_note_95 : decode cX6_note 95 = .ok (.ifCond .ne 8, 3) := by decide +kernel
theorem dX6_note_98 : decode cX6_note 98 = .ok (.iload 4, 2) := by decide +kernel
theorem dX6_note_100 : decode cX6_note 100 = .ok (.goto 74, 3) := by decide +kernel
theorem dX6_note_103 : decode cX6_note 103 = .ok (.iload_n 3, 1) := by decide +kernel
theorem dX6_note_104 : decode cX6_note 104 = .ok (.iconst 1, 1) := by decide +kernel
theorem dX6_note_105 : decode cX6_note 105 = .ok (.if_icmp .ne 16, 3) := by decide +kernel
theorem dX6_note_108 : decode cX6_note 108 = .ok (.aload_n 0, 1) := by decide +kernel
theorem dX6_note_109 : decode cX6_note 109 = .ok (.getfield 38, 3) := by decide +kernel
theorem dX6_note_112 : decode cX6_note 112 = .ok (.iload_n 1, 1) := by decide +kernel
theorem dX6_note_113 : decode cX6_note 113 = .ok (.iload_n 2, 1) := by decide +kernel
theorem dX6_note_114 : decode cX6_note 114 = .ok (.invokestatic 70, 3) := by decide +kernel
theorem dX6_note_117 : decode cX6_note 117 = .ok (.iaload, 1) := by decide +kernel
theorem dX6_note_118 : decode cX6_note 118 = .ok (.goto 56, 3) := by decide +kernel
theorem dX6_note_121 : decode cX6_note 121 = .ok (.iload_n 3, 1) := by decide +kernel
theorem dX6_note_122 : decode cX6_note 122 = .ok (.iconst 3, 1) := by decide +kernel
theorem dX6_note_123 : decode cX6_note 123 = .ok (.if_icmp .ne 16, 3) := by decide +kernel
theorem dX6_note_126 : decode cX6_note 126 = .ok (.iload 5, 2) := by decide +kernel
theorem dX6_note_128 : decode cX6_note 128 = .ok (.ifCond .eq 7, 3) := by decide +kernel
theorem dX6_note_131 : decode cX6_note 131 = .ok (.iconst 1, 1) := by decide +kernel
theorem dX6_note_132 : decode cX6_note 132 = .ok (.goto 42, 3) := by decide +kernel
theorem dX6_note_135 : decode cX6_note 135 = .ok (.iconst 0, 1) := by decide +kernel
theorem dX6_note_136 : decode cX6_note 136 = .ok (.goto 38, 3) := by decide +kernel
theorem dX6_note_139 : decode cX6_note 139 = .ok (.iload 4, 2) := by decide +kernel
theorem dX6_note_141 : decode cX6_note 141 = .ok (.bipush (-9), 2) := by decide +kernel
theorem dX6_note_143 : decode cX6_note 143 = .ok (.if_icmp .ne 8, 3) := by decide +kernel
theorem dX6_note_146 : decode cX6_note 146 = .ok (.bipush (-9), 2) := by decide +kernel
theorem dX6_note_148 : decode cX6_note 148 = .ok (.goto 26, 3) := by decide +kernel
theorem dX6_note_151 : decode cX6_note 151 = .ok (.iload 5, 2) := by decide +kernel
theorem dX6_note_153 : decode cX6_note 153 = .ok (.ifCond .ne 16, 3) := by decide +kernel
theorem dX6_note_156 : decode cX6_note 156 = .ok (.aload_n 0, 1) := by decide +kernel
theorem dX6_note_157 : decode cX6_note 157 = .ok (.aload_n 0, 1) := by decide +kernel
theorem dX6_note_158 : decode cX6_note 158 = .ok (.getfield 16, 3) := by decide +kernel
theorem dX6_note_161 : decode cX6_note 161 = .ok (.iload_n 1, 1) := by decide +kernel
theorem dX6_note_162 : decode cX6_note 162 = .ok (.iload_n 2, 1) := by decide +kernel
theorem dX6_note_163 : decode cX6_note 163 = .ok (.invokevirtual 74, 3) := by decide +kernel
theorem dX6_note_166 : decode cX6_note 166 = .ok (.ifCond .ne 7, 3) := by decide +kernel
theorem dX6_note_169 : decode cX6_note 169 = .ok (.iconst 1, 1) := by decide +kernel
theorem dX6_note_170 : decode cX6_note 170 = .ok (.goto 4, 3) := by decide +kernel
theorem dX6_note_173 : decode cX6_note 173 = .ok (.iconst 0, 1) := by decide +kernel
theorem dX6_note_174 : decode cX6_note 174 = .ok (.ireturn, 1) := by decide +kernel
theorem dX6_hand_0 : decode cX6_hand 0 = .ok (.aload_n 0, 1) := by decide +kernel
theorem dX6_hand_1 : decode cX6_hand 1 = .ok (.iload_n 1, 1) := by decide +kernel
theorem dX6_hand_2 : decode cX6_hand 2 = .ok (.i2l, 1) := by decide +kernel
theorem dX6_hand_3 : decode cX6_hand 3 = .ok (.lconst 0, 1) := by decide +kernel
theorem dX6_hand_4 : decode cX6_hand 4 = .ok (.lconst 1, 1) := by decide +kernel
theorem dX6_hand_5 : decode cX6_hand 5 = .ok (.invokestatic 66, 3) := by decide +kernel
theorem dX6_hand_8 : decode cX6_hand 8 = .ok (.ifCond .eq 14, 3) := by decide +kernel
theorem dX6_hand_11 : decode cX6_hand 11 = .ok (.aload_n 0, 1) := by decide +kernel
theorem dX6_hand_12 : decode cX6_hand 12 = .ok (.getfield 16, 3) := by decide +kernel
theorem dX6_hand_15 : decode cX6_hand 15 = .ok (.iload_n 2, 1) := by decide +kernel
theorem dX6_hand_16 : decode cX6_hand 16 = .ok (.invokestatic 211, 3) := by decide +kernel
theorem dX6_hand_19 : decode cX6_hand 19 = .ok (.ifCond .ne 7, 3) := by decide +kernel
theorem dX6_hand_22 : decode cX6_hand 22 = .ok (.iconst 1, 1) := by decide +kernel
theorem dX6_hand_23 : decode cX6_hand 23 = .ok (.goto 20, 3) := by decide +kernel
theorem dX6_hand_26 : decode cX6_hand 26 = .ok (.iload_n 3, 1) := by decide +kernel
theorem dX6_hand_27 : decode cX6_hand 27 = .ok (.i2l, 1) := by decide +kernel
theorem dX6_hand_28 : decode cX6_hand 28 = .ok (.lconst 0, 1) := by decide +kernel
theorem dX6_hand_29 : decode cX6_hand 29 = .ok (.ldc2_w 252, 3) := by decide +kernel
theorem dX6_hand_32 : decode cX6_hand 32 = .ok (.invokestatic 66, 3) := by decide +kernel
theorem dX6_hand_35 : decode cX6_hand 35 = .ok (.ifCond .ne 7, 3) := by decide +kernel
theorem dX6_hand_38 : decode cX6_hand 38 = .ok (.iconst 2, 1) := by decide +kernel
theorem dX6_hand_39 : decode cX6_hand 39 = .ok (.goto 4, 3) := by decide +kernel
theorem dX6_hand_42 : decode cX6_hand 42 = .ok (.iconst 0, 1) := by decide +kernel
theorem dX6_hand_43 : decode cX6_hand 43 = .ok (.invokevirtual 169, 3) := by decide +kernel
theorem dX6_hand_46 : decode cX6_hand 46 = .ok (.ifCond .eq 5, 3) := by decide +kernel
theorem dX6_hand_49 : decode cX6_hand 49 = .ok (.iconst 0, 1) := by decide +kernel
theorem dX6_hand_50 : decode cX6_hand 50 = .ok (.ireturn, 1) := by decide +kernel
theorem dX6_hand_51 : decode cX6_hand 51 = .ok (.aload_n 0, 1) := by decide +kernel
theorem dX6_hand_52 : decode cX6_hand 52 = .ok (.aload_n 0, 1) := by decide +kernel
theorem dX6_hand_53 : decode cX6_hand 53 = .ok (.getfield 16, 3) := by decide +kernel
theorem dX6_hand_56 : decode cX6_hand 56 = .ok (.invokevirtual 158, 3) := by decide +kernel
theorem dX6_hand_59 : decode cX6_hand 59 = .ok (.aload_n 0, 1) := by decide +kernel
theorem dX6_hand_60 : decode cX6_hand 60 = .ok (.getfield 50, 3) := by decide +kernel
theorem dX6_hand_63 : decode cX6_hand 63 = .ok (.iload_n 2, 1) := by decide +kernel
theorem dX6_hand_64 : decode cX6_hand 64 = .ok (.iaload, 1) := by decide +kernel
theorem dX6_hand_65 : decode cX6_hand 65 = .ok (.istore 4, 2) := by decide +kernel
theorem dX6_hand_67 : decode cX6_hand 67 = .ok (.iload_n 3, 1) := by decide +kernel
theorem dX6_hand_68 : decode cX6_hand 68 = .ok (.tableswitch 100 0 3 #[32, 49, 58, 79], 32) := by decide +kernel
theorem dX6_hand_100 : decode cX6_hand 100 = .ok (.aload_n 0, 1) := by decide +kernel
theorem dX6_hand_101 : decode cX6_hand 101 = .ok (.iload_n 1, 1) := by decide +kernel
theorem dX6_hand_102 : decode cX6_hand 102 = .ok (.iload_n 2, 1) := by decide +kernel
theorem dX6_hand_103 : decode cX6_hand 103 = .ok (.iload 4, 2) := by decide +kernel
theorem dX6_hand_105 : decode cX6_hand 105 = .ok (.invokevirtual 103, 3) := by decide +kernel
theorem dX6_hand_108 : decode cX6_hand 108 = .ok (.aload_n 0, 1) := by decide +kernel
theorem dX6_hand_109 : decode cX6_hand 109 = .ok (.iload_n 1, 1) := by decide +kernel
theorem dX6_hand_110 : decode cX6_hand 110 = .ok (.iload 4, 2) := by decide +kernel
theorem dX6_hand_112 : decode cX6_hand 112 = .ok (.invokevirtual 106, 3) := by decide +kernel
theorem dX6_hand_115 : decode cX6_hand 115 = .ok (.isub, 1) := by decide +kernel
theorem dX6_hand_116 : decode cX6_hand 116 = .ok (.ireturn, 1) := by decide +kernel
theorem dX6_hand_117 : decode cX6_hand 117 = .ok (.aload_n 0, 1) := by decide +kernel
theorem dX6_hand_118 : decode cX6_hand 118 = .ok (.iload_n 1, 1) := by decide +kernel
theorem dX6_hand_119 : decode cX6_hand 119 = .ok (.iload_n 2, 1) := by decide +kernel
theorem dX6_hand_120 : decode cX6_hand 120 = .ok (.iload 4, 2) := by decide +kernel
theorem dX6_hand_122 : decode cX6_hand 122 = .ok (.invokevirtual 109, 3) := by decide +kernel
theorem dX6_hand_125 : decode cX6_hand 125 = .ok (.ireturn, 1) := by decide +kernel
theorem dX6_hand_126 : decode cX6_hand 126 = .ok (.aload_n 0, 1) := by decide +kernel
theorem dX6_hand_127 : decode cX6_hand 127 = .ok (.iload_n 2, 1) := by decide +kernel
theorem dX6_hand_128 : decode cX6_hand 128 = .ok (.aload_n 0, 1) := by decide +kernel
theorem dX6_hand_129 : decode cX6_hand 129 = .ok (.iload_n 1, 1) := by decide +kernel
theorem dX6_hand_130 : decode cX6_hand 130 = .ok (.iload 4, 2) := by decide +kernel
theorem dX6_hand_132 : decode cX6_hand 132 = .ok (.invokevirtual 106, 3) := by decide +kernel
theorem dX6_hand_135 : decode cX6_hand 135 = .ok (.aload_n 0, 1) := by decide +kernel
theorem dX6_hand_136 : decode cX6_hand 136 = .ok (.iload_n 1, 1) := by decide +kernel
theorem dX6_hand_137 : decode cX6_hand 137 = .ok (.iload_n 2, 1) := by decide +kernel
theorem dX6_hand_138 : decode cX6_hand 138 = .ok (.iload 4, 2) := by decide +kernel
theorem dX6_hand_140 : decode cX6_hand 140 = .ok (.invokevirtual 103, 3) := by decide +kernel
theorem dX6_hand_143 : decode cX6_hand 143 = .ok (.invokevirtual 89, 3) := by decide +kernel
theorem dX6_hand_146 : decode cX6_hand 146 = .ok (.ireturn, 1) := by decide +kernel
theorem dX6_hand_147 : decode cX6_hand 147 = .ok (.aload_n 0, 1) := by decide +kernel
theorem dX6_hand_148 : decode cX6_hand 148 = .ok (.aload_n 0, 1) := by decide +kernel
theorem dX6_hand_149 : decode cX6_hand 149 = .ok (.getfield 16, 3) := by decide +kernel
theorem dX6_hand_152 : decode cX6_hand 152 = .ok (.iload_n 1, 1) := by decide +kernel
theorem dX6_hand_153 : decode cX6_hand 153 = .ok (.iload_n 2, 1) := by decide +kernel
theorem dX6_hand_154 : decode cX6_hand 154 = .ok (.iload 4, 2) := by decide +kernel
theorem dX6_hand_156 : decode cX6_hand 156 = .ok (.invokevirtual 116, 3) := by decide +kernel
theorem dX6_hand_159 : decode cX6_hand 159 = .ok (.ifCond .eq 7, 3) := by decide +kernel
theorem dX6_hand_162 : decode cX6_hand 162 = .ok (.iconst 1, 1) := by decide +kernel
theorem dX6_hand_163 : decode cX6_hand 163 = .ok (.goto 4, 3) := by decide +kernel
theorem dX6_hand_166 : decode cX6_hand 166 = .ok (.iconst 0, 1) := by decide +kernel
theorem dX6_hand_167 : decode cX6_hand 167 = .ok (.ireturn, 1) := by decide +kernel
theorem dX6_hand_168 : decode cX6_hand 168 = .ok (.aload_n 0, 1) := by decide +kernel
theorem dX6_hand_169 : decode cX6_hand 169 = .ok (.iload_n 1, 1) := by decide +kernel
theorem dX6_hand_170 : decode cX6_hand 170 = .ok (.iload_n 2, 1) := by decide +kernel
theorem dX6_hand_171 : decode cX6_hand 171 = .ok (.aload_n 0, 1) := by decide +kernel
theorem dX6_hand_172 : decode cX6_hand 172 = .ok (.iload_n 2, 1) := by decide +kernel
theorem dX6_hand_173 : decode cX6_hand 173 = .ok (.invokevirtual 154, 3) := by decide +kernel
theorem dX6_hand_176 : decode cX6_hand 176 = .ok (.iload 4, 2) := by decide +kernel
theorem dX6_hand_178 : decode cX6_hand 178 = .ok (.invokevirtual 112, 3) := by decide +kernel
theorem dX6_hand_181 : decode cX6_hand 181 = .ok (.ireturn, 1) := by decide +kernel
theorem dX6_beat_0 : decode cX6_beat 0 = .ok (.aload_n 0, 1) := by decide +kernel
theorem dX6_beat_1 : decode cX6_beat 1 = .ok (.aload_n 0, 1) := by decide +kernel
theorem dX6_beat_2 : decode cX6_beat 2 = .ok (.getfield 16, 3) := by decide +kernel
theorem dX6_beat_5 : decode cX6_beat 5 = .ok (.iload_n 1, 1) := by decide +kernel
theorem dX6_beat_6 : decode cX6_beat 6 = .ok (.invokestatic 211, 3) := by decide +kernel
theorem dX6_beat_9 : decode cX6_beat 9 = .ok (.ifCond .ne 7, 3) := by decide +kernel
theorem dX6_beat_12 : decode cX6_beat 12 = .ok (.iconst 1, 1) := by decide +kernel
theorem dX6_beat_13 : decode cX6_beat 13 = .ok (.goto 20, 3) := by decide +kernel
theorem dX6_beat_16 : decode cX6_beat 16 = .ok (.iload_n 2, 1) := by decide +kernel
theorem dX6_beat_17 : decode cX6_beat 17 = .ok (.i2l, 1) := by decide +kernel
theorem dX6_beat_18 : decode cX6_beat 18 = .ok (.lconst 0, 1) := by decide +kernel
theorem dX6_beat_19 : decode cX6_beat 19 = .ok (.ldc2_w 252, 3) := by decide +kernel
theorem dX6_beat_22 : decode cX6_beat 22 = .ok (.invokestatic 66, 3) := by decide +kernel
theorem dX6_beat_25 : decode cX6_beat 25 = .ok (.ifCond .ne 7, 3) := by decide +kernel
theorem dX6_beat_28 : decode cX6_beat 28 = .ok (.iconst 2, 1) := by decide +kernel
theorem dX6_beat_29 : decode cX6_beat 29 = .ok (.goto 4, 3) := by decide +kernel
theorem dX6_beat_32 : decode cX6_beat 32 = .ok (.iconst 0, 1) := by decide +kernel
theorem dX6_beat_33 : decode cX6_beat 33 = .ok (.invokevirtual 169, 3) := by decide +kernel
theorem dX6_beat_36 : decode cX6_beat 36 = .ok (.ifCond .eq 5, 3) := by decide +kernel
theorem dX6_beat_39 : decode cX6_beat 39 = .ok (.iconst 0, 1) := by decide +kernel
theorem dX6_beat_40 : decode cX6_beat 40 = .ok (.ireturn, 1) := by decide +kernel
theorem dX6_beat_41 : decode cX6_beat 41 = .ok (.aload_n 0, 1) := by decide +kernel
theorem dX6_beat_42 : decode cX6_beat 42 = .ok (.aload_n 0, 1) := by decide +kernel
theorem dX6_beat_43 : decode cX6_beat 43 = .ok (.getfield 16, 3) := by decide +kernel
theorem dX6_beat_46 : decode cX6_beat 46 = .ok (.invokevirtual 158, 3) := by decide +kernel
theorem dX6_beat_49 : decode cX6_beat 49 = .ok (.iconst 0, 1) := by decide +kernel
theorem dX6_beat_50 : decode cX6_beat 50 = .ok (.istore_n 3, 1) := by decide +kernel
theorem dX6_beat_51 : decode cX6_beat 51 = .ok (.iconst 0, 1) := by decide +kernel
theorem dX6_beat_52 : decode cX6_beat 52 = .ok (.istore 4, 2) := by decide +kernel
theorem dX6_beat_54 : decode cX6_beat 54 = .ok (.iload 4, 2) := by decide +kernel
theorem dX6_beat_56 : decode cX6_beat 56 = .ok (.aload_n 0, 1) := by decide +kernel
theorem dX6_beat_57 : decode cX6_beat 57 = .ok (.getfield 44, 3) := by decide +kernel
theorem dX6_beat_60 : decode cX6_beat 60 = .ok (.iload_n 1, 1) := by decide +kernel
theorem dX6_beat_61 : decode cX6_beat 61 = .ok (.iaload, 1) := by decide +kernel
theorem dX6_beat_62 : decode cX6_beat 62 = .ok (.if_icmp .gt 27, 3) := by decide +kernel
theorem dX6_beat_65 : decode cX6_beat 65 = .ok (.iload_n 3, 1) := by decide +kernel
theorem dX6_beat_66 : decode cX6_beat 66 = .ok (.aload_n 0, 1) := by decide +kernel
theorem dX6_beat_67 : decode cX6_beat 67 = .ok (.iload_n 1, 1) := by decide +kernel
theorem dX6_beat_68 : decode cX6_beat 68 = .ok (.iload 4, 2) := by decide +kernel
theorem dX6_beat_70 : decode cX6_beat 70 = .ok (.invokevirtual 123, 3) := by decide +kernel
theorem dX6_beat_73 : decode cX6_beat 73 = .ok (.ifCond .eq 7, 3) := by decide +kernel
theorem dX6_beat_76 : decode cX6_beat 76 = .ok (.iconst 1, 1) := by decide +kernel
theorem dX6_beat_77 : decode cX6_beat 77 = .ok (.goto 4, 3) := by decide +kernel
theorem dX6_beat_80 : decode cX6_beat 80 = .ok (.iconst 0, 1) := by decide +kernel
theorem dX6_beat_81 : decode cX6_beat 81 = .ok (.iadd, 1) := by decide +kernel
theorem dX6_beat_82 : decode cX6_beat 82 = .ok (.istore_n 3, 1) := by decide +kernel
theorem dX6_beat_83 : decode cX6_beat 83 = .ok (.iinc 4 1, 3) := by decide +kernel
theorem dX6_beat_86 : decode cX6_beat 86 = .ok (.goto (-32), 3) := by decide +kernel
theorem dX6_beat_89 : decode cX6_beat 89 = .ok (.iload_n 2, 1) := by decide +kernel
theorem dX6_beat_90 : decode cX6_beat 90 = .ok (.ifCond .ne 12, 3) := by decide +kernel
theorem dX6_beat_93 : decode cX6_beat 93 = .ok (.aload_n 0, 1) := by decide +kernel
theorem dX6_beat_94 : decode cX6_beat 94 = .ok (.getfield 50, 3) := by decide +kernel
theorem dX6_beat_97 : decode cX6_beat 97 = .ok (.iload_n 1, 1) := by decide +kernel
theorem dX6_beat_98 : decode cX6_beat 98 = .ok (.iaload, 1) := by decide +kernel
theorem dX6_beat_99 : decode cX6_beat 99 = .ok (.goto 60, 3) := by decide +kernel
theorem dX6_beat_102 : decode cX6_beat 102 = .ok (.iload_n 2, 1) := by decide +kernel
theorem dX6_beat_103 : decode cX6_beat 103 = .ok (.iconst 1, 1) := by decide +kernel
theorem dX6_beat_104 : decode cX6_beat 104 = .ok (.if_icmp .ne 7, 3) := by decide +kernel
theorem dX6_beat_107 : decode cX6_beat 107 = .ok (.iload_n 3, 1) := by decide +kernel
theorem dX6_beat_108 : decode cX6_beat 108 = .ok (.goto 51, 3) := by decide +kernel
theorem dX6_beat_111 : decode cX6_beat 111 = .ok (.iload_n 2, 1) := by decide +kernel
theorem dX6_beat_112 : decode cX6_beat 112 = .ok (.iconst 2, 1) := by decide +kernel
theorem dX6_beat_113 : decode cX6_beat 113 = .ok (.if_icmp .ne 26, 3) := by decide +kernel
theorem dX6_beat_116 : decode cX6_beat 116 = .ok (.aload_n 0, 1) := by decide +kernel
theorem dX6_beat_117 : decode cX6_beat 117 = .ok (.aload_n 0, 1) := by decide +kernel
theorem dX6_beat_118 : decode cX6_beat 118 = .ok (.getfield 16, 3) := by decide +kernel
theorem dX6_beat_121 : decode cX6_beat 121 = .ok (.iload_n 1, 1) := by decide +kernel
theorem dX6_beat_122 : decode cX6_beat 122 = .ok (.aload_n 0, 1) := by decide +kernel
theorem dX6_beat_123 : decode cX6_beat 123 = .ok (.iload_n 1, 1) := by decide +kernel
theorem dX6_beat_124 : decode cX6_beat 124 = .ok (.invokevirtual 154, 3) := by decide +kernel
theorem dX6_beat_127 : decode cX6_beat 127 = .ok (.aload_n 0, 1) := by decide +kernel
theorem dX6_beat_128 : decode cX6_beat 128 = .ok (.getfield 50, 3) := by decide +kernel
theorem dX6_beat_131 : decode cX6_beat 131 = .ok (.iload_n 1, 1) := by decide +kernel
theorem dX6_beat_132 : decode cX6_beat 132 = .ok (.iaload, 1) := by decide +kernel
theorem dX6_beat_133 : decode cX6_beat 133 = .ok (.invokevirtual 127, 3) := by decide +kernel
theorem dX6_beat_136 : decode cX6_beat 136 = .ok (.goto 23, 3) := by decide +kernel
theorem dX6_beat_139 : decode cX6_beat 139 = .ok (.iload_n 2, 1) := by decide +kernel
theorem dX6_beat_140 : decode cX6_beat 140 = .ok (.iconst 3, 1) := by decide +kernel
theorem dX6_beat_141 : decode cX6_beat 141 = .ok (.if_icmp .ne 12, 3) := by decide +kernel
theorem dX6_beat_144 : decode cX6_beat 144 = .ok (.aload_n 0, 1) := by decide +kernel
theorem dX6_beat_145 : decode cX6_beat 145 = .ok (.getfield 44, 3) := by decide +kernel
theorem dX6_beat_148 : decode cX6_beat 148 = .ok (.iload_n 1, 1) := by decide +kernel
theorem dX6_beat_149 : decode cX6_beat 149 = .ok (.iaload, 1) := by decide +kernel
theorem dX6_beat_150 : decode cX6_beat 150 = .ok (.goto 9, 3) := by decide +kernel
theorem dX6_beat_153 : decode cX6_beat 153 = .ok (.aload_n 0, 1) := by decide +kernel
theorem dX6_beat_154 : decode cX6_beat 154 = .ok (.getfield 47, 3) := by decide +kernel
theorem dX6_beat_157 : decode cX6_beat 157 = .ok (.iload_n 1, 1) := by decide +kernel
theorem dX6_beat_158 : decode cX6_beat 158 = .ok (.iaload, 1) := by decide +kernel
theorem dX6_beat_159 : decode cX6_beat 159 = .ok (.ireturn, 1) := by decide +kernel
theorem dX6_whole_0 : decode cX6_whole 0 = .ok (.aload_n 0, 1) := by decide +kernel
theorem dX6_whole_1 : decode cX6_whole 1 = .ok (.iload_n 1, 1) := by decide +kernel
theorem dX6_whole_2 : decode cX6_whole 2 = .ok (.i2l, 1) := by decide +kernel
theorem dX6_whole_3 : decode cX6_whole 3 = .ok (.lconst 0, 1) := by decide +kernel
theorem dX6_whole_4 : decode cX6_whole 4 = .ok (.ldc2_w 254, 3) := by decide +kernel
theorem dX6_whole_7 : decode cX6_whole 7 = .ok (.invokestatic 66, 3) := by decide +kernel
theorem dX6_whole_10 : decode cX6_whole 10 = .ok (.ifCond .eq 7, 3) := by decide +kernel
theorem dX6_whole_13 : decode cX6_whole 13 = .ok (.iconst 0, 1) := by decide +kernel
theorem dX6_whole_14 : decode cX6_whole 14 = .ok (.goto 4, 3) := by decide +kernel
theorem dX6_whole_17 : decode cX6_whole 17 = .ok (.iconst 1, 1) := by decide +kernel
theorem dX6_whole_18 : decode cX6_whole 18 = .ok (.invokevirtual 169, 3) := by decide +kernel
theorem dX6_whole_21 : decode cX6_whole 21 = .ok (.ifCond .eq 7, 3) := by decide +kernel
theorem dX6_whole_24 : decode cX6_whole 24 = .ok (.iconst 0, 1) := by decide +kernel
theorem dX6_whole_25 : decode cX6_whole 25 = .ok (.goto 12, 3) := by decide +kernel
theorem dX6_whole_28 : decode cX6_whole 28 = .ok (.aload_n 0, 1) := by decide +kernel
theorem dX6_whole_29 : decode cX6_whole 29 = .ok (.aload_n 0, 1) := by decide +kernel
theorem dX6_whole_30 : decode cX6_whole 30 = .ok (.getfield 16, 3) := by decide +kernel
theorem dX6_whole_33 : decode cX6_whole 33 = .ok (.iload_n 1, 1) := by decide +kernel
theorem dX6_whole_34 : decode cX6_whole 34 = .ok (.invokevirtual 256, 3) := by decide +kernel
theorem dX6_whole_37 : decode cX6_whole 37 = .ok (.ireturn, 1) := by decide +kernel
theorem dX6_whatIf_0 : decode cX6_whatIf 0 = .ok (.aload_n 0, 1) := by decide +kernel
theorem dX6_whatIf_1 : decode cX6_whatIf 1 = .ok (.iload_n 1, 1) := by decide +kernel
theorem dX6_whatIf_2 : decode cX6_whatIf 2 = .ok (.iload_n 2, 1) := by decide +kernel
theorem dX6_whatIf_3 : decode cX6_whatIf 3 = .ok (.invokestatic 217, 3) := by decide +kernel
theorem dX6_whatIf_6 : decode cX6_whatIf 6 = .ok (.ifCond .eq 19, 3) := by decide +kernel
theorem dX6_whatIf_9 : decode cX6_whatIf 9 = .ok (.iload_n 3, 1) := by decide +kernel
theorem dX6_whatIf_10 : decode cX6_whatIf 10 = .ok (.i2l, 1) := by decide +kernel
theorem dX6_whatIf_11 : decode cX6_whatIf 11 = .ok (.lconst 0, 1) := by decide +kernel
theorem dX6_whatIf_12 : decode cX6_whatIf 12 = .ok (.ldc2_w 254, 3) := by decide +kernel
theorem dX6_whatIf_15 : decode cX6_whatIf 15 = .ok (.invokestatic 66, 3) := by decide +kernel
theorem dX6_whatIf_18 : decode cX6_whatIf 18 = .ok (.ifCond .eq 7, 3) := by decide +kernel
theorem dX6_whatIf_21 : decode cX6_whatIf 21 = .ok (.iconst 0, 1) := by decide +kernel
theorem dX6_whatIf_22 : decode cX6_whatIf 22 = .ok (.goto 4, 3) := by decide +kernel
theorem dX6_whatIf_25 : decode cX6_whatIf 25 = .ok (.iconst 1, 1) := by decide +kernel
theorem dX6_whatIf_26 : decode cX6_whatIf 26 = .ok (.invokevirtual 169, 3) := by decide +kernel
theorem dX6_whatIf_29 : decode cX6_whatIf 29 = .ok (.ifCond .eq 5, 3) := by decide +kernel
theorem dX6_whatIf_32 : decode cX6_whatIf 32 = .ok (.iconst 0, 1) := by decide +kernel
theorem dX6_whatIf_33 : decode cX6_whatIf 33 = .ok (.ireturn, 1) := by decide +kernel
theorem dX6_whatIf_34 : decode cX6_whatIf 34 = .ok (.aload_n 0, 1) := by decide +kernel
theorem dX6_whatIf_35 : decode cX6_whatIf 35 = .ok (.getfield 16, 3) := by decide +kernel
theorem dX6_whatIf_38 : decode cX6_whatIf 38 = .ok (.iconst 0, 1) := by decide +kernel
theorem dX6_whatIf_39 : decode cX6_whatIf 39 = .ok (.aload_n 0, 1) := by decide +kernel
theorem dX6_whatIf_40 : decode cX6_whatIf 40 = .ok (.getfield 22, 3) := by decide +kernel
theorem dX6_whatIf_43 : decode cX6_whatIf 43 = .ok (.iconst 0, 1) := by decide +kernel
theorem dX6_whatIf_44 : decode cX6_whatIf 44 = .ok (.invokestatic 192, 3) := by decide +kernel
theorem dX6_whatIf_47 : decode cX6_whatIf 47 = .ok (.aload_n 0, 1) := by decide +kernel
theorem dX6_whatIf_48 : decode cX6_whatIf 48 = .ok (.getfield 22, 3) := by decide +kernel
theorem dX6_whatIf_51 : decode cX6_whatIf 51 = .ok (.iload_n 1, 1) := by decide +kernel
theorem dX6_whatIf_52 : decode cX6_whatIf 52 = .ok (.iload_n 2, 1) := by decide +kernel
theorem dX6_whatIf_53 : decode cX6_whatIf 53 = .ok (.iastore, 1) := by decide +kernel
theorem dX6_whatIf_54 : decode cX6_whatIf 54 = .ok (.aload_n 0, 1) := by decide +kernel
theorem dX6_whatIf_55 : decode cX6_whatIf 55 = .ok (.aload_n 0, 1) := by decide +kernel
theorem dX6_whatIf_56 : decode cX6_whatIf 56 = .ok (.getfield 22, 3) := by decide +kernel
theorem dX6_whatIf_59 : decode cX6_whatIf 59 = .ok (.iload_n 3, 1) := by decide +kernel
theorem dX6_whatIf_60 : decode cX6_whatIf 60 = .ok (.invokevirtual 256, 3) := by decide +kernel
theorem dX6_whatIf_63 : decode cX6_whatIf 63 = .ok (.ireturn, 1) := by decide +kernel
theorem dX6_smallestSpan_0 : decode cX6_smallestSpan 0 = .ok (.aload_n 0, 1) := by decide +kernel
theorem dX6_smallestSpan_1 : decode cX6_smallestSpan 1 = .ok (.iconst 0, 1) := by decide +kernel
theorem dX6_smallestSpan_2 : decode cX6_smallestSpan 2 = .ok (.putfield 60, 3) := by decide +kernel
theorem dX6_smallestSpan_5 : decode cX6_smallestSpan 5 = .ok (.aload_n 0, 1) := by decide +kernel
theorem dX6_smallestSpan_6 : decode cX6_smallestSpan 6 = .ok (.getfield 16, 3) := by decide +kernel
theorem dX6_smallestSpan_9 : decode cX6_smallestSpan 9 = .ok (.iconst 0, 1) := by decide +kernel
theorem dX6_smallestSpan_10 : decode cX6_smallestSpan 10 = .ok (.aload_n 0, 1) := by decide +kernel
theorem dX6_smallestSpan_11 : decode cX6_smallestSpan 11 = .ok (.getfield 22, 3) := by decide +kernel
theorem dX6_smallestSpan_14 : decode cX6_smallestSpan 14 = .ok (.iconst 0, 1) := by decide +kernel
theorem dX6_smallestSpan_15 : decode cX6_smallestSpan 15 = .ok (.invokestatic 192, 3) := by decide +kernel
theorem dX6_smallestSpan_18 : decode cX6_smallestSpan 18 = .ok (.iconst 1, 1) := by decide +kernel
theorem dX6_smallestSpan_19 : decode cX6_smallestSpan 19 = .ok (.istore_n 1, 1) := by decide +kernel
theorem dX6_smallestSpan_20 : decode cX6_smallestSpan 20 = .ok (.iload_n 1, 1) := by decide +kernel
theorem dX6_smallestSpan_21 : decode cX6_smallestSpan 21 = .ok (.bipush 24, 2) := by decide +kernel
theorem dX6_smallestSpan_23 : decode cX6_smallestSpan 23 = .ok (.if_icmp .gt 37, 3) := by decide +kernel
theorem dX6_smallestSpan_26 : decode cX6_smallestSpan 26 = .ok (.aload_n 0, 1) := by decide +kernel
theorem dX6_smallestSpan_27 : decode cX6_smallestSpan 27 = .ok (.getfield 22, 3) := by decide +kernel
theorem dX6_smallestSpan_30 : decode cX6_smallestSpan 30 = .ok (.iconst 0, 1) := by decide +kernel
theorem dX6_smallestSpan_31 : decode cX6_smallestSpan 31 = .ok (.iload_n 1, 1) := by decide +kernel
theorem dX6_smallestSpan_32 : decode cX6_smallestSpan 32 = .ok (.iastore, 1) := by decide +kernel
theorem dX6_smallestSpan_33 : decode cX6_smallestSpan 33 = .ok (.aload_n 0, 1) := by decide +kernel
theorem dX6_smallestSpan_34 : decode cX6_smallestSpan 34 = .ok (.getfield 22, 3) := by decide +kernel
theorem dX6_smallestSpan_37 : decode cX6_smallestSpan 37 = .ok (.iconst 1, 1) := by decide +kernel
theorem dX6_smallestSpan_38 : decode cX6_smallestSpan 38 = .ok (.iload_n 1, 1) := by decide +kernel
theorem dX6_smallestSpan_39 : decode cX6_smallestSpan 39 = .ok (.iastore, 1) := by decide +kernel
theorem dX6_smallestSpan_40 : decode cX6_smallestSpan 40 = .ok (.aload_n 0, 1) := by decide +kernel
theorem dX6_smallestSpan_41 : decode cX6_smallestSpan 41 = .ok (.aload_n 0, 1) := by decide +kernel
theorem dX6_smallestSpan_42 : decode cX6_smallestSpan 42 = .ok (.getfield 22, 3) := by decide +kernel
theorem dX6_smallestSpan_45 : decode cX6_smallestSpan 45 = .ok (.iconst 3, 1) := by decide +kernel
theorem dX6_smallestSpan_46 : decode cX6_smallestSpan 46 = .ok (.invokevirtual 256, 3) := by decide +kernel
theorem dX6_smallestSpan_49 : decode cX6_smallestSpan 49 = .ok (.ifCond .ne 5, 3) := by decide +kernel
theorem dX6_smallestSpan_52 : decode cX6_smallestSpan 52 = .ok (.iload_n 1, 1) := by decide +kernel
theorem dX6_smallestSpan_53 : decode cX6_smallestSpan 53 = .ok (.ireturn, 1) := by decide +kernel
theorem dX6_smallestSpan_54 : decode cX6_smallestSpan 54 = .ok (.iinc 1 1, 3) := by decide +kernel
theorem dX6_smallestSpan_57 : decode cX6_smallestSpan 57 = .ok (.goto (-37), 3) := by decide +kernel
theorem dX6_smallestSpan_60 : decode cX6_smallestSpan 60 = .ok (.bipush (-9), 2) := by decide +kernel
theorem dX6_smallestSpan_62 : decode cX6_smallestSpan 62 = .ok (.ireturn, 1) := by decide +kernel
theorem dX6_dearest_0 : decode cX6_dearest 0 = .ok (.aload_n 0, 1) := by decide +kernel
theorem dX6_dearest_1 : decode cX6_dearest 1 = .ok (.iconst 0, 1) := by decide +kernel
theorem dX6_dearest_2 : decode cX6_dearest 2 = .ok (.putfield 60, 3) := by decide +kernel
theorem dX6_dearest_5 : decode cX6_dearest 5 = .ok (.bipush (-9), 2) := by decide +kernel
theorem dX6_dearest_7 : decode cX6_dearest 7 = .ok (.istore_n 1, 1) := by decide +kernel
theorem dX6_dearest_8 : decode cX6_dearest 8 = .ok (.iconst 0, 1) := by decide +kernel
theorem dX6_dearest_9 : decode cX6_dearest 9 = .ok (.istore_n 2, 1) := by decide +kernel
theorem dX6_dearest_10 : decode cX6_dearest 10 = .ok (.iconst 0, 1) := by decide +kernel
theorem dX6_dearest_11 : decode cX6_dearest 11 = .ok (.istore_n 3, 1) := by decide +kernel
theorem dX6_dearest_12 : decode cX6_dearest 12 = .ok (.iload_n 3, 1) := by decide +kernel
theorem dX6_dearest_13 : decode cX6_dearest 13 = .ok (.aload_n 0, 1) := by decide +kernel
theorem dX6_dearest_14 : decode cX6_dearest 14 = .ok (.getfield 16, 3) := by decide +kernel
theorem dX6_dearest_17 : decode cX6_dearest 17 = .ok (.bipush 6, 2) := by decide +kernel
theorem dX6_dearest_19 : decode cX6_dearest 19 = .ok (.iaload, 1) := by decide +kernel
theorem dX6_dearest_20 : decode cX6_dearest 20 = .ok (.if_icmp .ge 107, 3) := by decide +kernel
theorem dX6_dearest_23 : decode cX6_dearest 23 = .ok (.aload_n 0, 1) := by decide +kernel
theorem dX6_dearest_24 : decode cX6_dearest 24 = .ok (.getfield 16, 3) := by decide +kernel
theorem dX6_dearest_27 : decode cX6_dearest 27 = .ok (.iconst 0, 1) := by decide +kernel
theorem dX6_dearest_28 : decode cX6_dearest 28 = .ok (.aload_n 0, 1) := by decide +kernel
theorem dX6_dearest_29 : decode cX6_dearest 29 = .ok (.getfield 22, 3) := by decide +kernel
theorem dX6_dearest_32 : decode cX6_dearest 32 = .ok (.iconst 0, 1) := by decide +kernel
theorem dX6_dearest_33 : decode cX6_dearest 33 = .ok (.invokestatic 192, 3) := by decide +kernel
theorem dX6_dearest_36 : decode cX6_dearest 36 = .ok (.iconst 0, 1) := by decide +kernel
theorem dX6_dearest_37 : decode cX6_dearest 37 = .ok (.istore 4, 2) := by decide +kernel
theorem dX6_dearest_39 : decode cX6_dearest 39 = .ok (.iload 4, 2) := by decide +kernel
theorem dX6_dearest_41 : decode cX6_dearest 41 = .ok (.bipush 16, 2) := by decide +kernel
theorem dX6_dearest_43 : decode cX6_dearest 43 = .ok (.if_icmp .ge 25, 3) := by decide +kernel
theorem dX6_dearest_46 : decode cX6_dearest 46 = .ok (.aload_n 0, 1) := by decide +kernel
theorem dX6_dearest_47 : decode cX6_dearest 47 = .ok (.getfield 22, 3) := by decide +kernel
theorem dX6_dearest_50 : decode cX6_dearest 50 = .ok (.bipush 8, 2) := by decide +kernel
theorem dX6_dearest_52 : decode cX6_dearest 52 = .ok (.iload_n 3, 1) := by decide +kernel
theorem dX6_dearest_53 : decode cX6_dearest 53 = .ok (.iload 4, 2) := by decide +kernel
theorem dX6_dearest_55 : decode cX6_dearest 55 = .ok (.invokestatic 70, 3) := by decide +kernel
theorem dX6_dearest_58 : decode cX6_dearest 58 = .ok (.iadd, 1) := by decide +kernel
theorem dX6_dearest_59 : decode cX6_dearest 59 = .ok (.bipush (-9), 2) := by decide +kernel
theorem dX6_dearest_61 : decode cX6_dearest 61 = .ok (.iastore, 1) := by decide +kernel
theorem dX6_dearest_62 : decode cX6_dearest 62 = .ok (.iinc 4 1, 3) := by decide +kernel
theorem dX6_dearest_65 : decode cX6_dearest 65 = .ok (.goto (-26), 3) := by decide +kernel
theorem dX6_dearest_68 : decode cX6_dearest 68 = .ok (.aload_n 0, 1) := by decide +kernel
theorem dX6_dearest_69 : decode cX6_dearest 69 = .ok (.aload_n 0, 1) := by decide +kernel
theorem dX6_dearest_70 : decode cX6_dearest 70 = .ok (.getfield 22, 3) := by decide +kernel
theorem dX6_dearest_73 : decode cX6_dearest 73 = .ok (.iconst 0, 1) := by decide +kernel
theorem dX6_dearest_74 : decode cX6_dearest 74 = .ok (.invokevirtual 256, 3) := by decide +kernel
theorem dX6_dearest_77 : decode cX6_dearest 77 = .ok (.istore 4, 2) := by decide +kernel
theorem dX6_dearest_79 : decode cX6_dearest 79 = .ok (.iload_n 1, 1) := by decide +kernel
theorem dX6_dearest_80 : decode cX6_dearest 80 = .ok (.bipush (-9), 2) := by decide +kernel
theorem dX6_dearest_82 : decode cX6_dearest 82 = .ok (.if_icmp .eq 9, 3) := by decide +kernel
theorem dX6_dearest_85 : decode cX6_dearest 85 = .ok (.iload 4, 2) := by decide +kernel
theorem dX6_dearest_87 : decode cX6_dearest 87 = .ok (.iload_n 2, 1) := by decide +kernel
theorem dX6_dearest_88 : decode cX6_dearest 88 = .ok (.if_icmp .ge 7, 3) := by decide +kernel
theorem dX6_dearest_91 : decode cX6_dearest 91 = .ok (.iconst 1, 1) := by decide +kernel
theorem dX6_dearest_92 : decode cX6_dearest 92 = .ok (.goto 4, 3) := by decide +kernel
theorem dX6_dearest_95 : decode cX6_dearest 95 = .ok (.iconst 0, 1) := by decide +kernel
theorem dX6_dearest_96 : decode cX6_dearest 96 = .ok (.istore 5, 2) := by decide +kernel
theorem dX6_dearest_98 : decode cX6_dearest 98 = .ok (.iload 5, 2) := by decide +kernel
theorem dX6_dearest_100 : decode cX6_dearest 100 = .ok (.ifCond .eq 7, 3) := by decide +kernel
theorem dX6_dearest_103 : decode cX6_dearest 103 = .ok (.iload_n 3, 1) := by decide +kernel
theorem dX6_dearest_104 : decode cX6_dearest 104 = .ok (.goto 4, 3) := by decide +kernel
theorem dX6_dearest_107 : decode cX6_dearest 107 = .ok (.iload_n 1, 1) := by decide +kernel
theorem dX6_dearest_108 : decode cX6_dearest 108 = .ok (.istore_n 1, 1) := by decide +kernel
theorem dX6_dearest_109 : decode cX6_dearest 109 = .ok (.iload 5, 2) := by decide +kernel
theorem dX6_dearest_111 : decode cX6_dearest 111 = .ok (.ifCond .eq 8, 3) := by decide +kernel
theorem dX6_dearest_114 : decode cX6_dearest 114 = .ok (.iload 4, 2) := by decide +kernel
theorem dX6_dearest_116 : decode cX6_dearest 116 = .ok (.goto 4, 3) := by decide +kernel
theorem dX6_dearest_119 : decode cX6_dearest 119 = .ok (.iload_n 2, 1) := by decide +kernel
theorem dX6_dearest_120 : decode cX6_dearest 120 = .ok (.istore_n 2, 1) := by decide +kernel
theorem dX6_dearest_121 : decode cX6_dearest 121 = .ok (.iinc 3 1, 3) := by decide +kernel
theorem dX6_dearest_124 : decode cX6_dearest 124 = .ok (.goto (-112), 3) := by decide +kernel
theorem dX6_dearest_127 : decode cX6_dearest 127 = .ok (.iload_n 1, 1) := by decide +kernel
theorem dX6_dearest_128 : decode cX6_dearest 128 = .ok (.ireturn, 1) := by decide +kernel
theorem dX6_bestTransposition_0 : decode cX6_bestTransposition 0 = .ok (.aload_n 0, 1) := by decide +kernel
theorem dX6_bestTransposition_1 : decode cX6_bestTransposition 1 = .ok (.aload_n 0, 1) := by decide +kernel
theorem dX6_bestTransposition_2 : decode cX6_bestTransposition 2 = .ok (.getfield 16, 3) := by decide +kernel
theorem dX6_bestTransposition_5 : decode cX6_bestTransposition 5 = .ok (.iload_n 1, 1) := by decide +kernel
theorem dX6_bestTransposition_6 : decode cX6_bestTransposition 6 = .ok (.invokestatic 207, 3) := by decide +kernel
theorem dX6_bestTransposition_9 : decode cX6_bestTransposition 9 = .ok (.ifCond .eq 7, 3) := by decide +kernel
theorem dX6_bestTransposition_12 : decode cX6_bestTransposition 12 = .ok (.iconst 0, 1) := by decide +kernel
theorem dX6_bestTransposition_13 : decode cX6_bestTransposition 13 = .ok (.goto 4, 3) := by decide +kernel
theorem dX6_bestTransposition_16 : decode cX6_bestTransposition 16 = .ok (.iconst 1, 1) := by decide +kernel
theorem dX6_bestTransposition_17 : decode cX6_bestTransposition 17 = .ok (.invokevirtual 169, 3) := by decide +kernel
theorem dX6_bestTransposition_20 : decode cX6_bestTransposition 20 = .ok (.ifCond .eq 5, 3) := by decide +kernel
theorem dX6_bestTransposition_23 : decode cX6_bestTransposition 23 = .ok (.iconst 0, 1) := by decide +kernel
theorem dX6_bestTransposition_24 : decode cX6_bestTransposition 24 = .ok (.ireturn, 1) := by decide +kernel
theorem dX6_bestTransposition_25 : decode cX6_bestTransposition 25 = .ok (.iconst 0, 1) := by decide +kernel
theorem dX6_bestTransposition_26 : decode cX6_bestTransposition 26 = .ok (.istore_n 2, 1) := by decide +kernel
theorem dX6_bestTransposition_27 : decode cX6_bestTransposition 27 = .ok (.aload_n 0, 1) := by decide +kernel
theorem dX6_bestTransposition_28 : decode cX6_bestTransposition 28 = .ok (.aload_n 0, 1) := by decide +kernel
theorem dX6_bestTransposition_29 : decode cX6_bestTransposition 29 = .ok (.getfield 16, 3) := by decide +kernel
theorem dX6_bestTransposition_32 : decode cX6_bestTransposition 32 = .ok (.iconst 0, 1) := by decide +kernel
theorem dX6_bestTransposition_33 : decode cX6_bestTransposition 33 = .ok (.invokevirtual 256, 3) := by decide +kernel
theorem dX6_bestTransposition_36 : decode cX6_bestTransposition 36 = .ok (.istore_n 3, 1) := by decide +kernel
theorem dX6_bestTransposition_37 : decode cX6_bestTransposition 37 = .ok (.iconst 1, 1) := by decide +kernel
theorem dX6_bestTransposition_38 : decode cX6_bestTransposition 38 = .ok (.istore 4, 2) := by decide +kernel
theorem dX6_bestTransposition_40 : decode cX6_bestTransposition 40 = .ok (.iload 4, 2) := by decide +kernel
theorem dX6_bestTransposition_42 : decode cX6_bestTransposition 42 = .ok (.bipush 60, 2) := by decide +kernel
theorem dX6_bestTransposition_44 : decode cX6_bestTransposition 44 = .ok (.if_icmp .gt 107, 3) := by decide +kernel
theorem dX6_bestTransposition_47 : decode cX6_bestTransposition 47 = .ok (.iconst 1, 1) := by decide +kernel
theorem dX6_bestTransposition_48 : decode cX6_bestTransposition 48 = .ok (.istore 5, 2) := by decide +kernel
theorem dX6_bestTransposition_50 : decode cX6_bestTransposition 50 = .ok (.iload 5, 2) := by decide +kernel
theorem dX6_bestTransposition_52 : decode cX6_bestTransposition 52 = .ok (.iconst (-1), 1) := by decide +kernel
theorem dX6_bestTransposition_53 : decode cX6_bestTransposition 53 = .ok (.if_icmp .lt 92, 3) := by decide +kernel
theorem dX6_bestTransposition_56 : decode cX6_bestTransposition 56 = .ok (.aload_n 0, 1) := by decide +kernel
theorem dX6_bestTransposition_57 : decode cX6_bestTransposition 57 = .ok (.getfield 16, 3) := by decide +kernel
theorem dX6_bestTransposition_60 : decode cX6_bestTransposition 60 = .ok (.iload_n 1, 1) := by decide +kernel
theorem dX6_bestTransposition_61 : decode cX6_bestTransposition 61 = .ok (.iload 5, 2) := by decide +kernel
theorem dX6_bestTransposition_63 : decode cX6_bestTransposition 63 = .ok (.iload 4, 2) := by decide +kernel
theorem dX6_bestTransposition_65 : decode cX6_bestTransposition 65 = .ok (.imul, 1) := by decide +kernel
theorem dX6_bestTransposition_66 : decode cX6_bestTransposition 66 = .ok (.invokestatic 237, 3) := by decide +kernel
theorem dX6_bestTransposition_69 : decode cX6_bestTransposition 69 = .ok (.ifCond .eq 70, 3) := by decide +kernel
theorem dX6_bestTransposition_72 : decode cX6_bestTransposition 72 = .ok (.aload_n 0, 1) := by decide +kernel
theorem dX6_bestTransposition_73 : decode cX6_bestTransposition 73 = .ok (.getfield 16, 3) := by decide +kernel
theorem dX6_bestTransposition_76 : decode cX6_bestTransposition 76 = .ok (.iconst 0, 1) := by decide +kernel
theorem dX6_bestTransposition_77 : decode cX6_bestTransposition 77 = .ok (.aload_n 0, 1) := by decide +kernel
theorem dX6_bestTransposition_78 : decode cX6_bestTransposition 78 = .ok (.getfield 22, 3) := by decide +kernel
theorem dX6_bestTransposition_81 : decode cX6_bestTransposition 81 = .ok (.iconst 0, 1) := by decide +kernel
theorem dX6_bestTransposition_82 : decode cX6_bestTransposition 82 = .ok (.invokestatic 192, 3) := by decide +kernel
theorem dX6_bestTransposition_85 : decode cX6_bestTransposition 85 = .ok (.aload_n 0, 1) := by decide +kernel
theorem dX6_bestTransposition_86 : decode cX6_bestTransposition 86 = .ok (.getfield 22, 3) := by decide +kernel
theorem dX6_bestTransposition_89 : decode cX6_bestTransposition 89 = .ok (.iload_n 1, 1) := by decide +kernel
theorem dX6_bestTransposition_90 : decode cX6_bestTransposition 90 = .ok (.iload 5, 2) := by decide +kernel
theorem dX6_bestTransposition_92 : decode cX6_bestTransposition 92 = .ok (.iload 4, 2) := by decide +kernel
theorem dX6_bestTransposition_94 : decode cX6_bestTransposition 94 = .ok (.imul, 1) := by decide +kernel
theorem dX6_bestTransposition_95 : decode cX6_bestTransposition 95 = .ok (.invokestatic 240, 3) := by decide +kernel
theorem dX6_bestTransposition_98 : decode cX6_bestTransposition 98 = .ok (.pop, 1) := by decide +kernel
theorem dX6_bestTransposition_99 : decode cX6_bestTransposition 99 = .ok (.aload_n 0, 1) := by decide +kernel
theorem dX6_bestTransposition_100 : decode cX6_bestTransposition 100 = .ok (.aload_n 0, 1) := by decide +kernel
theorem dX6_bestTransposition_101 : decode cX6_bestTransposition 101 = .ok (.getfield 22, 3) := by decide +kernel
theorem dX6_bestTransposition_104 : decode cX6_bestTransposition 104 = .ok (.iconst 0, 1) := by decide +kernel
theorem dX6_bestTransposition_105 : decode cX6_bestTransposition 105 = .ok (.invokevirtual 256, 3) := by decide +kernel
theorem dX6_bestTransposition_108 : decode cX6_bestTransposition 108 = .ok (.istore 6, 2) := by decide +kernel
theorem dX6_bestTransposition_110 : decode cX6_bestTransposition 110 = .ok (.iload 6, 2) := by decide +kernel
theorem dX6_bestTransposition_112 : decode cX6_bestTransposition 112 = .ok (.iload_n 3, 1) := by decide +kernel
theorem dX6_bestTransposition_113 : decode cX6_bestTransposition 113 = .ok (.if_icmp .ge 11, 3) := by decide +kernel
theorem dX6_bestTransposition_116 : decode cX6_bestTransposition 116 = .ok (.iload 5, 2) := by decide +kernel
theorem dX6_bestTransposition_118 : decode cX6_bestTransposition 118 = .ok (.iload 4, 2) := by decide +kernel
theorem dX6_bestTransposition_120 : decode cX6_bestTransposition 120 = .ok (.imul, 1) := by decide +kernel
theorem dX6_bestTransposition_121 : decode cX6_bestTransposition 121 = .ok (.goto 4, 3) := by decide +kernel
theorem dX6_bestTransposition_124 : decode cX6_bestTransposition 124 = .ok (.iload_n 2, 1) := by decide +kernel
theorem dX6_bestTransposition_125 : decode cX6_bestTransposition 125 = .ok (.istore_n 2, 1) := by decide +kernel
theorem dX6_bestTransposition_126 : decode cX6_bestTransposition 126 = .ok (.iload 6, 2) := by decide +kernel
theorem dX6_bestTransposition_128 : decode cX6_bestTransposition 128 = .ok (.iload_n 3, 1) := by decide +kernel
theorem dX6_bestTransposition_129 : decode cX6_bestTransposition 129 = .ok (.if_icmp .ge 8, 3) := by decide +kernel
theorem dX6_bestTransposition_132 : decode cX6_bestTransposition 132 = .ok (.iload 6, 2) := by decide +kernel
theorem dX6_bestTransposition_134 : decode cX6_bestTransposition 134 = .ok (.goto 4, 3) := by decide +kernel
theorem dX6_bestTransposition_137 : decode cX6_bestTransposition 137 = .ok (.iload_n 3, 1) := by decide +kernel
theorem dX6_bestTransposition_138 : decode cX6_bestTransposition 138 = .ok (.istore_n 3, 1) := by decide +kernel
theorem dX6_bestTransposition_139 : decode cX6_bestTransposition 139 = .ok (.iinc 5 (-2), 3) := by decide +kernel
theorem dX6_bestTransposition_142 : decode cX6_bestTransposition 142 = .ok (.goto (-92), 3) := by decide +kernel
theorem dX6_bestTransposition_145 : decode cX6_bestTransposition 145 = .ok (.iinc 4 1, 3) := by decide +kernel
theorem dX6_bestTransposition_148 : decode cX6_bestTransposition 148 = .ok (.goto (-108), 3) := by decide +kernel
theorem dX6_bestTransposition_151 : decode cX6_bestTransposition 151 = .ok (.iload_n 2, 1) := by decide +kernel
theorem dX6_bestTransposition_152 : decode cX6_bestTransposition 152 = .ok (.ireturn, 1) := by decide +kernel
theorem dX6_writes_0 : decode cX6_writes 0 = .ok (.aload_n 0, 1) := by decide +kernel
theorem dX6_writes_1 : decode cX6_writes 1 = .ok (.getfield 19, 3) := by decide +kernel
theorem dX6_writes_4 : decode cX6_writes 4 = .ok (.iload_n 1, 1) := by decide +kernel
theorem dX6_writes_5 : decode cX6_writes 5 = .ok (.iload_n 2, 1) := by decide +kernel
theorem dX6_writes_6 : decode cX6_writes 6 = .ok (.invokestatic 214, 3) := by decide +kernel
theorem dX6_writes_9 : decode cX6_writes 9 = .ok (.ifCond .eq 16, 3) := by decide +kernel
theorem dX6_writes_12 : decode cX6_writes 12 = .ok (.aload_n 0, 1) := by decide +kernel
theorem dX6_writes_13 : decode cX6_writes 13 = .ok (.getfield 19, 3) := by decide +kernel
theorem dX6_writes_16 : decode cX6_writes 16 = .ok (.iload_n 1, 1) := by decide +kernel
theorem dX6_writes_17 : decode cX6_writes 17 = .ok (.iload_n 2, 1) := by decide +kernel
theorem dX6_writes_18 : decode cX6_writes 18 = .ok (.iload_n 3, 1) := by decide +kernel
theorem dX6_writes_19 : decode cX6_writes 19 = .ok (.invokestatic 228, 3) := by decide +kernel
theorem dX6_writes_22 : decode cX6_writes 22 = .ok (.ifCond .ne 5, 3) := by decide +kernel
theorem dX6_writes_25 : decode cX6_writes 25 = .ok (.iconst 0, 1) := by decide +kernel
theorem dX6_writes_26 : decode cX6_writes 26 = .ok (.ireturn, 1) := by decide +kernel
theorem dX6_writes_27 : decode cX6_writes 27 = .ok (.aload_n 0, 1) := by decide +kernel
theorem dX6_writes_28 : decode cX6_writes 28 = .ok (.getfield 19, 3) := by decide +kernel
theorem dX6_writes_31 : decode cX6_writes 31 = .ok (.iload_n 1, 1) := by decide +kernel
theorem dX6_writes_32 : decode cX6_writes 32 = .ok (.iload_n 2, 1) := by decide +kernel
theorem dX6_writes_33 : decode cX6_writes 33 = .ok (.iload_n 3, 1) := by decide +kernel
theorem dX6_writes_34 : decode cX6_writes 34 = .ok (.invokestatic 231, 3) := by decide +kernel
theorem dX6_writes_37 : decode cX6_writes 37 = .ok (.iconst 1, 1) := by decide +kernel
theorem dX6_writes_38 : decode cX6_writes 38 = .ok (.ireturn, 1) := by decide +kernel
theorem dX6_does_0 : decode cX6_does 0 = .ok (.iload_n 1, 1) := by decide +kernel
theorem dX6_does_1 : decode cX6_does 1 = .ok (.tableswitch 391 1 9 #[51, 76, 100, 121, 143, 199, 248, 279, 328], 51) := by decide +kernel
theorem dX6_does_52 : decode cX6_does 52 = .ok (.iload_n 3, 1) := by decide +kernel
theorem dX6_does_53 : decode cX6_does 53 = .ok (.ifCond .ne 12, 3) := by decide +kernel
theorem dX6_does_56 : decode cX6_does 56 = .ok (.iload_n 2, 1) := by decide +kernel
theorem dX6_does_57 : decode cX6_does 57 = .ok (.iload 4, 2) := by decide +kernel
theorem dX6_does_59 : decode cX6_does 59 = .ok (.invokestatic 217, 3) := by decide +kernel
theorem dX6_does_62 : decode cX6_does 62 = .ok (.ifCond .ne 5, 3) := by decide +kernel
theorem dX6_does_65 : decode cX6_does 65 = .ok (.iconst 0, 1) := by decide +kernel
theorem dX6_does_66 : decode cX6_does 66 = .ok (.ireturn, 1) := by decide +kernel
theorem dX6_does_67 : decode cX6_does 67 = .ok (.aload_n 0, 1) := by decide +kernel
theorem dX6_does_68 : decode cX6_does 68 = .ok (.getfield 19, 3) := by decide +kernel
theorem dX6_does_71 : decode cX6_does 71 = .ok (.iload_n 2, 1) := by decide +kernel
theorem dX6_does_72 : decode cX6_does 72 = .ok (.iload 4, 2) := by decide +kernel
theorem dX6_does_74 : decode cX6_does 74 = .ok (.iastore, 1) := by decide +kernel
theorem dX6_does_75 : decode cX6_does 75 = .ok (.iconst 1, 1) := by decide +kernel
theorem dX6_does_76 : decode cX6_does 76 = .ok (.ireturn, 1) := by decide +kernel
theorem dX6_does_77 : decode cX6_does 77 = .ok (.iload 4, 2) := by decide +kernel
theorem dX6_does_79 : decode cX6_does 79 = .ok (.bipush 60, 2) := by decide +kernel
theorem dX6_does_81 : decode cX6_does 81 = .ok (.if_icmp .gt 18, 3) := by decide +kernel
theorem dX6_does_84 : decode cX6_does 84 = .ok (.aload_n 0, 1) := by decide +kernel
theorem dX6_does_85 : decode cX6_does 85 = .ok (.iload_n 2, 1) := by decide +kernel
theorem dX6_does_86 : decode cX6_does 86 = .ok (.iload_n 3, 1) := by decide +kernel
theorem dX6_does_87 : decode cX6_does 87 = .ok (.iload 4, 2) := by decide +kernel
theorem dX6_does_89 : decode cX6_does 89 = .ok (.invokevirtual 259, 3) := by decide +kernel
theorem dX6_does_92 : decode cX6_does 92 = .ok (.ifCond .eq 7, 3) := by decide +kernel
theorem dX6_does_95 : decode cX6_does 95 = .ok (.iconst 1, 1) := by decide +kernel
theorem dX6_does_96 : decode cX6_does 96 = .ok (.goto 4, 3) := by decide +kernel
theorem dX6_does_99 : decode cX6_does 99 = .ok (.iconst 0, 1) := by decide +kernel
theorem dX6_does_100 : decode cX6_does 100 = .ok (.ireturn, 1) := by decide +kernel
theorem dX6_does_101 : decode cX6_does 101 = .ok (.iload 4, 2) := by decide +kernel
theorem dX6_does_103 : decode cX6_does 103 = .ok (.ifCond .ne 17, 3) := by decide +kernel
theorem dX6_does_106 : decode cX6_does 106 = .ok (.aload_n 0, 1) := by decide +kernel
theorem dX6_does_107 : decode cX6_does 107 = .ok (.iload_n 2, 1) := by decide +kernel
theorem dX6_does_108 : decode cX6_does 108 = .ok (.iload_n 3, 1) := by decide +kernel
theorem dX6_does_109 : decode cX6_does 109 = .ok (.iconst (-1), 1) := by decide +kernel
theorem dX6_does_110 : decode cX6_does 110 = .ok (.invokevirtual 259, 3) := by decide +kernel
theorem dX6_does_113 : decode cX6_does 113 = .ok (.ifCond .eq 7, 3) := by decide +kernel
theorem dX6_does_116 : decode cX6_does 116 = .ok (.iconst 1, 1) := by decide +kernel
theorem dX6_does_117 : decode cX6_does 117 = .ok (.goto 4, 3) := by decide +kernel
theorem dX6_does_120 : decode cX6_does 120 = .ok (.iconst 0, 1) := by decide +kernel
theorem dX6_does_121 : decode cX6_does 121 = .ok (.ireturn, 1) := by decide +kernel
theorem dX6_does_122 : decode cX6_does 122 = .ok (.iload 4, 2) := by decide +kernel
theorem dX6_does_124 : decode cX6_does 124 = .ok (.ifCond .ne 18, 3) := by decide +kernel
theorem dX6_does_127 : decode cX6_does 127 = .ok (.aload_n 0, 1) := by decide +kernel
theorem dX6_does_128 : decode cX6_does 128 = .ok (.iload_n 2, 1) := by decide +kernel
theorem dX6_does_129 : decode cX6_does 129 = .ok (.iload_n 3, 1) := by decide +kernel
theorem dX6_does_130 : decode cX6_does 130 = .ok (.bipush 99, 2) := by decide +kernel
theorem dX6_does_132 : decode cX6_does 132 = .ok (.invokevirtual 259, 3) := by decide +kernel
theorem dX6_does_135 : decode cX6_does 135 = .ok (.ifCond .eq 7, 3) := by decide +kernel
theorem dX6_does_138 : decode cX6_does 138 = .ok (.iconst 1, 1) := by decide +kernel
theorem dX6_does_139 : decode cX6_does 139 = .ok (.goto 4, 3) := by decide +kernel
theorem dX6_does_142 : decode cX6_does 142 = .ok (.iconst 0, 1) := by decide +kernel
theorem dX6_does_143 : decode cX6_does 143 = .ok (.ireturn, 1) := by decide +kernel
theorem dX6_does_144 : decode cX6_does 144 = .ok (.iload_n 2, 1) := by decide +kernel
theorem dX6_does_145 : decode cX6_does 145 = .ok (.ifCond .ne 37, 3) := by decide +kernel
theorem dX6_does_148 : decode cX6_does 148 = .ok (.iload 4, 2) := by decide +kernel
theorem dX6_does_150 : decode cX6_does 150 = .ok (.bipush 10, 2) := by decide +kernel
theorem dX6_does_152 : decode cX6_does 152 = .ok (.irem, 1) := by decide +kernel
theorem dX6_does_153 : decode cX6_does 153 = .ok (.ifCond .ne 29, 3) := by decide +kernel
theorem dX6_does_156 : decode cX6_does 156 = .ok (.aload_n 0, 1) := by decide +kernel
theorem dX6_does_157 : decode cX6_does 157 = .ok (.getfield 19, 3) := by decide +kernel
theorem dX6_does_160 : decode cX6_does 160 = .ok (.iload_n 3, 1) := by decide +kernel
theorem dX6_does_161 : decode cX6_does 161 = .ok (.invokestatic 207, 3) := by decide +kernel
theorem dX6_does_164 : decode cX6_does 164 = .ok (.ifCond .eq 18, 3) := by decide +kernel
theorem dX6_does_167 : decode cX6_does 167 = .ok (.aload_n 0, 1) := by decide +kernel
theorem dX6_does_168 : decode cX6_does 168 = .ok (.getfield 19, 3) := by decide +kernel
theorem dX6_does_171 : decode cX6_does 171 = .ok (.iload 4, 2) := by decide +kernel
theorem dX6_does_173 : decode cX6_does 173 = .ok (.bipush 10, 2) := by decide +kernel
theorem dX6_does_175 : decode cX6_does 175 = .ok (.idiv, 1) := by decide +kernel
theorem dX6_does_176 : decode cX6_does 176 = .ok (.invokestatic 207, 3) := by decide +kernel
theorem dX6_does_179 : decode cX6_does 179 = .ok (.ifCond .ne 5, 3) := by decide +kernel
theorem dX6_does_182 : decode cX6_does 182 = .ok (.iconst 0, 1) := by decide +kernel
theorem dX6_does_183 : decode cX6_does 183 = .ok (.ireturn, 1) := by decide +kernel
theorem dX6_does_184 : decode cX6_does 184 = .ok (.aload_n 0, 1) := by decide +kernel
theorem dX6_does_185 : decode cX6_does 185 = .ok (.getfield 19, 3) := by decide +kernel
theorem dX6_does_188 : decode cX6_does 188 = .ok (.iload_n 3, 1) := by decide +kernel
theorem dX6_does_189 : decode cX6_does 189 = .ok (.iload 4, 2) := by decide +kernel
theorem dX6_does_191 : decode cX6_does 191 = .ok (.bipush 10, 2) := by decide +kernel
theorem dX6_does_193 : decode cX6_does 193 = .ok (.idiv, 1) := by decide +kernel
theorem dX6_does_194 : decode cX6_does 194 = .ok (.invokestatic 244, 3) := by decide +kernel
theorem dX6_does_197 : decode cX6_does 197 = .ok (.pop, 1) := by decide +kernel
theorem dX6_does_198 : decode cX6_does 198 = .ok (.iconst 1, 1) := by decide +kernel
theorem dX6_does_199 : decode cX6_does 199 = .ok (.ireturn, 1) := by decide +kernel
theorem dX6_does_200 : decode cX6_does 200 = .ok (.iload 4, 2) := by decide +kernel
theorem dX6_does_202 : decode cX6_does 202 = .ok (.ifCond .ne 30, 3) := by decide +kernel
theorem dX6_does_205 : decode cX6_does 205 = .ok (.aload_n 0, 1) := by decide +kernel
theorem dX6_does_206 : decode cX6_does 206 = .ok (.getfield 19, 3) := by decide +kernel
theorem dX6_does_209 : decode cX6_does 209 = .ok (.bipush 10, 2) := by decide +kernel
theorem dX6_does_211 : decode cX6_does 211 = .ok (.iload_n 2, 1) := by decide +kernel
theorem dX6_does_212 : decode cX6_does 212 = .ok (.imul, 1) := by decide +kernel
theorem dX6_does_213 : decode cX6_does 213 = .ok (.iload_n 3, 1) := by decide +kernel
theorem dX6_does_214 : decode cX6_does 214 = .ok (.iadd, 1) := by decide +kernel
theorem dX6_does_215 : decode cX6_does 215 = .ok (.invokestatic 211, 3) := by decide +kernel
theorem dX6_does_218 : decode cX6_does 218 = .ok (.ifCond .eq 14, 3) := by decide +kernel
theorem dX6_does_221 : decode cX6_does 221 = .ok (.aload_n 0, 1) := by decide +kernel
theorem dX6_does_222 : decode cX6_does 222 = .ok (.getfield 19, 3) := by decide +kernel
theorem dX6_does_225 : decode cX6_does 225 = .ok (.bipush 7, 2) := by decide +kernel
theorem dX6_does_227 : decode cX6_does 227 = .ok (.iaload, 1) := by decide +kernel
theorem dX6_does_228 : decode cX6_does 228 = .ok (.iconst 1, 1) := by decide +kernel
theorem dX6_does_229 : decode cX6_does 229 = .ok (.if_icmp .ne 5, 3) := by decide +kernel
theorem dX6_does_232 : decode cX6_does 232 = .ok (.iconst 0, 1) := by decide +kernel
theorem dX6_does_233 : decode cX6_does 233 = .ok (.ireturn, 1) := by decide +kernel
theorem dX6_does_234 : decode cX6_does 234 = .ok (.aload_n 0, 1) := by decide +kernel
theorem dX6_does_235 : decode cX6_does 235 = .ok (.getfield 19, 3) := by decide +kernel
theorem dX6_does_238 : decode cX6_does 238 = .ok (.bipush 10, 2) := by decide +kernel
theorem dX6_does_240 : decode cX6_does 240 = .ok (.iload_n 2, 1) := by decide +kernel
theorem dX6_does_241 : decode cX6_does 241 = .ok (.imul, 1) := by decide +kernel
theorem dX6_does_242 : decode cX6_does 242 = .ok (.iload_n 3, 1) := by decide +kernel
theorem dX6_does_243 : decode cX6_does 243 = .ok (.iadd, 1) := by decide +kernel
theorem dX6_does_244 : decode cX6_does 244 = .ok (.invokestatic 247, 3) := by decide +kernel
theorem dX6_does_247 : decode cX6_does 247 = .ok (.iconst 1, 1) := by decide +kernel
theorem dX6_does_248 : decode cX6_does 248 = .ok (.ireturn, 1) := by decide +kernel
theorem dX6_does_249 : decode cX6_does 249 = .ok (.iload_n 2, 1) := by decide +kernel
theorem dX6_does_250 : decode cX6_does 250 = .ok (.bipush 8, 2) := by decide +kernel
theorem dX6_does_252 : decode cX6_does 252 = .ok (.if_icmp .ge 26, 3) := by decide +kernel
theorem dX6_does_255 : decode cX6_does 255 = .ok (.aload_n 0, 1) := by decide +kernel
theorem dX6_does_256 : decode cX6_does 256 = .ok (.aload_n 0, 1) := by decide +kernel
theorem dX6_does_257 : decode cX6_does 257 = .ok (.getfield 19, 3) := by decide +kernel
theorem dX6_does_260 : decode cX6_does 260 = .ok (.iload_n 2, 1) := by decide +kernel
theorem dX6_does_261 : decode cX6_does 261 = .ok (.invokevirtual 256, 3) := by decide +kernel
theorem dX6_does_264 : decode cX6_does 264 = .ok (.bipush 100, 2) := by decide +kernel
theorem dX6_does_266 : decode cX6_does 266 = .ok (.iload_n 3, 1) := by decide +kernel
theorem dX6_does_267 : decode cX6_does 267 = .ok (.imul, 1) := by decide +kernel
theorem dX6_does_268 : decode cX6_does 268 = .ok (.iload 4, 2) := by decide +kernel
theorem dX6_does_270 : decode cX6_does 270 = .ok (.iadd, 1) := by decide +kernel
theorem dX6_does_271 : decode cX6_does 271 = .ok (.if_icmp .ne 7, 3) := by decide +kernel
theorem dX6_does_274 : decode cX6_does 274 = .ok (.iconst 1, 1) := by decide +kernel
theorem dX6_does_275 : decode cX6_does 275 = .ok (.goto 4, 3) := by decide +kernel
theorem dX6_does_278 : decode cX6_does 278 = .ok (.iconst 0, 1) := by decide +kernel
theorem dX6_does_279 : decode cX6_does 279 = .ok (.ireturn, 1) := by decide +kernel
theorem dX6_does_280 : decode cX6_does 280 = .ok (.aload_n 0, 1) := by decide +kernel
theorem dX6_does_281 : decode cX6_does 281 = .ok (.aload_n 0, 1) := by decide +kernel
theorem dX6_does_282 : decode cX6_does 282 = .ok (.getfield 19, 3) := by decide +kernel
theorem dX6_does_285 : decode cX6_does 285 = .ok (.invokevirtual 158, 3) := by decide +kernel
theorem dX6_does_288 : decode cX6_does 288 = .ok (.iload 4, 2) := by decide +kernel
theorem dX6_does_290 : decode cX6_does 290 = .ok (.iconst 2, 1) := by decide +kernel
theorem dX6_does_291 : decode cX6_does 291 = .ok (.if_icmp .ge 36, 3) := by decide +kernel
theorem dX6_does_294 : decode cX6_does 294 = .ok (.aload_n 0, 1) := by decide +kernel
theorem dX6_does_295 : decode cX6_does 295 = .ok (.getfield 19, 3) := by decide +kernel
theorem dX6_does_298 : decode cX6_does 298 = .ok (.iload_n 2, 1) := by decide +kernel
theorem dX6_does_299 : decode cX6_does 299 = .ok (.iload_n 3, 1) := by decide +kernel
theorem dX6_does_300 : decode cX6_does 300 = .ok (.invokestatic 214, 3) := by decide +kernel
theorem dX6_does_303 : decode cX6_does 303 = .ok (.ifCond .eq 24, 3) := by decide +kernel
theorem dX6_does_306 : decode cX6_does 306 = .ok (.aload_n 0, 1) := by decide +kernel
theorem dX6_does_307 : decode cX6_does 307 = .ok (.iload_n 2, 1) := by decide +kernel
theorem dX6_does_308 : decode cX6_does 308 = .ok (.iload_n 3, 1) := by decide +kernel
theorem dX6_does_309 : decode cX6_does 309 = .ok (.aload_n 0, 1) := by decide +kernel
theorem dX6_does_310 : decode cX6_does 310 = .ok (.getfield 50, 3) := by decide +kernel
theorem dX6_does_313 : decode cX6_does 313 = .ok (.iload_n 3, 1) := by decide +kernel
theorem dX6_does_314 : decode cX6_does 314 = .ok (.iaload, 1) := by decide +kernel
theorem dX6_does_315 : decode cX6_does 315 = .ok (.invokevirtual 100, 3) := by decide +kernel
theorem dX6_does_318 : decode cX6_does 318 = .ok (.iload 4, 2) := by decide +kernel
theorem dX6_does_320 : decode cX6_does 320 = .ok (.if_icmp .ne 7, 3) := by decide +kernel
theorem dX6_does_323 : decode cX6_does 323 = .ok (.iconst 1, 1) := by decide +kernel
theorem dX6_does_324 : decode cX6_does 324 = .ok (.goto 4, 3) := by decide +kernel
theorem dX6_does_327 : decode cX6_does 327 = .ok (.iconst 0, 1) := by decide +kernel
theorem dX6_does_328 : decode cX6_does 328 = .ok (.ireturn, 1) := by decide +kernel
theorem dX6_does_329 : decode cX6_does 329 = .ok (.aload_n 0, 1) := by decide +kernel
theorem dX6_does_330 : decode cX6_does 330 = .ok (.aload_n 0, 1) := by decide +kernel
theorem dX6_does_331 : decode cX6_does 331 = .ok (.getfield 19, 3) := by decide +kernel
theorem dX6_does_334 : decode cX6_does 334 = .ok (.invokevirtual 158, 3) := by decide +kernel
theorem dX6_does_337 : decode cX6_does 337 = .ok (.iload 4, 2) := by decide +kernel
theorem dX6_does_339 : decode cX6_does 339 = .ok (.bipush 10, 2) := by decide +kernel
theorem dX6_does_341 : decode cX6_does 341 = .ok (.if_icmp .ge 49, 3) := by decide +kernel
theorem dX6_does_344 : decode cX6_does 344 = .ok (.aload_n 0, 1) := by decide +kernel
theorem dX6_does_345 : decode cX6_does 345 = .ok (.getfield 19, 3) := by decide +kernel
theorem dX6_does_348 : decode cX6_does 348 = .ok (.iload_n 2, 1) := by decide +kernel
theorem dX6_does_349 : decode cX6_does 349 = .ok (.iload_n 3, 1) := by decide +kernel
theorem dX6_does_350 : decode cX6_does 350 = .ok (.invokestatic 214, 3) := by decide +kernel
theorem dX6_does_353 : decode cX6_does 353 = .ok (.ifCond .eq 37, 3) := by decide +kernel
theorem dX6_does_356 : decode cX6_does 356 = .ok (.aload_n 0, 1) := by decide +kernel
theorem dX6_does_357 : decode cX6_does 357 = .ok (.getfield 35, 3) := by decide +kernel
theorem dX6_does_360 : decode cX6_does 360 = .ok (.iload_n 2, 1) := by decide +kernel
theorem dX6_does_361 : decode cX6_does 361 = .ok (.iload_n 3, 1) := by decide +kernel
theorem dX6_does_362 : decode cX6_does 362 = .ok (.invokestatic 70, 3) := by decide +kernel
theorem dX6_does_365 : decode cX6_does 365 = .ok (.iaload, 1) := by decide +kernel
theorem dX6_does_366 : decode cX6_does 366 = .ok (.bipush (-9), 2) := by decide +kernel
theorem dX6_does_368 : decode cX6_does 368 = .ok (.if_icmp .eq 22, 3) := by decide +kernel
theorem dX6_does_371 : decode cX6_does 371 = .ok (.aload_n 0, 1) := by decide +kernel
theorem dX6_does_372 : decode cX6_does 372 = .ok (.getfield 38, 3) := by decide +kernel
theorem dX6_does_375 : decode cX6_does 375 = .ok (.iload_n 2, 1) := by decide +kernel
theorem dX6_does_376 : decode cX6_does 376 = .ok (.iload_n 3, 1) := by decide +kernel
theorem dX6_does_377 : decode cX6_does 377 = .ok (.invokestatic 70, 3) := by decide +kernel
theorem dX6_does_380 : decode cX6_does 380 = .ok (.iaload, 1) := by decide +kernel
theorem dX6_does_381 : decode cX6_does 381 = .ok (.iload 4, 2) := by decide +kernel
theorem dX6_does_383 : decode cX6_does 383 = .ok (.if_icmp .ne 7, 3) := by decide +kernel
theorem dX6_does_386 : decode cX6_does 386 = .ok (.iconst 1, 1) := by decide +kernel
theorem dX6_does_387 : decode cX6_does 387 = .ok (.goto 4, 3) := by decide +kernel
theorem dX6_does_390 : decode cX6_does 390 = .ok (.iconst 0, 1) := by decide +kernel
theorem dX6_does_391 : decode cX6_does 391 = .ok (.ireturn, 1) := by decide +kernel
theorem dX6_does_392 : decode cX6_does 392 = .ok (.iconst 0, 1) := by decide +kernel
theorem dX6_does_393 : decode cX6_does 393 = .ok (.ireturn, 1) := by decide +kernel
theorem dX6_runScript_0 : decode cX6_runScript 0 = .ok (.iload_n 1, 1) := by decide +kernel
theorem dX6_runScript_1 : decode cX6_runScript 1 = .ok (.iconst 1, 1) := by decide +kernel
theorem dX6_runScript_2 : decode cX6_runScript 2 = .ok (.if_icmp .ne 9, 3) := by decide +kernel
theorem dX6_runScript_5 : decode cX6_runScript 5 = .ok (.ldc2_w 263, 3) := by decide +kernel
theorem dX6_runScript_8 : decode cX6_runScript 8 = .ok (.goto 17, 3) := by decide +kernel
theorem dX6_runScript_11 : decode cX6_runScript 11 = .ok (.iload_n 1, 1) := by decide +kernel
theorem dX6_runScript_12 : decode cX6_runScript 12 = .ok (.iconst 2, 1) := by decide +kernel
theorem dX6_runScript_13 : decode cX6_runScript 13 = .ok (.if_icmp .ne 9, 3) := by decide +kernel
theorem dX6_runScript_16 : decode cX6_runScript 16 = .ok (.ldc2_w 265, 3) := by decide +kernel
theorem dX6_runScript_19 : decode cX6_runScript 19 = .ok (.goto 6, 3) := by decide +kernel
theorem dX6_runScript_22 : decode cX6_runScript 22 = .ok (.ldc2_w 267, 3) := by decide +kernel
theorem dX6_runScript_25 : decode cX6_runScript 25 = .ok (.lstore 4, 2) := by decide +kernel
theorem dX6_runScript_27 : decode cX6_runScript 27 = .ok (.aload_n 0, 1) := by decide +kernel
theorem dX6_runScript_28 : decode cX6_runScript 28 = .ok (.iload_n 1, 1) := by decide +kernel
theorem dX6_runScript_29 : decode cX6_runScript 29 = .ok (.i2l, 1) := by decide +kernel
theorem dX6_runScript_30 : decode cX6_runScript 30 = .ok (.lconst 1, 1) := by decide +kernel
theorem dX6_runScript_31 : decode cX6_runScript 31 = .ok (.ldc2_w 250, 3) := by decide +kernel
theorem dX6_runScript_34 : decode cX6_runScript 34 = .ok (.invokestatic 66, 3) := by decide +kernel
theorem dX6_runScript_37 : decode cX6_runScript 37 = .ok (.ifCond .eq 19, 3) := by decide +kernel
theorem dX6_runScript_40 : decode cX6_runScript 40 = .ok (.lload_n 2, 1) := by decide +kernel
theorem dX6_runScript_41 : decode cX6_runScript 41 = .ok (.lconst 0, 1) := by decide +kernel
theorem dX6_runScript_42 : decode cX6_runScript 42 = .ok (.lload 4, 2) := by decide +kernel
theorem dX6_runScript_44 : decode cX6_runScript 44 = .ok (.lconst 1, 1) := by decide +kernel
theorem dX6_runScript_45 : decode cX6_runScript 45 = .ok (.lsub, 1) := by decide +kernel
theorem dX6_runScript_46 : decode cX6_runScript 46 = .ok (.invokestatic 66, 3) := by decide +kernel
theorem dX6_runScript_49 : decode cX6_runScript 49 = .ok (.ifCond .eq 7, 3) := by decide +kernel
theorem dX6_runScript_52 : decode cX6_runScript 52 = .ok (.iconst 0, 1) := by decide +kernel
theorem dX6_runScript_53 : decode cX6_runScript 53 = .ok (.goto 4, 3) := by decide +kernel
theorem dX6_runScript_56 : decode cX6_runScript 56 = .ok (.iconst 1, 1) := by decide +kernel
theorem dX6_runScript_57 : decode cX6_runScript 57 = .ok (.invokevirtual 169, 3) := by decide +kernel
theorem dX6_runScript_60 : decode cX6_runScript 60 = .ok (.ifCond .eq 5, 3) := by decide +kernel
theorem dX6_runScript_63 : decode cX6_runScript 63 = .ok (.iconst 0, 1) := by decide +kernel
theorem dX6_runScript_64 : decode cX6_runScript 64 = .ok (.ireturn, 1) := by decide +kernel
theorem dX6_runScript_65 : decode cX6_runScript 65 = .ok (.aload_n 0, 1) := by decide +kernel
theorem dX6_runScript_66 : decode cX6_runScript 66 = .ok (.getfield 16, 3) := by decide +kernel
theorem dX6_runScript_69 : decode cX6_runScript 69 = .ok (.iconst 0, 1) := by decide +kernel
theorem dX6_runScript_70 : decode cX6_runScript 70 = .ok (.aload_n 0, 1) := by decide +kernel
theorem dX6_runScript_71 : decode cX6_runScript 71 = .ok (.getfield 19, 3) := by decide +kernel
theorem dX6_runScript_74 : decode cX6_runScript 74 = .ok (.iconst 0, 1) := by decide +kernel
theorem dX6_runScript_75 : decode cX6_runScript 75 = .ok (.invokestatic 192, 3) := by decide +kernel
theorem dX6_runScript_78 : decode cX6_runScript 78 = .ok (.lload_n 2, 1) := by decide +kernel
theorem dX6_runScript_79 : decode cX6_runScript 79 = .ok (.lstore 6, 2) := by decide +kernel
theorem dX6_runScript_81 : decode cX6_runScript 81 = .ok (.iconst 0, 1) := by decide +kernel
theorem dX6_runScript_82 : decode cX6_runScript 82 = .ok (.istore 8, 2) := by decide +kernel
theorem dX6_runScript_84 : decode cX6_runScript 84 = .ok (.iload 8, 2) := by decide +kernel
theorem dX6_runScript_86 : decode cX6_runScript 86 = .ok (.iload_n 1, 1) := by decide +kernel
theorem dX6_runScript_87 : decode cX6_runScript 87 = .ok (.if_icmp .ge 70, 3) := by decide +kernel
theorem dX6_runScript_90 : decode cX6_runScript 90 = .ok (.lload 4, 2) := by decide +kernel
theorem dX6_runScript_92 : decode cX6_runScript 92 = .ok (.ldc2_w 263, 3) := by decide +kernel
theorem dX6_runScript_95 : decode cX6_runScript 95 = .ok (.ldiv, 1) := by decide +kernel
theorem dX6_runScript_96 : decode cX6_runScript 96 = .ok (.lstore 4, 2) := by decide +kernel
theorem dX6_runScript_98 : decode cX6_runScript 98 = .ok (.lload 6, 2) := by decide +kernel
theorem dX6_runScript_100 : decode cX6_runScript 100 = .ok (.lload 4, 2) := by decide +kernel
theorem dX6_runScript_102 : decode cX6_runScript 102 = .ok (.ldiv, 1) := by decide +kernel
theorem dX6_runScript_103 : decode cX6_runScript 103 = .ok (.l2i, 1) := by decide +kernel
theorem dX6_runScript_104 : decode cX6_runScript 104 = .ok (.istore 9, 2) := by decide +kernel
theorem dX6_runScript_106 : decode cX6_runScript 106 = .ok (.lload 6, 2) := by decide +kernel
theorem dX6_runScript_108 : decode cX6_runScript 108 = .ok (.lload 4, 2) := by decide +kernel
theorem dX6_runScript_110 : decode cX6_runScript 110 = .ok (.lrem, 1) := by decide +kernel
theorem dX6_runScript_111 : decode cX6_runScript 111 = .ok (.lstore 6, 2) := by decide +kernel
theorem dX6_runScript_113 : decode cX6_runScript 113 = .ok (.aload_n 0, 1) := by decide +kernel
theorem dX6_runScript_114 : decode cX6_runScript 114 = .ok (.iload 9, 2) := by decide +kernel
theorem dX6_runScript_116 : decode cX6_runScript 116 = .ok (.sipush 10000, 3) := by decide +kernel
theorem dX6_runScript_119 : decode cX6_runScript 119 = .ok (.idiv, 1) := by decide +kernel
theorem dX6_runScript_120 : decode cX6_runScript 120 = .ok (.iload 9, 2) := by decide +kernel
theorem dX6_runScript_122 : decode cX6_runScript 122 = .ok (.sipush 1000, 3) := by decide +kernel
theorem dX6_runScript_125 : decode cX6_runScript 125 = .ok (.idiv, 1) := by decide +kernel
theorem dX6_runScript_126 : decode cX6_runScript 126 = .ok (.bipush 10, 2) := by decide +kernel
theorem dX6_runScript_128 : decode cX6_runScript 128 = .ok (.irem, 1) := by decide +kernel
theorem dX6_runScript_129 : decode cX6_runScript 129 = .ok (.iload 9, 2) := by decide +kernel
theorem dX6_runScript_131 : decode cX6_runScript 131 = .ok (.bipush 100, 2) := by decide +kernel
theorem dX6_runScript_133 : decode cX6_runScript 133 = .ok (.idiv, 1) := by decide +kernel
theorem dX6_runScript_134 : decode cX6_runScript 134 = .ok (.bipush 10, 2) := by decide +kernel
theorem dX6_runScript_136 : decode cX6_runScript 136 = .ok (.irem, 1) := by decide +kernel
theorem dX6_runScript_137 : decode cX6_runScript 137 = .ok (.iload 9, 2) := by decide +kernel
theorem dX6_runScript_139 : decode cX6_runScript 139 = .ok (.bipush 100, 2) := by decide +kernel
theorem dX6_runScript_141 : decode cX6_runScript 141 = .ok (.irem, 1) := by decide +kernel
theorem dX6_runScript_142 : decode cX6_runScript 142 = .ok (.invokevirtual 269, 3) := by decide +kernel
theorem dX6_runScript_145 : decode cX6_runScript 145 = .ok (.ifCond .ne 6, 3) := by decide +kernel
theorem dX6_runScript_148 : decode cX6_runScript 148 = .ok (.iload 8, 2) := by decide +kernel
theorem dX6_runScript_150 : decode cX6_runScript 150 = .ok (.ireturn, 1) := by decide +kernel
theorem dX6_runScript_151 : decode cX6_runScript 151 = .ok (.iinc 8 1, 3) := by decide +kernel
theorem dX6_runScript_154 : decode cX6_runScript 154 = .ok (.goto (-70), 3) := by decide +kernel
theorem dX6_runScript_157 : decode cX6_runScript 157 = .ok (.bipush (-9), 2) := by decide +kernel
theorem dX6_runScript_159 : decode cX6_runScript 159 = .ok (.ireturn, 1) := by decide +kernel
theorem dX6_simulate_0 : decode cX6_simulate 0 = .ok (.aload_n 0, 1) := by decide +kernel
theorem dX6_simulate_1 : decode cX6_simulate 1 = .ok (.iload_n 3, 1) := by decide +kernel
theorem dX6_simulate_2 : decode cX6_simulate 2 = .ok (.i2l, 1) := by decide +kernel
theorem dX6_simulate_3 : decode cX6_simulate 3 = .ok (.lconst 1, 1) := by decide +kernel
theorem dX6_simulate_4 : decode cX6_simulate 4 = .ok (.ldc2_w 273, 3) := by decide +kernel
theorem dX6_simulate_7 : decode cX6_simulate 7 = .ok (.invokestatic 66, 3) := by decide +kernel
theorem dX6_simulate_10 : decode cX6_simulate 10 = .ok (.ifCond .eq 7, 3) := by decide +kernel
theorem dX6_simulate_13 : decode cX6_simulate 13 = .ok (.iconst 0, 1) := by decide +kernel
theorem dX6_simulate_14 : decode cX6_simulate 14 = .ok (.goto 4, 3) := by decide +kernel
theorem dX6_simulate_17 : decode cX6_simulate 17 = .ok (.iconst 1, 1) := by decide +kernel
theorem dX6_simulate_18 : decode cX6_simulate 18 = .ok (.invokevirtual 169, 3) := by decide +kernel
theorem dX6_simulate_21 : decode cX6_simulate 21 = .ok (.ifCond .eq 5, 3) := by decide +kernel
theorem dX6_simulate_24 : decode cX6_simulate 24 = .ok (.iconst 0, 1) := by decide +kernel
theorem dX6_simulate_25 : decode cX6_simulate 25 = .ok (.ireturn, 1) := by decide +kernel
theorem dX6_simulate_26 : decode cX6_simulate 26 = .ok (.aload_n 0, 1) := by decide +kernel
theorem dX6_simulate_27 : decode cX6_simulate 27 = .ok (.getfield 16, 3) := by decide +kernel
theorem dX6_simulate_30 : decode cX6_simulate 30 = .ok (.iconst 0, 1) := by decide +kernel
theorem dX6_simulate_31 : decode cX6_simulate 31 = .ok (.aload_n 0, 1) := by decide +kernel
theorem dX6_simulate_32 : decode cX6_simulate 32 = .ok (.getfield 19, 3) := by decide +kernel
theorem dX6_simulate_35 : decode cX6_simulate 35 = .ok (.iconst 0, 1) := by decide +kernel
theorem dX6_simulate_36 : decode cX6_simulate 36 = .ok (.invokestatic 192, 3) := by decide +kernel
theorem dX6_simulate_39 : decode cX6_simulate 39 = .ok (.lload_n 1, 1) := by decide +kernel
theorem dX6_simulate_40 : decode cX6_simulate 40 = .ok (.lstore 4, 2) := by decide +kernel
theorem dX6_simulate_42 : decode cX6_simulate 42 = .ok (.iconst 0, 1) := by decide +kernel
theorem dX6_simulate_43 : decode cX6_simulate 43 = .ok (.istore 6, 2) := by decide +kernel
theorem dX6_simulate_45 : decode cX6_simulate 45 = .ok (.iload 6, 2) := by decide +kernel
theorem dX6_simulate_47 : decode cX6_simulate 47 = .ok (.iload_n 3, 1) := by decide +kernel
theorem dX6_simulate_48 : decode cX6_simulate 48 = .ok (.if_icmp .ge 91, 3) := by decide +kernel
theorem dX6_simulate_51 : decode cX6_simulate 51 = .ok (.lload 4, 2) := by decide +kernel
theorem dX6_simulate_53 : decode cX6_simulate 53 = .ok (.ldc2_w 275, 3) := by decide +kernel
theorem dX6_simulate_56 : decode cX6_simulate 56 = .ok (.lmul, 1) := by decide +kernel
theorem dX6_simulate_57 : decode cX6_simulate 57 = .ok (.ldc2_w 277, 3) := by decide +kernel
theorem dX6_simulate_60 : decode cX6_simulate 60 = .ok (.ladd, 1) := by decide +kernel
theorem dX6_simulate_61 : decode cX6_simulate 61 = .ok (.lstore 4, 2) := by decide +kernel
theorem dX6_simulate_63 : decode cX6_simulate 63 = .ok (.lload 4, 2) := by decide +kernel
theorem dX6_simulate_65 : decode cX6_simulate 65 = .ok (.bipush 33, 2) := by decide +kernel
theorem dX6_simulate_67 : decode cX6_simulate 67 = .ok (.lushr, 1) := by decide +kernel
theorem dX6_simulate_68 : decode cX6_simulate 68 = .ok (.l2i, 1) := by decide +kernel
theorem dX6_simulate_69 : decode cX6_simulate 69 = .ok (.istore 7, 2) := by decide +kernel
theorem dX6_simulate_71 : decode cX6_simulate 71 = .ok (.iload 7, 2) := by decide +kernel
theorem dX6_simulate_73 : decode cX6_simulate 73 = .ok (.bipush 64, 2) := by decide +kernel
theorem dX6_simulate_75 : decode cX6_simulate 75 = .ok (.idiv, 1) := by decide +kernel
theorem dX6_simulate_76 : decode cX6_simulate 76 = .ok (.bipush 64, 2) := by decide +kernel
theorem dX6_simulate_78 : decode cX6_simulate 78 = .ok (.irem, 1) := by decide +kernel
theorem dX6_simulate_79 : decode cX6_simulate 79 = .ok (.istore 8, 2) := by decide +kernel
theorem dX6_simulate_81 : decode cX6_simulate 81 = .ok (.aload_n 0, 1) := by decide +kernel
theorem dX6_simulate_82 : decode cX6_simulate 82 = .ok (.iload 7, 2) := by decide +kernel
theorem dX6_simulate_84 : decode cX6_simulate 84 = .ok (.aload_n 0, 1) := by decide +kernel
theorem dX6_simulate_85 : decode cX6_simulate 85 = .ok (.getfield 19, 3) := by decide +kernel
theorem dX6_simulate_88 : decode cX6_simulate 88 = .ok (.bipush 6, 2) := by decide +kernel
theorem dX6_simulate_90 : decode cX6_simulate 90 = .ok (.iaload, 1) := by decide +kernel
theorem dX6_simulate_91 : decode cX6_simulate 91 = .ok (.irem, 1) := by decide +kernel
theorem dX6_simulate_92 : decode cX6_simulate 92 = .ok (.iload 7, 2) := by decide +kernel
theorem dX6_simulate_94 : decode cX6_simulate 94 = .ok (.iconst 4, 1) := by decide +kernel
theorem dX6_simulate_95 : decode cX6_simulate 95 = .ok (.idiv, 1) := by decide +kernel
theorem dX6_simulate_96 : decode cX6_simulate 96 = .ok (.aload_n 0, 1) := by decide +kernel
theorem dX6_simulate_97 : decode cX6_simulate 97 = .ok (.getfield 19, 3) := by decide +kernel
theorem dX6_simulate_100 : decode cX6_simulate 100 = .ok (.bipush 7, 2) := by decide +kernel
theorem dX6_simulate_102 : decode cX6_simulate 102 = .ok (.iaload, 1) := by decide +kernel
theorem dX6_simulate_103 : decode cX6_simulate 103 = .ok (.irem, 1) := by decide +kernel
theorem dX6_simulate_104 : decode cX6_simulate 104 = .ok (.iload 8, 2) := by decide +kernel
theorem dX6_simulate_106 : decode cX6_simulate 106 = .ok (.bipush 60, 2) := by decide +kernel
theorem dX6_simulate_108 : decode cX6_simulate 108 = .ok (.if_icmp .gt 8, 3) := by decide +kernel
theorem dX6_simulate_111 : decode cX6_simulate 111 = .ok (.iload 8, 2) := by decide +kernel
theorem dX6_simulate_113 : decode cX6_simulate 113 = .ok (.goto 16, 3) := by decide +kernel
theorem dX6_simulate_116 : decode cX6_simulate 116 = .ok (.iload 8, 2) := by decide +kernel
theorem dX6_simulate_118 : decode cX6_simulate 118 = .ok (.bipush 61, 2) := by decide +kernel
theorem dX6_simulate_120 : decode cX6_simulate 120 = .ok (.if_icmp .ne 7, 3) := by decide +kernel
theorem dX6_simulate_123 : decode cX6_simulate 123 = .ok (.iconst (-1), 1) := by decide +kernel
theorem dX6_simulate_124 : decode cX6_simulate 124 = .ok (.goto 5, 3) := by decide +kernel
theorem dX6_simulate_127 : decode cX6_simulate 127 = .ok (.bipush 99, 2) := by decide +kernel
theorem dX6_simulate_129 : decode cX6_simulate 129 = .ok (.invokevirtual 259, 3) := by decide +kernel
theorem dX6_simulate_132 : decode cX6_simulate 132 = .ok (.pop, 1) := by decide +kernel
theorem dX6_simulate_133 : decode cX6_simulate 133 = .ok (.iinc 6 1, 3) := by decide +kernel
theorem dX6_simulate_136 : decode cX6_simulate 136 = .ok (.goto (-91), 3) := by decide +kernel
theorem dX6_simulate_139 : decode cX6_simulate 139 = .ok (.aload_n 0, 1) := by decide +kernel
theorem dX6_simulate_140 : decode cX6_simulate 140 = .ok (.aload_n 0, 1) := by decide +kernel
theorem dX6_simulate_141 : decode cX6_simulate 141 = .ok (.getfield 19, 3) := by decide +kernel
theorem dX6_simulate_144 : decode cX6_simulate 144 = .ok (.iconst 0, 1) := by decide +kernel
theorem dX6_simulate_145 : decode cX6_simulate 145 = .ok (.invokevirtual 256, 3) := by decide +kernel
theorem dX6_simulate_148 : decode cX6_simulate 148 = .ok (.sipush 1000, 3) := by decide +kernel
theorem dX6_simulate_151 : decode cX6_simulate 151 = .ok (.aload_n 0, 1) := by decide +kernel
theorem dX6_simulate_152 : decode cX6_simulate 152 = .ok (.aload_n 0, 1) := by decide +kernel
theorem dX6_simulate_153 : decode cX6_simulate 153 = .ok (.getfield 19, 3) := by decide +kernel
theorem dX6_simulate_156 : decode cX6_simulate 156 = .ok (.iconst 1, 1) := by decide +kernel
theorem dX6_simulate_157 : decode cX6_simulate 157 = .ok (.invokevirtual 256, 3) := by decide +kernel
theorem dX6_simulate_160 : decode cX6_simulate 160 = .ok (.aload_n 0, 1) := by decide +kernel
theorem dX6_simulate_161 : decode cX6_simulate 161 = .ok (.aload_n 0, 1) := by decide +kernel
theorem dX6_simulate_162 : decode cX6_simulate 162 = .ok (.getfield 19, 3) := by decide +kernel
theorem dX6_simulate_165 : decode cX6_simulate 165 = .ok (.iconst 2, 1) := by decide +kernel
theorem dX6_simulate_166 : decode cX6_simulate 166 = .ok (.invokevirtual 256, 3) := by decide +kernel
theorem dX6_simulate_169 : decode cX6_simulate 169 = .ok (.iadd, 1) := by decide +kernel
theorem dX6_simulate_170 : decode cX6_simulate 170 = .ok (.aload_n 0, 1) := by decide +kernel
theorem dX6_simulate_171 : decode cX6_simulate 171 = .ok (.aload_n 0, 1) := by decide +kernel
theorem dX6_simulate_172 : decode cX6_simulate 172 = .ok (.getfield 19, 3) := by decide +kernel
theorem dX6_simulate_175 : decode cX6_simulate 175 = .ok (.iconst 3, 1) := by decide +kernel
theorem dX6_simulate_176 : decode cX6_simulate 176 = .ok (.invokevirtual 256, 3) := by decide +kernel
theorem dX6_simulate_179 : decode cX6_simulate 179 = .ok (.iadd, 1) := by decide +kernel
theorem dX6_simulate_180 : decode cX6_simulate 180 = .ok (.imul, 1) := by decide +kernel
theorem dX6_simulate_181 : decode cX6_simulate 181 = .ok (.iadd, 1) := by decide +kernel
theorem dX6_simulate_182 : decode cX6_simulate 182 = .ok (.ireturn, 1) := by decide +kernel
theorem dX6_save_0 : decode cX6_save 0 = .ok (.aload_n 0, 1) := by decide +kernel
theorem dX6_save_1 : decode cX6_save 1 = .ok (.iload_n 1, 1) := by decide +kernel
theorem dX6_save_2 : decode cX6_save 2 = .ok (.i2l, 1) := by decide +kernel
theorem dX6_save_3 : decode cX6_save 3 = .ok (.lconst 0, 1) := by decide +kernel
theorem dX6_save_4 : decode cX6_save 4 = .ok (.lconst 1, 1) := by decide +kernel
theorem dX6_save_5 : decode cX6_save 5 = .ok (.invokestatic 66, 3) := by decide +kernel
theorem dX6_save_8 : decode cX6_save 8 = .ok (.ifCond .eq 7, 3) := by decide +kernel
theorem dX6_save_11 : decode cX6_save 11 = .ok (.iconst 0, 1) := by decide +kernel
theorem dX6_save_12 : decode cX6_save 12 = .ok (.goto 4, 3) := by decide +kernel
theorem dX6_save_15 : decode cX6_save 15 = .ok (.iconst 1, 1) := by decide +kernel
theorem dX6_save_16 : decode cX6_save 16 = .ok (.invokevirtual 169, 3) := by decide +kernel
theorem dX6_save_19 : decode cX6_save 19 = .ok (.ifCond .eq 5, 3) := by decide +kernel
theorem dX6_save_22 : decode cX6_save 22 = .ok (.iconst 0, 1) := by decide +kernel
theorem dX6_save_23 : decode cX6_save 23 = .ok (.ireturn, 1) := by decide +kernel
theorem dX6_save_24 : decode cX6_save 24 = .ok (.aload_n 0, 1) := by decide +kernel
theorem dX6_save_25 : decode cX6_save 25 = .ok (.getfield 31, 3) := by decide +kernel
theorem dX6_save_28 : decode cX6_save 28 = .ok (.iload_n 1, 1) := by decide +kernel
theorem dX6_save_29 : decode cX6_save 29 = .ok (.iconst 1, 1) := by decide +kernel
theorem dX6_save_30 : decode cX6_save 30 = .ok (.bastore, 1) := by decide +kernel
theorem dX6_save_31 : decode cX6_save 31 = .ok (.aload_n 0, 1) := by decide +kernel
theorem dX6_save_32 : decode cX6_save 32 = .ok (.getfield 16, 3) := by decide +kernel
theorem dX6_save_35 : decode cX6_save 35 = .ok (.iconst 0, 1) := by decide +kernel
theorem dX6_save_36 : decode cX6_save 36 = .ok (.aload_n 0, 1) := by decide +kernel
theorem dX6_save_37 : decode cX6_save 37 = .ok (.getfield 28, 3) := by decide +kernel
theorem dX6_save_40 : decode cX6_save 40 = .ok (.bipush 72, 2) := by decide +kernel
theorem dX6_save_42 : decode cX6_save 42 = .ok (.iload_n 1, 1) := by decide +kernel
theorem dX6_save_43 : decode cX6_save 43 = .ok (.imul, 1) := by decide +kernel
theorem dX6_save_44 : decode cX6_save 44 = .ok (.invokestatic 192, 3) := by decide +kernel
theorem dX6_save_47 : decode cX6_save 47 = .ok (.aload_n 0, 1) := by decide +kernel
theorem dX6_save_48 : decode cX6_save 48 = .ok (.getfield 16, 3) := by decide +kernel
theorem dX6_save_51 : decode cX6_save 51 = .ok (.bipush 7, 2) := by decide +kernel
theorem dX6_save_53 : decode cX6_save 53 = .ok (.iaload, 1) := by decide +kernel
theorem dX6_save_54 : decode cX6_save 54 = .ok (.ireturn, 1) := by decide +kernel
theorem dX6_restore_0 : decode cX6_restore 0 = .ok (.aload_n 0, 1) := by decide +kernel
theorem dX6_restore_1 : decode cX6_restore 1 = .ok (.iload_n 1, 1) := by decide +kernel
theorem dX6_restore_2 : decode cX6_restore 2 = .ok (.i2l, 1) := by decide +kernel
theorem dX6_restore_3 : decode cX6_restore 3 = .ok (.lconst 0, 1) := by decide +kernel
theorem dX6_restore_4 : decode cX6_restore 4 = .ok (.lconst 1, 1) := by decide +kernel
theorem dX6_restore_5 : decode cX6_restore 5 = .ok (.invokestatic 66, 3) := by decide +kernel
theorem dX6_restore_8 : decode cX6_restore 8 = .ok (.ifCond .ne 7, 3) := by decide +kernel
theorem dX6_restore_11 : decode cX6_restore 11 = .ok (.iconst 1, 1) := by decide +kernel
theorem dX6_restore_12 : decode cX6_restore 12 = .ok (.goto 17, 3) := by decide +kernel
theorem dX6_restore_15 : decode cX6_restore 15 = .ok (.aload_n 0, 1) := by decide +kernel
theorem dX6_restore_16 : decode cX6_restore 16 = .ok (.getfield 31, 3) := by decide +kernel
theorem dX6_restore_19 : decode cX6_restore 19 = .ok (.iload_n 1, 1) := by decide +kernel
theorem dX6_restore_20 : decode cX6_restore 20 = .ok (.baload, 1) := by decide +kernel
theorem dX6_restore_21 : decode cX6_restore 21 = .ok (.ifCond .ne 7, 3) := by decide +kernel
theorem dX6_restore_24 : decode cX6_restore 24 = .ok (.iconst 2, 1) := by decide +kernel
theorem dX6_restore_25 : decode cX6_restore 25 = .ok (.goto 4, 3) := by decide +kernel
theorem dX6_restore_28 : decode cX6_restore 28 = .ok (.iconst 0, 1) := by decide +kernel
theorem dX6_restore_29 : decode cX6_restore 29 = .ok (.invokevirtual 169, 3) := by decide +kernel
theorem dX6_restore_32 : decode cX6_restore 32 = .ok (.ifCond .eq 5, 3) := by decide +kernel
theorem dX6_restore_35 : decode cX6_restore 35 = .ok (.iconst 0, 1) := by decide +kernel
theorem dX6_restore_36 : decode cX6_restore 36 = .ok (.ireturn, 1) := by decide +kernel
theorem dX6_restore_37 : decode cX6_restore 37 = .ok (.aload_n 0, 1) := by decide +kernel
theorem dX6_restore_38 : decode cX6_restore 38 = .ok (.getfield 28, 3) := by decide +kernel
theorem dX6_restore_41 : decode cX6_restore 41 = .ok (.bipush 72, 2) := by decide +kernel
theorem dX6_restore_43 : decode cX6_restore 43 = .ok (.iload_n 1, 1) := by decide +kernel
theorem dX6_restore_44 : decode cX6_restore 44 = .ok (.imul, 1) := by decide +kernel
theorem dX6_restore_45 : decode cX6_restore 45 = .ok (.aload_n 0, 1) := by decide +kernel
theorem dX6_restore_46 : decode cX6_restore 46 = .ok (.getfield 16, 3) := by decide +kernel
theorem dX6_restore_49 : decode cX6_restore 49 = .ok (.iconst 0, 1) := by decide +kernel
theorem dX6_restore_50 : decode cX6_restore 50 = .ok (.invokestatic 192, 3) := by decide +kernel
theorem dX6_restore_53 : decode cX6_restore 53 = .ok (.aload_n 0, 1) := by decide +kernel
theorem dX6_restore_54 : decode cX6_restore 54 = .ok (.iconst 0, 1) := by decide +kernel
theorem dX6_restore_55 : decode cX6_restore 55 = .ok (.putfield 196, 3) := by decide +kernel
theorem dX6_restore_58 : decode cX6_restore 58 = .ok (.aload_n 0, 1) := by decide +kernel
theorem dX6_restore_59 : decode cX6_restore 59 = .ok (.getfield 16, 3) := by decide +kernel
theorem dX6_restore_62 : decode cX6_restore 62 = .ok (.bipush 7, 2) := by decide +kernel
theorem dX6_restore_64 : decode cX6_restore 64 = .ok (.iaload, 1) := by decide +kernel
theorem dX6_restore_65 : decode cX6_restore 65 = .ok (.ireturn, 1) := by decide +kernel
