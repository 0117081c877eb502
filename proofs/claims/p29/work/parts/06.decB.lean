theorem dX5_init_0 : decode cX5_init 0 = .ok (.aload_n 0, 1) := by decide +kernel
theorem dX5_init_1 : decode cX5_init 1 = .ok (.invokespecial 3, 3) := by decide +kernel
theorem dX5_init_4 : decode cX5_init 4 = .ok (.aload_n 0, 1) := by decide +kernel
theorem dX5_init_5 : decode cX5_init 5 = .ok (.new 9, 3) := by decide +kernel
theorem dX5_init_8 : decode cX5_init 8 = .ok (.dup, 1) := by decide +kernel
theorem dX5_init_9 : decode cX5_init 9 = .ok (.invokespecial 11, 3) := by decide +kernel
theorem dX5_init_12 : decode cX5_init 12 = .ok (.putfield 12, 3) := by decide +kernel
theorem dX5_init_15 : decode cX5_init 15 = .ok (.aload_n 0, 1) := by decide +kernel
theorem dX5_init_16 : decode cX5_init 16 = .ok (.new 16, 3) := by decide +kernel
theorem dX5_init_19 : decode cX5_init 19 = .ok (.dup, 1) := by decide +kernel
theorem dX5_init_20 : decode cX5_init 20 = .ok (.invokespecial 18, 3) := by decide +kernel
theorem dX5_init_23 : decode cX5_init 23 = .ok (.putfield 19, 3) := by decide +kernel
theorem dX5_init_26 : decode cX5_init 26 = .ok (.aload_n 0, 1) := by decide +kernel
theorem dX5_init_27 : decode cX5_init 27 = .ok (.new 16, 3) := by decide +kernel
theorem dX5_init_30 : decode cX5_init 30 = .ok (.dup, 1) := by decide +kernel
theorem dX5_init_31 : decode cX5_init 31 = .ok (.invokespecial 18, 3) := by decide +kernel
theorem dX5_init_34 : decode cX5_init 34 = .ok (.putfield 23, 3) := by decide +kernel
theorem dX5_init_37 : decode cX5_init 37 = .ok (.aload_n 0, 1) := by decide +kernel
theorem dX5_init_38 : decode cX5_init 38 = .ok (.new 26, 3) := by decide +kernel
theorem dX5_init_41 : decode cX5_init 41 = .ok (.dup, 1) := by decide +kernel
theorem dX5_init_42 : decode cX5_init 42 = .ok (.invokespecial 28, 3) := by decide +kernel
theorem dX5_init_45 : decode cX5_init 45 = .ok (.putfield 29, 3) := by decide +kernel
theorem dX5_init_48 : decode cX5_init 48 = .ok (.aload_n 0, 1) := by decide +kernel
theorem dX5_init_49 : decode cX5_init 49 = .ok (.new 33, 3) := by decide +kernel
theorem dX5_init_52 : decode cX5_init 52 = .ok (.dup, 1) := by decide +kernel
theorem dX5_init_53 : decode cX5_init 53 = .ok (.invokespecial 35, 3) := by decide +kernel
theorem dX5_init_56 : decode cX5_init 56 = .ok (.putfield 36, 3) := by decide +kernel
theorem dX5_init_59 : decode cX5_init 59 = .ok (.aload_n 0, 1) := by decide +kernel
theorem dX5_init_60 : decode cX5_init 60 = .ok (.iconst 2, 1) := by decide +kernel
theorem dX5_init_61 : decode cX5_init 61 = .ok (.anewarray 16, 3) := by decide +kernel
theorem dX5_init_64 : decode cX5_init 64 = .ok (.putfield 40, 3) := by decide +kernel
theorem dX5_init_67 : decode cX5_init 67 = .ok (.aload_n 0, 1) := by decide +kernel
theorem dX5_init_68 : decode cX5_init 68 = .ok (.iconst 2, 1) := by decide +kernel
theorem dX5_init_69 : decode cX5_init 69 = .ok (.newarray .boolean, 2) := by decide +kernel
theorem dX5_init_71 : decode cX5_init 71 = .ok (.putfield 44, 3) := by decide +kernel
theorem dX5_init_74 : decode cX5_init 74 = .ok (.iconst 0, 1) := by decide +kernel
theorem dX5_init_75 : decode cX5_init 75 = .ok (.istore_n 1, 1) := by decide +kernel
theorem dX5_init_76 : decode cX5_init 76 = .ok (.iload_n 1, 1) := by decide +kernel
theorem dX5_init_77 : decode cX5_init 77 = .ok (.iconst 2, 1) := by decide +kernel
theorem dX5_init_78 : decode cX5_init 78 = .ok (.if_icmp .ge 22, 3) := by decide +kernel
theorem dX5_init_81 : decode cX5_init 81 = .ok (.aload_n 0, 1) := by decide +kernel
theorem dX5_init_82 : decode cX5_init 82 = .ok (.getfield 40, 3) := by decide +kernel
theorem dX5_init_85 : decode cX5_init 85 = .ok (.iload_n 1, 1) := by decide +kernel
theorem dX5_init_86 : decode cX5_init 86 = .ok (.new 16, 3) := by decide +kernel
theorem dX5_init_89 : decode cX5_init 89 = .ok (.dup, 1) := by decide +kernel
theorem dX5_init_90 : decode cX5_init 90 = .ok (.invokespecial 18, 3) := by decide +kernel
theorem dX5_init_93 : decode cX5_init 93 = .ok (.aastore, 1) := by decide +kernel
theorem dX5_init_94 : decode cX5_init 94 = .ok (.iinc 1 1, 3) := by decide +kernel
theorem dX5_init_97 : decode cX5_init 97 = .ok (.goto (-21), 3) := by decide +kernel
theorem dX5_init_100 : decode cX5_init 100 = .ok (.return_, 1) := by decide +kernel
theorem dX5_append_0 : decode cX5_append 0 = .ok (.iload_n 1, 1) := by decide +kernel
theorem dX5_append_1 : decode cX5_append 1 = .ok (.ifCond .lt 10, 3) := by decide +kernel
theorem dX5_append_4 : decode cX5_append 4 = .ok (.iload_n 1, 1) := by decide +kernel
theorem dX5_append_5 : decode cX5_append 5 = .ok (.sipush 255, 3) := by decide +kernel
theorem dX5_append_8 : decode cX5_append 8 = .ok (.if_icmp .le 11, 3) := by decide +kernel
theorem dX5_append_11 : decode cX5_append 11 = .ok (.new 48, 3) := by decide +kernel
theorem dX5_append_14 : decode cX5_append 14 = .ok (.dup, 1) := by decide +kernel
theorem dX5_append_15 : decode cX5_append 15 = .ok (.invokespecial 50, 3) := by decide +kernel
theorem dX5_append_18 : decode cX5_append 18 = .ok (.athrow, 1) := by decide +kernel
theorem dX5_append_19 : decode cX5_append 19 = .ok (.aload_n 0, 1) := by decide +kernel
theorem dX5_append_20 : decode cX5_append 20 = .ok (.getfield 12, 3) := by decide +kernel
theorem dX5_append_23 : decode cX5_append 23 = .ok (.invokevirtual 51, 3) := by decide +kernel
theorem dX5_append_26 : decode cX5_append 26 = .ok (.ifCond .eq 11, 3) := by decide +kernel
theorem dX5_append_29 : decode cX5_append 29 = .ok (.new 55, 3) := by decide +kernel
theorem dX5_append_32 : decode cX5_append 32 = .ok (.dup, 1) := by decide +kernel
theorem dX5_append_33 : decode cX5_append 33 = .ok (.invokespecial 57, 3) := by decide +kernel
theorem dX5_append_36 : decode cX5_append 36 = .ok (.athrow, 1) := by decide +kernel
theorem dX5_append_37 : decode cX5_append 37 = .ok (.aload_n 0, 1) := by decide +kernel
theorem dX5_append_38 : decode cX5_append 38 = .ok (.getfield 12, 3) := by decide +kernel
theorem dX5_append_41 : decode cX5_append 41 = .ok (.iload_n 1, 1) := by decide +kernel
theorem dX5_append_42 : decode cX5_append 42 = .ok (.i2c, 1) := by decide +kernel
theorem dX5_append_43 : decode cX5_append 43 = .ok (.invokevirtual 58, 3) := by decide +kernel
theorem dX5_append_46 : decode cX5_append 46 = .ok (.ireturn, 1) := by decide +kernel
theorem dX5_clearText_0 : decode cX5_clearText 0 = .ok (.aload_n 0, 1) := by decide +kernel
theorem dX5_clearText_1 : decode cX5_clearText 1 = .ok (.getfield 12, 3) := by decide +kernel
theorem dX5_clearText_4 : decode cX5_clearText 4 = .ok (.invokevirtual 62, 3) := by decide +kernel
theorem dX5_clearText_7 : decode cX5_clearText 7 = .ok (.ireturn, 1) := by decide +kernel
theorem dX5_errorPosition_0 : decode cX5_errorPosition 0 = .ok (.aload_n 0, 1) := by decide +kernel
theorem dX5_errorPosition_1 : decode cX5_errorPosition 1 = .ok (.getfield 12, 3) := by decide +kernel
theorem dX5_errorPosition_4 : decode cX5_errorPosition 4 = .ok (.aload_n 0, 1) := by decide +kernel
theorem dX5_errorPosition_5 : decode cX5_errorPosition 5 = .ok (.getfield 23, 3) := by decide +kernel
theorem dX5_errorPosition_8 : decode cX5_errorPosition 8 = .ok (.invokevirtual 66, 3) := by decide +kernel
theorem dX5_errorPosition_11 : decode cX5_errorPosition 11 = .ok (.ireturn, 1) := by decide +kernel
theorem dX5_load_0 : decode cX5_load 0 = .ok (.aload_n 0, 1) := by decide +kernel
theorem dX5_load_1 : decode cX5_load 1 = .ok (.getfield 12, 3) := by decide +kernel
theorem dX5_load_4 : decode cX5_load 4 = .ok (.aload_n 0, 1) := by decide +kernel
theorem dX5_load_5 : decode cX5_load 5 = .ok (.getfield 23, 3) := by decide +kernel
theorem dX5_load_8 : decode cX5_load 8 = .ok (.invokevirtual 66, 3) := by decide +kernel
theorem dX5_load_11 : decode cX5_load 11 = .ok (.bipush (-9), 2) := by decide +kernel
theorem dX5_load_13 : decode cX5_load 13 = .ok (.if_icmp .eq 11, 3) := by decide +kernel
theorem dX5_load_16 : decode cX5_load 16 = .ok (.new 55, 3) := by decide +kernel
theorem dX5_load_19 : decode cX5_load 19 = .ok (.dup, 1) := by decide +kernel
theorem dX5_load_20 : decode cX5_load 20 = .ok (.invokespecial 57, 3) := by decide +kernel
theorem dX5_load_23 : decode cX5_load 23 = .ok (.athrow, 1) := by decide +kernel
theorem dX5_load_24 : decode cX5_load 24 = .ok (.aload_n 0, 1) := by decide +kernel
theorem dX5_load_25 : decode cX5_load 25 = .ok (.getfield 23, 3) := by decide +kernel
theorem dX5_load_28 : decode cX5_load 28 = .ok (.invokevirtual 70, 3) := by decide +kernel
theorem dX5_load_31 : decode cX5_load 31 = .ok (.aload_n 0, 1) := by decide +kernel
theorem dX5_load_32 : decode cX5_load 32 = .ok (.getfield 19, 3) := by decide +kernel
theorem dX5_load_35 : decode cX5_load 35 = .ok (.aload_n 0, 1) := by decide +kernel
theorem dX5_load_36 : decode cX5_load 36 = .ok (.getfield 23, 3) := by decide +kernel
theorem dX5_load_39 : decode cX5_load 39 = .ok (.invokevirtual 73, 3) := by decide +kernel
theorem dX5_load_42 : decode cX5_load 42 = .ok (.aload_n 0, 1) := by decide +kernel
theorem dX5_load_43 : decode cX5_load 43 = .ok (.getfield 36, 3) := by decide +kernel
theorem dX5_load_46 : decode cX5_load 46 = .ok (.invokevirtual 77, 3) := by decide +kernel
theorem dX5_load_49 : decode cX5_load 49 = .ok (.iconst 0, 1) := by decide +kernel
theorem dX5_load_50 : decode cX5_load 50 = .ok (.istore_n 1, 1) := by decide +kernel
theorem dX5_load_51 : decode cX5_load 51 = .ok (.iload_n 1, 1) := by decide +kernel
theorem dX5_load_52 : decode cX5_load 52 = .ok (.iconst 2, 1) := by decide +kernel
theorem dX5_load_53 : decode cX5_load 53 = .ok (.if_icmp .ge 16, 3) := by decide +kernel
theorem dX5_load_56 : decode cX5_load 56 = .ok (.aload_n 0, 1) := by decide +kernel
theorem dX5_load_57 : decode cX5_load 57 = .ok (.getfield 44, 3) := by decide +kernel
theorem dX5_load_60 : decode cX5_load 60 = .ok (.iload_n 1, 1) := by decide +kernel
theorem dX5_load_61 : decode cX5_load 61 = .ok (.iconst 0, 1) := by decide +kernel
theorem dX5_load_62 : decode cX5_load 62 = .ok (.bastore, 1) := by decide +kernel
theorem dX5_load_63 : decode cX5_load 63 = .ok (.iinc 1 1, 3) := by decide +kernel
theorem dX5_load_66 : decode cX5_load 66 = .ok (.goto (-15), 3) := by decide +kernel
theorem dX5_load_69 : decode cX5_load 69 = .ok (.aload_n 0, 1) := by decide +kernel
theorem dX5_load_70 : decode cX5_load 70 = .ok (.getfield 19, 3) := by decide +kernel
theorem dX5_load_73 : decode cX5_load 73 = .ok (.getfield 80, 3) := by decide +kernel
theorem dX5_load_76 : decode cX5_load 76 = .ok (.ireturn, 1) := by decide +kernel
theorem dX5_about_0 : decode cX5_about 0 = .ok (.iload_n 1, 1) := by decide +kernel
theorem dX5_about_1 : decode cX5_about 1 = .ok (.ifCond .lt 18, 3) := by decide +kernel
theorem dX5_about_4 : decode cX5_about 4 = .ok (.iload_n 1, 1) := by decide +kernel
theorem dX5_about_5 : decode cX5_about 5 = .ok (.bipush 6, 2) := by decide +kernel
theorem dX5_about_7 : decode cX5_about 7 = .ok (.if_icmp .ge 12, 3) := by decide +kernel
theorem dX5_about_10 : decode cX5_about 10 = .ok (.aload_n 0, 1) := by decide +kernel
theorem dX5_about_11 : decode cX5_about 11 = .ok (.getfield 19, 3) := by decide +kernel
theorem dX5_about_14 : decode cX5_about 14 = .ok (.iload_n 1, 1) := by decide +kernel
theorem dX5_about_15 : decode cX5_about 15 = .ok (.invokevirtual 84, 3) := by decide +kernel
theorem dX5_about_18 : decode cX5_about 18 = .ok (.ireturn, 1) := by decide +kernel
theorem dX5_about_19 : decode cX5_about 19 = .ok (.iload_n 1, 1) := by decide +kernel
theorem dX5_about_20 : decode cX5_about 20 = .ok (.tableswitch 64 6 9 #[32, 40, 48, 56], 32) := by decide +kernel
theorem dX5_about_52 : decode cX5_about 52 = .ok (.aload_n 0, 1) := by decide +kernel
theorem dX5_about_53 : decode cX5_about 53 = .ok (.getfield 19, 3) := by decide +kernel
theorem dX5_about_56 : decode cX5_about 56 = .ok (.getfield 88, 3) := by decide +kernel
theorem dX5_about_59 : decode cX5_about 59 = .ok (.ireturn, 1) := by decide +kernel
theorem dX5_about_60 : decode cX5_about 60 = .ok (.aload_n 0, 1) := by decide +kernel
theorem dX5_about_61 : decode cX5_about 61 = .ok (.getfield 19, 3) := by decide +kernel
theorem dX5_about_64 : decode cX5_about 64 = .ok (.getfield 80, 3) := by decide +kernel
theorem dX5_about_67 : decode cX5_about 67 = .ok (.ireturn, 1) := by decide +kernel
theorem dX5_about_68 : decode cX5_about 68 = .ok (.aload_n 0, 1) := by decide +kernel
theorem dX5_about_69 : decode cX5_about 69 = .ok (.getfield 19, 3) := by decide +kernel
theorem dX5_about_72 : decode cX5_about 72 = .ok (.invokevirtual 91, 3) := by decide +kernel
theorem dX5_about_75 : decode cX5_about 75 = .ok (.ireturn, 1) := by decide +kernel
theorem dX5_about_76 : decode cX5_about 76 = .ok (.aload_n 0, 1) := by decide +kernel
theorem dX5_about_77 : decode cX5_about 77 = .ok (.getfield 19, 3) := by decide +kernel
theorem dX5_about_80 : decode cX5_about 80 = .ok (.invokevirtual 94, 3) := by decide +kernel
theorem dX5_about_83 : decode cX5_about 83 = .ok (.ireturn, 1) := by decide +kernel
theorem dX5_about_84 : decode cX5_about 84 = .ok (.new 48, 3) := by decide +kernel
theorem dX5_about_87 : decode cX5_about 87 = .ok (.dup, 1) := by decide +kernel
theorem dX5_about_88 : decode cX5_about 88 = .ok (.invokespecial 50, 3) := by decide +kernel
theorem dX5_about_91 : decode cX5_about 91 = .ok (.athrow, 1) := by decide +kernel
theorem dX5_cell_0 : decode cX5_cell 0 = .ok (.aload_n 0, 1) := by decide +kernel
theorem dX5_cell_1 : decode cX5_cell 1 = .ok (.iload_n 1, 1) := by decide +kernel
theorem dX5_cell_2 : decode cX5_cell 2 = .ok (.iload_n 2, 1) := by decide +kernel
theorem dX5_cell_3 : decode cX5_cell 3 = .ok (.invokevirtual 97, 3) := by decide +kernel
theorem dX5_cell_6 : decode cX5_cell 6 = .ok (.iload_n 3, 1) := by decide +kernel
theorem dX5_cell_7 : decode cX5_cell 7 = .ok (.ifCond .eq 15, 3) := by decide +kernel
theorem dX5_cell_10 : decode cX5_cell 10 = .ok (.aload_n 0, 1) := by decide +kernel
theorem dX5_cell_11 : decode cX5_cell 11 = .ok (.getfield 19, 3) := by decide +kernel
theorem dX5_cell_14 : decode cX5_cell 14 = .ok (.iload_n 1, 1) := by decide +kernel
theorem dX5_cell_15 : decode cX5_cell 15 = .ok (.iload_n 2, 1) := by decide +kernel
theorem dX5_cell_16 : decode cX5_cell 16 = .ok (.invokevirtual 101, 3) := by decide +kernel
theorem dX5_cell_19 : decode cX5_cell 19 = .ok (.goto 12, 3) := by decide +kernel
theorem dX5_cell_22 : decode cX5_cell 22 = .ok (.aload_n 0, 1) := by decide +kernel
theorem dX5_cell_23 : decode cX5_cell 23 = .ok (.getfield 19, 3) := by decide +kernel
theorem dX5_cell_26 : decode cX5_cell 26 = .ok (.iload_n 1, 1) := by decide +kernel
theorem dX5_cell_27 : decode cX5_cell 27 = .ok (.iload_n 2, 1) := by decide +kernel
theorem dX5_cell_28 : decode cX5_cell 28 = .ok (.invokevirtual 105, 3) := by decide +kernel
theorem dX5_cell_31 : decode cX5_cell 31 = .ok (.ireturn, 1) := by decide +kernel
theorem dX5_set_0 : decode cX5_set 0 = .ok (.iload_n 1, 1) := by decide +kernel
theorem dX5_set_1 : decode cX5_set 1 = .ok (.iload_n 2, 1) := by decide +kernel
theorem dX5_set_2 : decode cX5_set 2 = .ok (.invokestatic 108, 3) := by decide +kernel
theorem dX5_set_5 : decode cX5_set 5 = .ok (.ifCond .ne 11, 3) := by decide +kernel
theorem dX5_set_8 : decode cX5_set 8 = .ok (.new 48, 3) := by decide +kernel
theorem dX5_set_11 : decode cX5_set 11 = .ok (.dup, 1) := by decide +kernel
theorem dX5_set_12 : decode cX5_set 12 = .ok (.invokespecial 50, 3) := by decide +kernel
theorem dX5_set_15 : decode cX5_set 15 = .ok (.athrow, 1) := by decide +kernel
theorem dX5_set_16 : decode cX5_set 16 = .ok (.aload_n 0, 1) := by decide +kernel
theorem dX5_set_17 : decode cX5_set 17 = .ok (.getfield 36, 3) := by decide +kernel
theorem dX5_set_20 : decode cX5_set 20 = .ok (.aload_n 0, 1) := by decide +kernel
theorem dX5_set_21 : decode cX5_set 21 = .ok (.getfield 19, 3) := by decide +kernel
theorem dX5_set_24 : decode cX5_set 24 = .ok (.invokevirtual 112, 3) := by decide +kernel
theorem dX5_set_27 : decode cX5_set 27 = .ok (.aload_n 0, 1) := by decide +kernel
theorem dX5_set_28 : decode cX5_set 28 = .ok (.getfield 19, 3) := by decide +kernel
theorem dX5_set_31 : decode cX5_set 31 = .ok (.iload_n 1, 1) := by decide +kernel
theorem dX5_set_32 : decode cX5_set 32 = .ok (.invokevirtual 84, 3) := by decide +kernel
theorem dX5_set_35 : decode cX5_set 35 = .ok (.istore_n 3, 1) := by decide +kernel
theorem dX5_set_36 : decode cX5_set 36 = .ok (.aload_n 0, 1) := by decide +kernel
theorem dX5_set_37 : decode cX5_set 37 = .ok (.getfield 19, 3) := by decide +kernel
theorem dX5_set_40 : decode cX5_set 40 = .ok (.iload_n 1, 1) := by decide +kernel
theorem dX5_set_41 : decode cX5_set 41 = .ok (.iload_n 2, 1) := by decide +kernel
theorem dX5_set_42 : decode cX5_set 42 = .ok (.invokevirtual 115, 3) := by decide +kernel
theorem dX5_set_45 : decode cX5_set 45 = .ok (.iload_n 3, 1) := by decide +kernel
theorem dX5_set_46 : decode cX5_set 46 = .ok (.ireturn, 1) := by decide +kernel
theorem dX5_write_0 : decode cX5_write 0 = .ok (.aload_n 0, 1) := by decide +kernel
theorem dX5_write_1 : decode cX5_write 1 = .ok (.iload_n 1, 1) := by decide +kernel
theorem dX5_write_2 : decode cX5_write 2 = .ok (.iload_n 2, 1) := by decide +kernel
theorem dX5_write_3 : decode cX5_write 3 = .ok (.invokevirtual 97, 3) := by decide +kernel
theorem dX5_write_6 : decode cX5_write 6 = .ok (.iload_n 3, 1) := by decide +kernel
theorem dX5_write_7 : decode cX5_write 7 = .ok (.iconst (-1), 1) := by decide +kernel
theorem dX5_write_8 : decode cX5_write 8 = .ok (.if_icmp .eq 24, 3) := by decide +kernel
theorem dX5_write_11 : decode cX5_write 11 = .ok (.iload_n 3, 1) := by decide +kernel
theorem dX5_write_12 : decode cX5_write 12 = .ok (.bipush 99, 2) := by decide +kernel
theorem dX5_write_14 : decode cX5_write 14 = .ok (.if_icmp .eq 18, 3) := by decide +kernel
theorem dX5_write_17 : decode cX5_write 17 = .ok (.iload_n 3, 1) := by decide +kernel
theorem dX5_write_18 : decode cX5_write 18 = .ok (.invokestatic 118, 3) := by decide +kernel
theorem dX5_write_21 : decode cX5_write 21 = .ok (.ifCond .ne 11, 3) := by decide +kernel
theorem dX5_write_24 : decode cX5_write 24 = .ok (.new 48, 3) := by decide +kernel
theorem dX5_write_27 : decode cX5_write 27 = .ok (.dup, 1) := by decide +kernel
theorem dX5_write_28 : decode cX5_write 28 = .ok (.invokespecial 50, 3) := by decide +kernel
theorem dX5_write_31 : decode cX5_write 31 = .ok (.athrow, 1) := by decide +kernel
theorem dX5_write_32 : decode cX5_write 32 = .ok (.iload_n 3, 1) := by decide +kernel
theorem dX5_write_33 : decode cX5_write 33 = .ok (.bipush 99, 2) := by decide +kernel
theorem dX5_write_35 : decode cX5_write 35 = .ok (.if_icmp .ne 23, 3) := by decide +kernel
theorem dX5_write_38 : decode cX5_write 38 = .ok (.aload_n 0, 1) := by decide +kernel
theorem dX5_write_39 : decode cX5_write 39 = .ok (.getfield 19, 3) := by decide +kernel
theorem dX5_write_42 : decode cX5_write 42 = .ok (.iload_n 1, 1) := by decide +kernel
theorem dX5_write_43 : decode cX5_write 43 = .ok (.iload_n 2, 1) := by decide +kernel
theorem dX5_write_44 : decode cX5_write 44 = .ok (.invokevirtual 122, 3) := by decide +kernel
theorem dX5_write_47 : decode cX5_write 47 = .ok (.ifCond .ne 11, 3) := by decide +kernel
theorem dX5_write_50 : decode cX5_write 50 = .ok (.new 55, 3) := by decide +kernel
theorem dX5_write_53 : decode cX5_write 53 = .ok (.dup, 1) := by decide +kernel
theorem dX5_write_54 : decode cX5_write 54 = .ok (.invokespecial 57, 3) := by decide +kernel
theorem dX5_write_57 : decode cX5_write 57 = .ok (.athrow, 1) := by decide +kernel
theorem dX5_write_58 : decode cX5_write 58 = .ok (.aload_n 0, 1) := by decide +kernel
theorem dX5_write_59 : decode cX5_write 59 = .ok (.getfield 36, 3) := by decide +kernel
theorem dX5_write_62 : decode cX5_write 62 = .ok (.aload_n 0, 1) := by decide +kernel
theorem dX5_write_63 : decode cX5_write 63 = .ok (.getfield 19, 3) := by decide +kernel
theorem dX5_write_66 : decode cX5_write 66 = .ok (.invokevirtual 112, 3) := by decide +kernel
theorem dX5_write_69 : decode cX5_write 69 = .ok (.aload_n 0, 1) := by decide +kernel
theorem dX5_write_70 : decode cX5_write 70 = .ok (.getfield 19, 3) := by decide +kernel
theorem dX5_write_73 : decode cX5_write 73 = .ok (.iload_n 1, 1) := by decide +kernel
theorem dX5_write_74 : decode cX5_write 74 = .ok (.iload_n 2, 1) := by decide +kernel
theorem dX5_write_75 : decode cX5_write 75 = .ok (.invokevirtual 105, 3) := by decide +kernel
theorem dX5_write_78 : decode cX5_write 78 = .ok (.istore 4, 2) := by decide +kernel
theorem dX5_write_80 : decode cX5_write 80 = .ok (.aload_n 0, 1) := by decide +kernel
theorem dX5_write_81 : decode cX5_write 81 = .ok (.getfield 19, 3) := by decide +kernel
theorem dX5_write_84 : decode cX5_write 84 = .ok (.iload_n 1, 1) := by decide +kernel
theorem dX5_write_85 : decode cX5_write 85 = .ok (.iload_n 2, 1) := by decide +kernel
theorem dX5_write_86 : decode cX5_write 86 = .ok (.iload_n 3, 1) := by decide +kernel
theorem dX5_write_87 : decode cX5_write 87 = .ok (.iconst (-1), 1) := by decide +kernel
theorem dX5_write_88 : decode cX5_write 88 = .ok (.if_icmp .ne 8, 3) := by decide +kernel
theorem dX5_write_91 : decode cX5_write 91 = .ok (.bipush (-9), 2) := by decide +kernel
theorem dX5_write_93 : decode cX5_write 93 = .ok (.goto 4, 3) := by decide +kernel
theorem dX5_write_96 : decode cX5_write 96 = .ok (.iload_n 3, 1) := by decide +kernel
theorem dX5_write_97 : decode cX5_write 97 = .ok (.invokevirtual 125, 3) := by decide +kernel
theorem dX5_write_100 : decode cX5_write 100 = .ok (.aload_n 0, 1) := by decide +kernel
theorem dX5_write_101 : decode cX5_write 101 = .ok (.getfield 19, 3) := by decide +kernel
theorem dX5_write_104 : decode cX5_write 104 = .ok (.invokevirtual 129, 3) := by decide +kernel
theorem dX5_write_107 : decode cX5_write 107 = .ok (.iload 4, 2) := by decide +kernel
theorem dX5_write_109 : decode cX5_write 109 = .ok (.ireturn, 1) := by decide +kernel
theorem dX5_transpose_0 : decode cX5_transpose 0 = .ok (.aload_n 0, 1) := by decide +kernel
theorem dX5_transpose_1 : decode cX5_transpose 1 = .ok (.iload_n 1, 1) := by decide +kernel
theorem dX5_transpose_2 : decode cX5_transpose 2 = .ok (.invokevirtual 132, 3) := by decide +kernel
theorem dX5_transpose_5 : decode cX5_transpose 5 = .ok (.iload_n 2, 1) := by decide +kernel
theorem dX5_transpose_6 : decode cX5_transpose 6 = .ok (.bipush (-60), 2) := by decide +kernel
theorem dX5_transpose_8 : decode cX5_transpose 8 = .ok (.if_icmp .lt 9, 3) := by decide +kernel
theorem dX5_transpose_11 : decode cX5_transpose 11 = .ok (.iload_n 2, 1) := by decide +kernel
theorem dX5_transpose_12 : decode cX5_transpose 12 = .ok (.bipush 60, 2) := by decide +kernel
theorem dX5_transpose_14 : decode cX5_transpose 14 = .ok (.if_icmp .le 11, 3) := by decide +kernel
theorem dX5_transpose_17 : decode cX5_transpose 17 = .ok (.new 48, 3) := by decide +kernel
theorem dX5_transpose_20 : decode cX5_transpose 20 = .ok (.dup, 1) := by decide +kernel
theorem dX5_transpose_21 : decode cX5_transpose 21 = .ok (.invokespecial 50, 3) := by decide +kernel
theorem dX5_transpose_24 : decode cX5_transpose 24 = .ok (.athrow, 1) := by decide +kernel
theorem dX5_transpose_25 : decode cX5_transpose 25 = .ok (.aload_n 0, 1) := by decide +kernel
theorem dX5_transpose_26 : decode cX5_transpose 26 = .ok (.getfield 19, 3) := by decide +kernel
theorem dX5_transpose_29 : decode cX5_transpose 29 = .ok (.iload_n 1, 1) := by decide +kernel
theorem dX5_transpose_30 : decode cX5_transpose 30 = .ok (.iload_n 2, 1) := by decide +kernel
theorem dX5_transpose_31 : decode cX5_transpose 31 = .ok (.invokevirtual 136, 3) := by decide +kernel
theorem dX5_transpose_34 : decode cX5_transpose 34 = .ok (.ifCond .ne 11, 3) := by decide +kernel
theorem dX5_transpose_37 : decode cX5_transpose 37 = .ok (.new 55, 3) := by decide +kernel
theorem dX5_transpose_40 : decode cX5_transpose 40 = .ok (.dup, 1) := by decide +kernel
theorem dX5_transpose_41 : decode cX5_transpose 41 = .ok (.invokespecial 57, 3) := by decide +kernel
theorem dX5_transpose_44 : decode cX5_transpose 44 = .ok (.athrow, 1) := by decide +kernel
theorem dX5_transpose_45 : decode cX5_transpose 45 = .ok (.aload_n 0, 1) := by decide +kernel
theorem dX5_transpose_46 : decode cX5_transpose 46 = .ok (.getfield 36, 3) := by decide +kernel
theorem dX5_transpose_49 : decode cX5_transpose 49 = .ok (.aload_n 0, 1) := by decide +kernel
theorem dX5_transpose_50 : decode cX5_transpose 50 = .ok (.getfield 19, 3) := by decide +kernel
theorem dX5_transpose_53 : decode cX5_transpose 53 = .ok (.invokevirtual 112, 3) := by decide +kernel
theorem dX5_transpose_56 : decode cX5_transpose 56 = .ok (.aload_n 0, 1) := by decide +kernel
theorem dX5_transpose_57 : decode cX5_transpose 57 = .ok (.getfield 19, 3) := by decide +kernel
theorem dX5_transpose_60 : decode cX5_transpose 60 = .ok (.iload_n 1, 1) := by decide +kernel
theorem dX5_transpose_61 : decode cX5_transpose 61 = .ok (.iload_n 2, 1) := by decide +kernel
theorem dX5_transpose_62 : decode cX5_transpose 62 = .ok (.invokevirtual 139, 3) := by decide +kernel
theorem dX5_transpose_65 : decode cX5_transpose 65 = .ok (.ireturn, 1) := by decide +kernel
theorem dX5_exchange_0 : decode cX5_exchange 0 = .ok (.aload_n 0, 1) := by decide +kernel
theorem dX5_exchange_1 : decode cX5_exchange 1 = .ok (.iload_n 1, 1) := by decide +kernel
theorem dX5_exchange_2 : decode cX5_exchange 2 = .ok (.invokevirtual 132, 3) := by decide +kernel
theorem dX5_exchange_5 : decode cX5_exchange 5 = .ok (.aload_n 0, 1) := by decide +kernel
theorem dX5_exchange_6 : decode cX5_exchange 6 = .ok (.iload_n 2, 1) := by decide +kernel
theorem dX5_exchange_7 : decode cX5_exchange 7 = .ok (.invokevirtual 132, 3) := by decide +kernel
theorem dX5_exchange_10 : decode cX5_exchange 10 = .ok (.aload_n 0, 1) := by decide +kernel
theorem dX5_exchange_11 : decode cX5_exchange 11 = .ok (.getfield 36, 3) := by decide +kernel
theorem dX5_exchange_14 : decode cX5_exchange 14 = .ok (.aload_n 0, 1) := by decide +kernel
theorem dX5_exchange_15 : decode cX5_exchange 15 = .ok (.getfield 19, 3) := by decide +kernel
theorem dX5_exchange_18 : decode cX5_exchange 18 = .ok (.invokevirtual 112, 3) := by decide +kernel
theorem dX5_exchange_21 : decode cX5_exchange 21 = .ok (.aload_n 0, 1) := by decide +kernel
theorem dX5_exchange_22 : decode cX5_exchange 22 = .ok (.getfield 19, 3) := by decide +kernel
theorem dX5_exchange_25 : decode cX5_exchange 25 = .ok (.iload_n 1, 1) := by decide +kernel
theorem dX5_exchange_26 : decode cX5_exchange 26 = .ok (.iload_n 2, 1) := by decide +kernel
theorem dX5_exchange_27 : decode cX5_exchange 27 = .ok (.invokevirtual 142, 3) := by decide +kernel
theorem dX5_exchange_30 : decode cX5_exchange 30 = .ok (.ireturn, 1) := by decide +kernel
theorem dX5_staff_0 : decode cX5_staff 0 = .ok (.iload_n 1, 1) := by decide +kernel
theorem dX5_staff_1 : decode cX5_staff 1 = .ok (.ifCond .eq 17, 3) := by decide +kernel
theorem dX5_staff_4 : decode cX5_staff 4 = .ok (.aload_n 0, 1) := by decide +kernel
theorem dX5_staff_5 : decode cX5_staff 5 = .ok (.getfield 19, 3) := by decide +kernel
theorem dX5_staff_8 : decode cX5_staff 8 = .ok (.getfield 88, 3) := by decide +kernel
theorem dX5_staff_11 : decode cX5_staff 11 = .ok (.iconst 4, 1) := by decide +kernel
theorem dX5_staff_12 : decode cX5_staff 12 = .ok (.if_icmp .lt 25, 3) := by decide +kernel
theorem dX5_staff_15 : decode cX5_staff 15 = .ok (.goto 14, 3) := by decide +kernel
theorem dX5_staff_18 : decode cX5_staff 18 = .ok (.aload_n 0, 1) := by decide +kernel
theorem dX5_staff_19 : decode cX5_staff 19 = .ok (.getfield 19, 3) := by decide +kernel
theorem dX5_staff_22 : decode cX5_staff 22 = .ok (.getfield 88, 3) := by decide +kernel
theorem dX5_staff_25 : decode cX5_staff 25 = .ok (.iconst 1, 1) := by decide +kernel
theorem dX5_staff_26 : decode cX5_staff 26 = .ok (.if_icmp .gt 11, 3) := by decide +kernel
theorem dX5_staff_29 : decode cX5_staff 29 = .ok (.new 55, 3) := by decide +kernel
theorem dX5_staff_32 : decode cX5_staff 32 = .ok (.dup, 1) := by decide +kernel
theorem dX5_staff_33 : decode cX5_staff 33 = .ok (.invokespecial 57, 3) := by decide +kernel
theorem dX5_staff_36 : decode cX5_staff 36 = .ok (.athrow, 1) := by decide +kernel
theorem dX5_staff_37 : decode cX5_staff 37 = .ok (.aload_n 0, 1) := by decide +kernel
theorem dX5_staff_38 : decode cX5_staff 38 = .ok (.getfield 36, 3) := by decide +kernel
theorem dX5_staff_41 : decode cX5_staff 41 = .ok (.aload_n 0, 1) := by decide +kernel
theorem dX5_staff_42 : decode cX5_staff 42 = .ok (.getfield 19, 3) := by decide +kernel
theorem dX5_staff_45 : decode cX5_staff 45 = .ok (.invokevirtual 112, 3) := by decide +kernel
theorem dX5_staff_48 : decode cX5_staff 48 = .ok (.iload_n 1, 1) := by decide +kernel
theorem dX5_staff_49 : decode cX5_staff 49 = .ok (.ifCond .eq 13, 3) := by decide +kernel
theorem dX5_staff_52 : decode cX5_staff 52 = .ok (.aload_n 0, 1) := by decide +kernel
theorem dX5_staff_53 : decode cX5_staff 53 = .ok (.getfield 19, 3) := by decide +kernel
theorem dX5_staff_56 : decode cX5_staff 56 = .ok (.invokevirtual 145, 3) := by decide +kernel
theorem dX5_staff_59 : decode cX5_staff 59 = .ok (.goto 10, 3) := by decide +kernel
theorem dX5_staff_62 : decode cX5_staff 62 = .ok (.aload_n 0, 1) := by decide +kernel
theorem dX5_staff_63 : decode cX5_staff 63 = .ok (.getfield 19, 3) := by decide +kernel
theorem dX5_staff_66 : decode cX5_staff 66 = .ok (.invokevirtual 148, 3) := by decide +kernel
theorem dX5_staff_69 : decode cX5_staff 69 = .ok (.aload_n 0, 1) := by decide +kernel
theorem dX5_staff_70 : decode cX5_staff 70 = .ok (.getfield 19, 3) := by decide +kernel
theorem dX5_staff_73 : decode cX5_staff 73 = .ok (.getfield 88, 3) := by decide +kernel
theorem dX5_staff_76 : decode cX5_staff 76 = .ok (.ireturn, 1) := by decide +kernel
theorem dX5_insertBeat_0 : decode cX5_insertBeat 0 = .ok (.iload_n 1, 1) := by decide +kernel
theorem dX5_insertBeat_1 : decode cX5_insertBeat 1 = .ok (.ifCond .lt 14, 3) := by decide +kernel
theorem dX5_insertBeat_4 : decode cX5_insertBeat 4 = .ok (.iload_n 1, 1) := by decide +kernel
theorem dX5_insertBeat_5 : decode cX5_insertBeat 5 = .ok (.aload_n 0, 1) := by decide +kernel
theorem dX5_insertBeat_6 : decode cX5_insertBeat 6 = .ok (.getfield 19, 3) := by decide +kernel
theorem dX5_insertBeat_9 : decode cX5_insertBeat 9 = .ok (.getfield 80, 3) := by decide +kernel
theorem dX5_insertBeat_12 : decode cX5_insertBeat 12 = .ok (.if_icmp .le 11, 3) := by decide +kernel
theorem dX5_insertBeat_15 : decode cX5_insertBeat 15 = .ok (.new 151, 3) := by decide +kernel
theorem dX5_insertBeat_18 : decode cX5_insertBeat 18 = .ok (.dup, 1) := by decide +kernel
theorem dX5_insertBeat_19 : decode cX5_insertBeat 19 = .ok (.invokespecial 153, 3) := by decide +kernel
theorem dX5_insertBeat_22 : decode cX5_insertBeat 22 = .ok (.athrow, 1) := by decide +kernel
theorem dX5_insertBeat_23 : decode cX5_insertBeat 23 = .ok (.aload_n 0, 1) := by decide +kernel
theorem dX5_insertBeat_24 : decode cX5_insertBeat 24 = .ok (.getfield 19, 3) := by decide +kernel
theorem dX5_insertBeat_27 : decode cX5_insertBeat 27 = .ok (.getfield 80, 3) := by decide +kernel
theorem dX5_insertBeat_30 : decode cX5_insertBeat 30 = .ok (.bipush 16, 2) := by decide +kernel
theorem dX5_insertBeat_32 : decode cX5_insertBeat 32 = .ok (.if_icmp .lt 11, 3) := by decide +kernel
theorem dX5_insertBeat_35 : decode cX5_insertBeat 35 = .ok (.new 55, 3) := by decide +kernel
theorem dX5_insertBeat_38 : decode cX5_insertBeat 38 = .ok (.dup, 1) := by decide +kernel
theorem dX5_insertBeat_39 : decode cX5_insertBeat 39 = .ok (.invokespecial 57, 3) := by decide +kernel
theorem dX5_insertBeat_42 : decode cX5_insertBeat 42 = .ok (.athrow, 1) := by decide +kernel
theorem dX5_insertBeat_43 : decode cX5_insertBeat 43 = .ok (.aload_n 0, 1) := by decide +kernel
theorem dX5_insertBeat_44 : decode cX5_insertBeat 44 = .ok (.getfield 36, 3) := by decide +kernel
theorem dX5_insertBeat_47 : decode cX5_insertBeat 47 = .ok (.aload_n 0, 1) := by decide +kernel
theorem dX5_insertBeat_48 : decode cX5_insertBeat 48 = .ok (.getfield 19, 3) := by decide +kernel
theorem dX5_insertBeat_51 : decode cX5_insertBeat 51 = .ok (.invokevirtual 112, 3) := by decide +kernel
theorem dX5_insertBeat_54 : decode cX5_insertBeat 54 = .ok (.aload_n 0, 1) := by decide +kernel
theorem dX5_insertBeat_55 : decode cX5_insertBeat 55 = .ok (.getfield 19, 3) := by decide +kernel
theorem dX5_insertBeat_58 : decode cX5_insertBeat 58 = .ok (.iload_n 1, 1) := by decide +kernel
theorem dX5_insertBeat_59 : decode cX5_insertBeat 59 = .ok (.invokevirtual 154, 3) := by decide +kernel
theorem dX5_insertBeat_62 : decode cX5_insertBeat 62 = .ok (.aload_n 0, 1) := by decide +kernel
theorem dX5_insertBeat_63 : decode cX5_insertBeat 63 = .ok (.getfield 19, 3) := by decide +kernel
theorem dX5_insertBeat_66 : decode cX5_insertBeat 66 = .ok (.invokevirtual 129, 3) := by decide +kernel
theorem dX5_insertBeat_69 : decode cX5_insertBeat 69 = .ok (.aload_n 0, 1) := by decide +kernel
theorem dX5_insertBeat_70 : decode cX5_insertBeat 70 = .ok (.getfield 19, 3) := by decide +kernel
theorem dX5_insertBeat_73 : decode cX5_insertBeat 73 = .ok (.getfield 80, 3) := by decide +kernel
theorem dX5_insertBeat_76 : decode cX5_insertBeat 76 = .ok (.ireturn, 1) := by decide +kernel
theorem dX5_removeBeat_0 : decode cX5_removeBeat 0 = .ok (.aload_n 0, 1) := by decide +kernel
theorem dX5_removeBeat_1 : decode cX5_removeBeat 1 = .ok (.iload_n 1, 1) := by decide +kernel
theorem dX5_removeBeat_2 : decode cX5_removeBeat 2 = .ok (.invokevirtual 157, 3) := by decide +kernel
theorem dX5_removeBeat_5 : decode cX5_removeBeat 5 = .ok (.aload_n 0, 1) := by decide +kernel
theorem dX5_removeBeat_6 : decode cX5_removeBeat 6 = .ok (.getfield 19, 3) := by decide +kernel
theorem dX5_removeBeat_9 : decode cX5_removeBeat 9 = .ok (.getfield 80, 3) := by decide +kernel
theorem dX5_removeBeat_12 : decode cX5_removeBeat 12 = .ok (.iconst 1, 1) := by decide +kernel
theorem dX5_removeBeat_13 : decode cX5_removeBeat 13 = .ok (.if_icmp .gt 11, 3) := by decide +kernel
theorem dX5_removeBeat_16 : decode cX5_removeBeat 16 = .ok (.new 55, 3) := by decide +kernel
theorem dX5_removeBeat_19 : decode cX5_removeBeat 19 = .ok (.dup, 1) := by decide +kernel
theorem dX5_removeBeat_20 : decode cX5_removeBeat 20 = .ok (.invokespecial 57, 3) := by decide +kernel
theorem dX5_removeBeat_23 : decode cX5_removeBeat 23 = .ok (.athrow, 1) := by decide +kernel
theorem dX5_removeBeat_24 : decode cX5_removeBeat 24 = .ok (.aload_n 0, 1) := by decide +kernel
theorem dX5_removeBeat_25 : decode cX5_removeBeat 25 = .ok (.getfield 36, 3) := by decide +kernel
theorem dX5_removeBeat_28 : decode cX5_removeBeat 28 = .ok (.aload_n 0, 1) := by decide +kernel
theorem dX5_removeBeat_29 : decode cX5_removeBeat 29 = .ok (.getfield 19, 3) := by decide +kernel
theorem dX5_removeBeat_32 : decode cX5_removeBeat 32 = .ok (.invokevirtual 112, 3) := by decide +kernel
theorem dX5_removeBeat_35 : decode cX5_removeBeat 35 = .ok (.aload_n 0, 1) := by decide +kernel
theorem dX5_removeBeat_36 : decode cX5_removeBeat 36 = .ok (.getfield 19, 3) := by decide +kernel
theorem dX5_removeBeat_39 : decode cX5_removeBeat 39 = .ok (.iload_n 1, 1) := by decide +kernel
theorem dX5_removeBeat_40 : decode cX5_removeBeat 40 = .ok (.invokevirtual 160, 3) := by decide +kernel
theorem dX5_removeBeat_43 : decode cX5_removeBeat 43 = .ok (.aload_n 0, 1) := by decide +kernel
theorem dX5_removeBeat_44 : decode cX5_removeBeat 44 = .ok (.getfield 19, 3) := by decide +kernel
theorem dX5_removeBeat_47 : decode cX5_removeBeat 47 = .ok (.invokevirtual 129, 3) := by decide +kernel
theorem dX5_removeBeat_50 : decode cX5_removeBeat 50 = .ok (.aload_n 0, 1) := by decide +kernel
theorem dX5_removeBeat_51 : decode cX5_removeBeat 51 = .ok (.getfield 19, 3) := by decide +kernel
theorem dX5_removeBeat_54 : decode cX5_removeBeat 54 = .ok (.getfield 80, 3) := by decide +kernel
theorem dX5_removeBeat_57 : decode cX5_removeBeat 57 = .ok (.ireturn, 1) := by decide +kernel
theorem dX5_undo_0 : decode cX5_undo 0 = .ok (.aload_n 0, 1) := by decide +kernel
theorem dX5_undo_1 : decode cX5_undo 1 = .ok (.getfield 36, 3) := by decide +kernel
theorem dX5_undo_4 : decode cX5_undo 4 = .ok (.invokevirtual 163, 3) := by decide +kernel
theorem dX5_undo_7 : decode cX5_undo 7 = .ok (.ifCond .eq 11, 3) := by decide +kernel
theorem dX5_undo_10 : decode cX5_undo 10 = .ok (.new 55, 3) := by decide +kernel
theorem dX5_undo_13 : decode cX5_undo 13 = .ok (.dup, 1) := by decide +kernel
theorem dX5_undo_14 : decode cX5_undo 14 = .ok (.invokespecial 57, 3) := by decide +kernel
theorem dX5_undo_17 : decode cX5_undo 17 = .ok (.athrow, 1) := by decide +kernel
theorem dX5_undo_18 : decode cX5_undo 18 = .ok (.aload_n 0, 1) := by decide +kernel
theorem dX5_undo_19 : decode cX5_undo 19 = .ok (.getfield 36, 3) := by decide +kernel
theorem dX5_undo_22 : decode cX5_undo 22 = .ok (.aload_n 0, 1) := by decide +kernel
theorem dX5_undo_23 : decode cX5_undo 23 = .ok (.getfield 19, 3) := by decide +kernel
theorem dX5_undo_26 : decode cX5_undo 26 = .ok (.invokevirtual 166, 3) := by decide +kernel
theorem dX5_undo_29 : decode cX5_undo 29 = .ok (.ireturn, 1) := by decide +kernel
theorem dX5_note_0 : decode cX5_note 0 = .ok (.aload_n 0, 1) := by decide +kernel
theorem dX5_note_1 : decode cX5_note 1 = .ok (.iload_n 1, 1) := by decide +kernel
theorem dX5_note_2 : decode cX5_note 2 = .ok (.iload_n 2, 1) := by decide +kernel
theorem dX5_note_3 : decode cX5_note 3 = .ok (.invokevirtual 97, 3) := by decide +kernel
theorem dX5_note_6 : decode cX5_note 6 = .ok (.iconst 3, 1) := by decide +kernel
theorem dX5_note_7 : decode cX5_note 7 = .ok (.iload_n 3, 1) := by decide +kernel
theorem dX5_note_8 : decode cX5_note 8 = .ok (.invokestatic 169, 3) := by decide +kernel
theorem dX5_note_11 : decode cX5_note 11 = .ok (.aload_n 0, 1) := by decide +kernel
theorem dX5_note_12 : decode cX5_note 12 = .ok (.getfield 29, 3) := by decide +kernel
theorem dX5_note_15 : decode cX5_note 15 = .ok (.aload_n 0, 1) := by decide +kernel
theorem dX5_note_16 : decode cX5_note 16 = .ok (.getfield 19, 3) := by decide +kernel
theorem dX5_note_19 : decode cX5_note 19 = .ok (.invokevirtual 172, 3) := by decide +kernel
theorem dX5_note_22 : decode cX5_note 22 = .ok (.aload_n 0, 1) := by decide +kernel
theorem dX5_note_23 : decode cX5_note 23 = .ok (.getfield 29, 3) := by decide +kernel
theorem dX5_note_26 : decode cX5_note 26 = .ok (.iload_n 1, 1) := by decide +kernel
theorem dX5_note_27 : decode cX5_note 27 = .ok (.iload_n 2, 1) := by decide +kernel
theorem dX5_note_28 : decode cX5_note 28 = .ok (.iload_n 3, 1) := by decide +kernel
theorem dX5_note_29 : decode cX5_note 29 = .ok (.invokevirtual 175, 3) := by decide +kernel
theorem dX5_note_32 : decode cX5_note 32 = .ok (.ireturn, 1) := by decide +kernel
theorem dX5_hand_0 : decode cX5_hand 0 = .ok (.iload_n 1, 1) := by decide +kernel
theorem dX5_hand_1 : decode cX5_hand 1 = .ok (.ifCond .lt 8, 3) := by decide +kernel
theorem dX5_hand_4 : decode cX5_hand 4 = .ok (.iload_n 1, 1) := by decide +kernel
theorem dX5_hand_5 : decode cX5_hand 5 = .ok (.iconst 2, 1) := by decide +kernel
theorem dX5_hand_6 : decode cX5_hand 6 = .ok (.if_icmp .lt 11, 3) := by decide +kernel
theorem dX5_hand_9 : decode cX5_hand 9 = .ok (.new 151, 3) := by decide +kernel
theorem dX5_hand_12 : decode cX5_hand 12 = .ok (.dup, 1) := by decide +kernel
theorem dX5_hand_13 : decode cX5_hand 13 = .ok (.invokespecial 153, 3) := by decide +kernel
theorem dX5_hand_16 : decode cX5_hand 16 = .ok (.athrow, 1) := by decide +kernel
theorem dX5_hand_17 : decode cX5_hand 17 = .ok (.aload_n 0, 1) := by decide +kernel
theorem dX5_hand_18 : decode cX5_hand 18 = .ok (.iload_n 2, 1) := by decide +kernel
theorem dX5_hand_19 : decode cX5_hand 19 = .ok (.invokevirtual 157, 3) := by decide +kernel
theorem dX5_hand_22 : decode cX5_hand 22 = .ok (.iconst 4, 1) := by decide +kernel
theorem dX5_hand_23 : decode cX5_hand 23 = .ok (.iload_n 3, 1) := by decide +kernel
theorem dX5_hand_24 : decode cX5_hand 24 = .ok (.invokestatic 169, 3) := by decide +kernel
theorem dX5_hand_27 : decode cX5_hand 27 = .ok (.aload_n 0, 1) := by decide +kernel
theorem dX5_hand_28 : decode cX5_hand 28 = .ok (.getfield 29, 3) := by decide +kernel
theorem dX5_hand_31 : decode cX5_hand 31 = .ok (.aload_n 0, 1) := by decide +kernel
theorem dX5_hand_32 : decode cX5_hand 32 = .ok (.getfield 19, 3) := by decide +kernel
theorem dX5_hand_35 : decode cX5_hand 35 = .ok (.invokevirtual 172, 3) := by decide +kernel
theorem dX5_hand_38 : decode cX5_hand 38 = .ok (.aload_n 0, 1) := by decide +kernel
theorem dX5_hand_39 : decode cX5_hand 39 = .ok (.getfield 29, 3) := by decide +kernel
theorem dX5_hand_42 : decode cX5_hand 42 = .ok (.iload_n 1, 1) := by decide +kernel
theorem dX5_hand_43 : decode cX5_hand 43 = .ok (.iload_n 2, 1) := by decide +kernel
theorem dX5_hand_44 : decode cX5_hand 44 = .ok (.iload_n 3, 1) := by decide +kernel
theorem dX5_hand_45 : decode cX5_hand 45 = .ok (.invokevirtual 179, 3) := by decide +kernel
theorem dX5_hand_48 : decode cX5_hand 48 = .ok (.ireturn, 1) := by decide +kernel
theorem dX5_beat_0 : decode cX5_beat 0 = .ok (.aload_n 0, 1) := by decide +kernel
theorem dX5_beat_1 : decode cX5_beat 1 = .ok (.iload_n 1, 1) := by decide +kernel
theorem dX5_beat_2 : decode cX5_beat 2 = .ok (.invokevirtual 157, 3) := by decide +kernel
theorem dX5_beat_5 : decode cX5_beat 5 = .ok (.iconst 4, 1) := by decide +kernel
theorem dX5_beat_6 : decode cX5_beat 6 = .ok (.iload_n 2, 1) := by decide +kernel
theorem dX5_beat_7 : decode cX5_beat 7 = .ok (.invokestatic 169, 3) := by decide +kernel
theorem dX5_beat_10 : decode cX5_beat 10 = .ok (.aload_n 0, 1) := by decide +kernel
theorem dX5_beat_11 : decode cX5_beat 11 = .ok (.getfield 29, 3) := by decide +kernel
theorem dX5_beat_14 : decode cX5_beat 14 = .ok (.aload_n 0, 1) := by decide +kernel
theorem dX5_beat_15 : decode cX5_beat 15 = .ok (.getfield 19, 3) := by decide +kernel
theorem dX5_beat_18 : decode cX5_beat 18 = .ok (.invokevirtual 172, 3) := by decide +kernel
theorem dX5_beat_21 : decode cX5_beat 21 = .ok (.aload_n 0, 1) := by decide +kernel
theorem dX5_beat_22 : decode cX5_beat 22 = .ok (.getfield 29, 3) := by decide +kernel
theorem dX5_beat_25 : decode cX5_beat 25 = .ok (.iload_n 1, 1) := by decide +kernel
theorem dX5_beat_26 : decode cX5_beat 26 = .ok (.iload_n 2, 1) := by decide +kernel
theorem dX5_beat_27 : decode cX5_beat 27 = .ok (.invokevirtual 182, 3) := by decide +kernel
theorem dX5_beat_30 : decode cX5_beat 30 = .ok (.ireturn, 1) := by decide +kernel
theorem dX5_whole_0 : decode cX5_whole 0 = .ok (.bipush 7, 2) := by decide +kernel
theorem dX5_whole_2 : decode cX5_whole 2 = .ok (.iload_n 1, 1) := by decide +kernel
theorem dX5_whole_3 : decode cX5_whole 3 = .ok (.invokestatic 169, 3) := by decide +kernel
theorem dX5_whole_6 : decode cX5_whole 6 = .ok (.aload_n 0, 1) := by decide +kernel
theorem dX5_whole_7 : decode cX5_whole 7 = .ok (.getfield 29, 3) := by decide +kernel
theorem dX5_whole_10 : decode cX5_whole 10 = .ok (.aload_n 0, 1) := by decide +kernel
theorem dX5_whole_11 : decode cX5_whole 11 = .ok (.getfield 19, 3) := by decide +kernel
theorem dX5_whole_14 : decode cX5_whole 14 = .ok (.invokevirtual 172, 3) := by decide +kernel
theorem dX5_whole_17 : decode cX5_whole 17 = .ok (.aload_n 0, 1) := by decide +kernel
theorem dX5_whole_18 : decode cX5_whole 18 = .ok (.getfield 29, 3) := by decide +kernel
theorem dX5_whole_21 : decode cX5_whole 21 = .ok (.iload_n 1, 1) := by decide +kernel
theorem dX5_whole_22 : decode cX5_whole 22 = .ok (.invokevirtual 185, 3) := by decide +kernel
theorem dX5_whole_25 : decode cX5_whole 25 = .ok (.ireturn, 1) := by decide +kernel
theorem dX5_whatIf_0 : decode cX5_whatIf 0 = .ok (.iload_n 1, 1) := by decide +kernel
theorem dX5_whatIf_1 : decode cX5_whatIf 1 = .ok (.iload_n 2, 1) := by decide +kernel
theorem dX5_whatIf_2 : decode cX5_whatIf 2 = .ok (.invokestatic 108, 3) := by decide +kernel
theorem dX5_whatIf_5 : decode cX5_whatIf 5 = .ok (.ifCond .ne 11, 3) := by decide +kernel
theorem dX5_whatIf_8 : decode cX5_whatIf 8 = .ok (.new 48, 3) := by decide +kernel
theorem dX5_whatIf_11 : decode cX5_whatIf 11 = .ok (.dup, 1) := by decide +kernel
theorem dX5_whatIf_12 : decode cX5_whatIf 12 = .ok (.invokespecial 50, 3) := by decide +kernel
theorem dX5_whatIf_15 : decode cX5_whatIf 15 = .ok (.athrow, 1) := by decide +kernel
theorem dX5_whatIf_16 : decode cX5_whatIf 16 = .ok (.bipush 7, 2) := by decide +kernel
theorem dX5_whatIf_18 : decode cX5_whatIf 18 = .ok (.iload_n 3, 1) := by decide +kernel
theorem dX5_whatIf_19 : decode cX5_whatIf 19 = .ok (.invokestatic 169, 3) := by decide +kernel
theorem dX5_whatIf_22 : decode cX5_whatIf 22 = .ok (.aload_n 0, 1) := by decide +kernel
theorem dX5_whatIf_23 : decode cX5_whatIf 23 = .ok (.getfield 23, 3) := by decide +kernel
theorem dX5_whatIf_26 : decode cX5_whatIf 26 = .ok (.aload_n 0, 1) := by decide +kernel
theorem dX5_whatIf_27 : decode cX5_whatIf 27 = .ok (.getfield 19, 3) := by decide +kernel
theorem dX5_whatIf_30 : decode cX5_whatIf 30 = .ok (.invokevirtual 73, 3) := by decide +kernel
theorem dX5_whatIf_33 : decode cX5_whatIf 33 = .ok (.aload_n 0, 1) := by decide +kernel
theorem dX5_whatIf_34 : decode cX5_whatIf 34 = .ok (.getfield 23, 3) := by decide +kernel
theorem dX5_whatIf_37 : decode cX5_whatIf 37 = .ok (.iload_n 1, 1) := by decide +kernel
theorem dX5_whatIf_38 : decode cX5_whatIf 38 = .ok (.iload_n 2, 1) := by decide +kernel
theorem dX5_whatIf_39 : decode cX5_whatIf 39 = .ok (.invokevirtual 115, 3) := by decide +kernel
theorem dX5_whatIf_42 : decode cX5_whatIf 42 = .ok (.aload_n 0, 1) := by decide +kernel
theorem dX5_whatIf_43 : decode cX5_whatIf 43 = .ok (.iload_n 3, 1) := by decide +kernel
theorem dX5_whatIf_44 : decode cX5_whatIf 44 = .ok (.invokevirtual 188, 3) := by decide +kernel
theorem dX5_whatIf_47 : decode cX5_whatIf 47 = .ok (.ireturn, 1) := by decide +kernel
theorem dX5_smallestSpan_0 : decode cX5_smallestSpan 0 = .ok (.aload_n 0, 1) := by decide +kernel
theorem dX5_smallestSpan_1 : decode cX5_smallestSpan 1 = .ok (.getfield 23, 3) := by decide +kernel
theorem dX5_smallestSpan_4 : decode cX5_smallestSpan 4 = .ok (.aload_n 0, 1) := by decide +kernel
theorem dX5_smallestSpan_5 : decode cX5_smallestSpan 5 = .ok (.getfield 19, 3) := by decide +kernel
theorem dX5_smallestSpan_8 : decode cX5_smallestSpan 8 = .ok (.invokevirtual 73, 3) := by decide +kernel
theorem dX5_smallestSpan_11 : decode cX5_smallestSpan 11 = .ok (.iconst 1, 1) := by decide +kernel
theorem dX5_smallestSpan_12 : decode cX5_smallestSpan 12 = .ok (.istore_n 1, 1) := by decide +kernel
theorem dX5_smallestSpan_13 : decode cX5_smallestSpan 13 = .ok (.iload_n 1, 1) := by decide +kernel
theorem dX5_smallestSpan_14 : decode cX5_smallestSpan 14 = .ok (.bipush 24, 2) := by decide +kernel
theorem dX5_smallestSpan_16 : decode cX5_smallestSpan 16 = .ok (.if_icmp .gt 41, 3) := by decide +kernel
theorem dX5_smallestSpan_19 : decode cX5_smallestSpan 19 = .ok (.iconst 0, 1) := by decide +kernel
theorem dX5_smallestSpan_20 : decode cX5_smallestSpan 20 = .ok (.istore_n 2, 1) := by decide +kernel
theorem dX5_smallestSpan_21 : decode cX5_smallestSpan 21 = .ok (.iload_n 2, 1) := by decide +kernel
theorem dX5_smallestSpan_22 : decode cX5_smallestSpan 22 = .ok (.iconst 2, 1) := by decide +kernel
theorem dX5_smallestSpan_23 : decode cX5_smallestSpan 23 = .ok (.if_icmp .ge 18, 3) := by decide +kernel
theorem dX5_smallestSpan_26 : decode cX5_smallestSpan 26 = .ok (.aload_n 0, 1) := by decide +kernel
theorem dX5_smallestSpan_27 : decode cX5_smallestSpan 27 = .ok (.getfield 23, 3) := by decide +kernel
theorem dX5_smallestSpan_30 : decode cX5_smallestSpan 30 = .ok (.iload_n 2, 1) := by decide +kernel
theorem dX5_smallestSpan_31 : decode cX5_smallestSpan 31 = .ok (.iload_n 1, 1) := by decide +kernel
theorem dX5_smallestSpan_32 : decode cX5_smallestSpan 32 = .ok (.invokevirtual 115, 3) := by decide +kernel
theorem dX5_smallestSpan_35 : decode cX5_smallestSpan 35 = .ok (.iinc 2 1, 3) := by decide +kernel
theorem dX5_smallestSpan_38 : decode cX5_smallestSpan 38 = .ok (.goto (-17), 3) := by decide +kernel
theorem dX5_smallestSpan_41 : decode cX5_smallestSpan 41 = .ok (.aload_n 0, 1) := by decide +kernel
theorem dX5_smallestSpan_42 : decode cX5_smallestSpan 42 = .ok (.iconst 3, 1) := by decide +kernel
theorem dX5_smallestSpan_43 : decode cX5_smallestSpan 43 = .ok (.invokevirtual 188, 3) := by decide +kernel
theorem dX5_smallestSpan_46 : decode cX5_smallestSpan 46 = .ok (.ifCond .ne 5, 3) := by decide +kernel
theorem dX5_smallestSpan_49 : decode cX5_smallestSpan 49 = .ok (.iload_n 1, 1) := by decide +kernel
theorem dX5_smallestSpan_50 : decode cX5_smallestSpan 50 = .ok (.ireturn, 1) := by decide +kernel
theorem dX5_smallestSpan_51 : decode cX5_smallestSpan 51 = .ok (.iinc 1 1, 3) := by decide +kernel
theorem dX5_smallestSpan_54 : decode cX5_smallestSpan 54 = .ok (.goto (-41), 3) := by decide +kernel
theorem dX5_smallestSpan_57 : decode cX5_smallestSpan 57 = .ok (.bipush (-9), 2) := by decide +kernel
theorem dX5_smallestSpan_59 : decode cX5_smallestSpan 59 = .ok (.ireturn, 1) := by decide +kernel
theorem dX5_dearest_0 : decode cX5_dearest 0 = .ok (.iconst 0, 1) := by decide +kernel
theorem dX5_dearest_1 : decode cX5_dearest 1 = .ok (.istore_n 1, 1) := by decide +kernel
theorem dX5_dearest_2 : decode cX5_dearest 2 = .ok (.ldc 191, 2) := by decide +kernel
theorem dX5_dearest_4 : decode cX5_dearest 4 = .ok (.istore_n 2, 1) := by decide +kernel
theorem dX5_dearest_5 : decode cX5_dearest 5 = .ok (.iconst 0, 1) := by decide +kernel
theorem dX5_dearest_6 : decode cX5_dearest 6 = .ok (.istore_n 3, 1) := by decide +kernel
theorem dX5_dearest_7 : decode cX5_dearest 7 = .ok (.iload_n 3, 1) := by decide +kernel
theorem dX5_dearest_8 : decode cX5_dearest 8 = .ok (.aload_n 0, 1) := by decide +kernel
theorem dX5_dearest_9 : decode cX5_dearest 9 = .ok (.getfield 19, 3) := by decide +kernel
theorem dX5_dearest_12 : decode cX5_dearest 12 = .ok (.getfield 88, 3) := by decide +kernel
theorem dX5_dearest_15 : decode cX5_dearest 15 = .ok (.if_icmp .ge 46, 3) := by decide +kernel
theorem dX5_dearest_18 : decode cX5_dearest 18 = .ok (.aload_n 0, 1) := by decide +kernel
theorem dX5_dearest_19 : decode cX5_dearest 19 = .ok (.getfield 23, 3) := by decide +kernel
theorem dX5_dearest_22 : decode cX5_dearest 22 = .ok (.aload_n 0, 1) := by decide +kernel
theorem dX5_dearest_23 : decode cX5_dearest 23 = .ok (.getfield 19, 3) := by decide +kernel
theorem dX5_dearest_26 : decode cX5_dearest 26 = .ok (.invokevirtual 73, 3) := by decide +kernel
theorem dX5_dearest_29 : decode cX5_dearest 29 = .ok (.aload_n 0, 1) := by decide +kernel
theorem dX5_dearest_30 : decode cX5_dearest 30 = .ok (.getfield 23, 3) := by decide +kernel
theorem dX5_dearest_33 : decode cX5_dearest 33 = .ok (.iload_n 3, 1) := by decide +kernel
theorem dX5_dearest_34 : decode cX5_dearest 34 = .ok (.invokevirtual 192, 3) := by decide +kernel
theorem dX5_dearest_37 : decode cX5_dearest 37 = .ok (.aload_n 0, 1) := by decide +kernel
theorem dX5_dearest_38 : decode cX5_dearest 38 = .ok (.iconst 0, 1) := by decide +kernel
theorem dX5_dearest_39 : decode cX5_dearest 39 = .ok (.invokevirtual 188, 3) := by decide +kernel
theorem dX5_dearest_42 : decode cX5_dearest 42 = .ok (.istore 4, 2) := by decide +kernel
theorem dX5_dearest_44 : decode cX5_dearest 44 = .ok (.iload 4, 2) := by decide +kernel
theorem dX5_dearest_46 : decode cX5_dearest 46 = .ok (.iload_n 2, 1) := by decide +kernel
theorem dX5_dearest_47 : decode cX5_dearest 47 = .ok (.if_icmp .ge 8, 3) := by decide +kernel
theorem dX5_dearest_50 : decode cX5_dearest 50 = .ok (.iload 4, 2) := by decide +kernel
theorem dX5_dearest_52 : decode cX5_dearest 52 = .ok (.istore_n 2, 1) := by decide +kernel
theorem dX5_dearest_53 : decode cX5_dearest 53 = .ok (.iload_n 3, 1) := by decide +kernel
theorem dX5_dearest_54 : decode cX5_dearest 54 = .ok (.istore_n 1, 1) := by decide +kernel
theorem dX5_dearest_55 : decode cX5_dearest 55 = .ok (.iinc 3 1, 3) := by decide +kernel
theorem dX5_dearest_58 : decode cX5_dearest 58 = .ok (.goto (-51), 3) := by decide +kernel
theorem dX5_dearest_61 : decode cX5_dearest 61 = .ok (.iload_n 1, 1) := by decide +kernel
theorem dX5_dearest_62 : decode cX5_dearest 62 = .ok (.ireturn, 1) := by decide +kernel
theorem dX5_bestTransposition_0 : decode cX5_bestTransposition 0 = .ok (.aload_n 0, 1) := by decide +kernel
theorem dX5_bestTransposition_1 : decode cX5_bestTransposition 1 = .ok (.iload_n 1, 1) := by decide +kernel
theorem dX5_bestTransposition_2 : decode cX5_bestTransposition 2 = .ok (.invokevirtual 132, 3) := by decide +kernel
theorem dX5_bestTransposition_5 : decode cX5_bestTransposition 5 = .ok (.iconst 0, 1) := by decide +kernel
theorem dX5_bestTransposition_6 : decode cX5_bestTransposition 6 = .ok (.istore_n 2, 1) := by decide +kernel
theorem dX5_bestTransposition_7 : decode cX5_bestTransposition 7 = .ok (.ldc 191, 2) := by decide +kernel
theorem dX5_bestTransposition_9 : decode cX5_bestTransposition 9 = .ok (.istore_n 3, 1) := by decide +kernel
theorem dX5_bestTransposition_10 : decode cX5_bestTransposition 10 = .ok (.iconst 0, 1) := by decide +kernel
theorem dX5_bestTransposition_11 : decode cX5_bestTransposition 11 = .ok (.istore 4, 2) := by decide +kernel
theorem dX5_bestTransposition_13 : decode cX5_bestTransposition 13 = .ok (.iload 4, 2) := by decide +kernel
theorem dX5_bestTransposition_15 : decode cX5_bestTransposition 15 = .ok (.bipush 120, 2) := by decide +kernel
theorem dX5_bestTransposition_17 : decode cX5_bestTransposition 17 = .ok (.if_icmp .gt 87, 3) := by decide +kernel
theorem dX5_bestTransposition_20 : decode cX5_bestTransposition 20 = .ok (.iload 4, 2) := by decide +kernel
theorem dX5_bestTransposition_22 : decode cX5_bestTransposition 22 = .ok (.iconst 2, 1) := by decide +kernel
theorem dX5_bestTransposition_23 : decode cX5_bestTransposition 23 = .ok (.irem, 1) := by decide +kernel
theorem dX5_bestTransposition_24 : decode cX5_bestTransposition 24 = .ok (.iconst 1, 1) := by decide +kernel
theorem dX5_bestTransposition_25 : decode cX5_bestTransposition 25 = .ok (.if_icmp .ne 12, 3) := by decide +kernel
theorem dX5_bestTransposition_28 : decode cX5_bestTransposition 28 = .ok (.iload 4, 2) := by decide +kernel
theorem dX5_bestTransposition_30 : decode cX5_bestTransposition 30 = .ok (.iconst 1, 1) := by decide +kernel
theorem dX5_bestTransposition_31 : decode cX5_bestTransposition 31 = .ok (.iadd, 1) := by decide +kernel
theorem dX5_bestTransposition_32 : decode cX5_bestTransposition 32 = .ok (.iconst 2, 1) := by decide +kernel
theorem dX5_bestTransposition_33 : decode cX5_bestTransposition 33 = .ok (.idiv, 1) := by decide +kernel
theorem dX5_bestTransposition_34 : decode cX5_bestTransposition 34 = .ok (.goto 8, 3) := by decide +kernel
theorem dX5_bestTransposition_37 : decode cX5_bestTransposition 37 = .ok (.iload 4, 2) := by decide +kernel
theorem dX5_bestTransposition_39 : decode cX5_bestTransposition 39 = .ok (.iconst 2, 1) := by decide +kernel
theorem dX5_bestTransposition_40 : decode cX5_bestTransposition 40 = .ok (.idiv, 1) := by decide +kernel
theorem dX5_bestTransposition_41 : decode cX5_bestTransposition 41 = .ok (.ineg, 1) := by decide +kernel
theorem dX5_bestTransposition_42 : decode cX5_bestTransposition 42 = .ok (.istore 5, 2) := by decide +kernel
theorem dX5_bestTransposition_44 : decode cX5_bestTransposition 44 = .ok (.aload_n 0, 1) := by decide +kernel
theorem dX5_bestTransposition_45 : decode cX5_bestTransposition 45 = .ok (.getfield 19, 3) := by decide +kernel
theorem dX5_bestTransposition_48 : decode cX5_bestTransposition 48 = .ok (.iload_n 1, 1) := by decide +kernel
theorem dX5_bestTransposition_49 : decode cX5_bestTransposition 49 = .ok (.iload 5, 2) := by decide +kernel
theorem dX5_bestTransposition_51 : decode cX5_bestTransposition 51 = .ok (.invokevirtual 136, 3) := by decide +kernel
theorem dX5_bestTransposition_54 : decode cX5_bestTransposition 54 = .ok (.ifCond .eq 44, 3) := by decide +kernel
theorem dX5_bestTransposition_57 : decode cX5_bestTransposition 57 = .ok (.aload_n 0, 1) := by decide +kernel
theorem dX5_bestTransposition_58 : decode cX5_bestTransposition 58 = .ok (.getfield 23, 3) := by decide +kernel
theorem dX5_bestTransposition_61 : decode cX5_bestTransposition 61 = .ok (.aload_n 0, 1) := by decide +kernel
theorem dX5_bestTransposition_62 : decode cX5_bestTransposition 62 = .ok (.getfield 19, 3) := by decide +kernel
theorem dX5_bestTransposition_65 : decode cX5_bestTransposition 65 = .ok (.invokevirtual 73, 3) := by decide +kernel
theorem dX5_bestTransposition_68 : decode cX5_bestTransposition 68 = .ok (.aload_n 0, 1) := by decide +kernel
theorem dX5_bestTransposition_69 : decode cX5_bestTransposition 69 = .ok (.getfield 23, 3) := by decide +kernel
theorem dX5_bestTransposition_72 : decode cX5_bestTransposition 72 = .ok (.iload_n 1, 1) := by decide +kernel
theorem dX5_bestTransposition_73 : decode cX5_bestTransposition 73 = .ok (.iload 5, 2) := by decide +kernel
theorem dX5_bestTransposition_75 : decode cX5_bestTransposition 75 = .ok (.invokevirtual 139, 3) := by decide +kernel
theorem dX5_bestTransposition_78 : decode cX5_bestTransposition 78 = .ok (.pop, 1) := by decide +kernel
theorem dX5_bestTransposition_79 : decode cX5_bestTransposition 79 = .ok (.aload_n 0, 1) := by decide +kernel
theorem dX5_bestTransposition_80 : decode cX5_bestTransposition 80 = .ok (.iconst 0, 1) := by decide +kernel
theorem dX5_bestTransposition_81 : decode cX5_bestTransposition 81 = .ok (.invokevirtual 188, 3) := by decide +kernel
theorem dX5_bestTransposition_84 : decode cX5_bestTransposition 84 = .ok (.istore 6, 2) := by decide +kernel
theorem dX5_bestTransposition_86 : decode cX5_bestTransposition 86 = .ok (.iload 6, 2) := by decide +kernel
theorem dX5_bestTransposition_88 : decode cX5_bestTransposition 88 = .ok (.iload_n 3, 1) := by decide +kernel
theorem dX5_bestTransposition_89 : decode cX5_bestTransposition 89 = .ok (.if_icmp .ge 9, 3) := by decide +kernel
theorem dX5_bestTransposition_92 : decode cX5_bestTransposition 92 = .ok (.iload 6, 2) := by decide +kernel
theorem dX5_bestTransposition_94 : decode cX5_bestTransposition 94 = .ok (.istore_n 3, 1) := by decide +kernel
theorem dX5_bestTransposition_95 : decode cX5_bestTransposition 95 = .ok (.iload 5, 2) := by decide +kernel
theorem dX5_bestTransposition_97 : decode cX5_bestTransposition 97 = .ok (.istore_n 2, 1) := by decide +kernel
theorem dX5_bestTransposition_98 : decode cX5_bestTransposition 98 = .ok (.iinc 4 1, 3) := by decide +kernel
theorem dX5_bestTransposition_101 : decode cX5_bestTransposition 101 = .ok (.goto (-88), 3) := by decide +kernel
theorem dX5_bestTransposition_104 : decode cX5_bestTransposition 104 = .ok (.iload_n 2, 1) := by decide +kernel
theorem dX5_bestTransposition_105 : decode cX5_bestTransposition 105 = .ok (.ireturn, 1) := by decide +kernel
theorem dX5_runScript_0 : decode cX5_runScript 0 = .ok (.iload_n 1, 1) := by decide +kernel
theorem dX5_runScript_1 : decode cX5_runScript 1 = .ok (.iconst 1, 1) := by decide +kernel
theorem dX5_runScript_2 : decode cX5_runScript 2 = .ok (.if_icmp .lt 24, 3) := by decide +kernel
theorem dX5_runScript_5 : decode cX5_runScript 5 = .ok (.iload_n 1, 1) := by decide +kernel
theorem dX5_runScript_6 : decode cX5_runScript 6 = .ok (.iconst 3, 1) := by decide +kernel
theorem dX5_runScript_7 : decode cX5_runScript 7 = .ok (.if_icmp .gt 19, 3) := by decide +kernel
theorem dX5_runScript_10 : decode cX5_runScript 10 = .ok (.lload_n 2, 1) := by decide +kernel
theorem dX5_runScript_11 : decode cX5_runScript 11 = .ok (.lconst 0, 1) := by decide +kernel
theorem dX5_runScript_12 : decode cX5_runScript 12 = .ok (.lcmp, 1) := by decide +kernel
theorem dX5_runScript_13 : decode cX5_runScript 13 = .ok (.ifCond .lt 13, 3) := by decide +kernel
theorem dX5_runScript_16 : decode cX5_runScript 16 = .ok (.lload_n 2, 1) := by decide +kernel
theorem dX5_runScript_17 : decode cX5_runScript 17 = .ok (.iload_n 1, 1) := by decide +kernel
theorem dX5_runScript_18 : decode cX5_runScript 18 = .ok (.invokestatic 195, 3) := by decide +kernel
theorem dX5_runScript_21 : decode cX5_runScript 21 = .ok (.lconst 0, 1) := by decide +kernel
theorem dX5_runScript_22 : decode cX5_runScript 22 = .ok (.lcmp, 1) := by decide +kernel
theorem dX5_runScript_23 : decode cX5_runScript 23 = .ok (.ifCond .eq 11, 3) := by decide +kernel
theorem dX5_runScript_26 : decode cX5_runScript 26 = .ok (.new 48, 3) := by decide +kernel
theorem dX5_runScript_29 : decode cX5_runScript 29 = .ok (.dup, 1) := by decide +kernel
theorem dX5_runScript_30 : decode cX5_runScript 30 = .ok (.invokespecial 50, 3) := by decide +kernel
theorem dX5_runScript_33 : decode cX5_runScript 33 = .ok (.athrow, 1) := by decide +kernel
theorem dX5_runScript_34 : decode cX5_runScript 34 = .ok (.aload_n 0, 1) := by decide +kernel
theorem dX5_runScript_35 : decode cX5_runScript 35 = .ok (.getfield 23, 3) := by decide +kernel
theorem dX5_runScript_38 : decode cX5_runScript 38 = .ok (.aload_n 0, 1) := by decide +kernel
theorem dX5_runScript_39 : decode cX5_runScript 39 = .ok (.getfield 19, 3) := by decide +kernel
theorem dX5_runScript_42 : decode cX5_runScript 42 = .ok (.invokevirtual 73, 3) := by decide +kernel
theorem dX5_runScript_45 : decode cX5_runScript 45 = .ok (.iconst 0, 1) := by decide +kernel
theorem dX5_runScript_46 : decode cX5_runScript 46 = .ok (.istore 4, 2) := by decide +kernel
theorem dX5_runScript_48 : decode cX5_runScript 48 = .ok (.iload 4, 2) := by decide +kernel
theorem dX5_runScript_50 : decode cX5_runScript 50 = .ok (.iload_n 1, 1) := by decide +kernel
theorem dX5_runScript_51 : decode cX5_runScript 51 = .ok (.if_icmp .ge 45, 3) := by decide +kernel
theorem dX5_runScript_54 : decode cX5_runScript 54 = .ok (.aload_n 0, 1) := by decide +kernel
theorem dX5_runScript_55 : decode cX5_runScript 55 = .ok (.getfield 29, 3) := by decide +kernel
theorem dX5_runScript_58 : decode cX5_runScript 58 = .ok (.aload_n 0, 1) := by decide +kernel
theorem dX5_runScript_59 : decode cX5_runScript 59 = .ok (.getfield 23, 3) := by decide +kernel
theorem dX5_runScript_62 : decode cX5_runScript 62 = .ok (.invokevirtual 172, 3) := by decide +kernel
theorem dX5_runScript_65 : decode cX5_runScript 65 = .ok (.aload_n 0, 1) := by decide +kernel
theorem dX5_runScript_66 : decode cX5_runScript 66 = .ok (.lload_n 2, 1) := by decide +kernel
theorem dX5_runScript_67 : decode cX5_runScript 67 = .ok (.iload_n 1, 1) := by decide +kernel
theorem dX5_runScript_68 : decode cX5_runScript 68 = .ok (.iconst 1, 1) := by decide +kernel
theorem dX5_runScript_69 : decode cX5_runScript 69 = .ok (.isub, 1) := by decide +kernel
theorem dX5_runScript_70 : decode cX5_runScript 70 = .ok (.iload 4, 2) := by decide +kernel
theorem dX5_runScript_72 : decode cX5_runScript 72 = .ok (.isub, 1) := by decide +kernel
theorem dX5_runScript_73 : decode cX5_runScript 73 = .ok (.invokestatic 195, 3) := by decide +kernel
theorem dX5_runScript_76 : decode cX5_runScript 76 = .ok (.ldc2_w 199, 3) := by decide +kernel
theorem dX5_runScript_79 : decode cX5_runScript 79 = .ok (.lrem, 1) := by decide +kernel
theorem dX5_runScript_80 : decode cX5_runScript 80 = .ok (.l2i, 1) := by decide +kernel
theorem dX5_runScript_81 : decode cX5_runScript 81 = .ok (.invokevirtual 201, 3) := by decide +kernel
theorem dX5_runScript_84 : decode cX5_runScript 84 = .ok (.ifCond .ne 6, 3) := by decide +kernel
theorem dX5_runScript_87 : decode cX5_runScript 87 = .ok (.iload 4, 2) := by decide +kernel
theorem dX5_runScript_89 : decode cX5_runScript 89 = .ok (.ireturn, 1) := by decide +kernel
theorem dX5_runScript_90 : decode cX5_runScript 90 = .ok (.iinc 4 1, 3) := by decide +kernel
theorem dX5_runScript_93 : decode cX5_runScript 93 = .ok (.goto (-45), 3) := by decide +kernel
theorem dX5_runScript_96 : decode cX5_runScript 96 = .ok (.bipush (-9), 2) := by decide +kernel
theorem dX5_runScript_98 : decode cX5_runScript 98 = .ok (.ireturn, 1) := by decide +kernel
theorem dX5_simulate_0 : decode cX5_simulate 0 = .ok (.iload_n 3, 1) := by decide +kernel
theorem dX5_simulate_1 : decode cX5_simulate 1 = .ok (.iconst 1, 1) := by decide +kernel
theorem dX5_simulate_2 : decode cX5_simulate 2 = .ok (.if_icmp .lt 9, 3) := by decide +kernel
theorem dX5_simulate_5 : decode cX5_simulate 5 = .ok (.iload_n 3, 1) := by decide +kernel
theorem dX5_simulate_6 : decode cX5_simulate 6 = .ok (.bipush 40, 2) := by decide +kernel
theorem dX5_simulate_8 : decode cX5_simulate 8 = .ok (.if_icmp .le 11, 3) := by decide +kernel
theorem dX5_simulate_11 : decode cX5_simulate 11 = .ok (.new 48, 3) := by decide +kernel
theorem dX5_simulate_14 : decode cX5_simulate 14 = .ok (.dup, 1) := by decide +kernel
theorem dX5_simulate_15 : decode cX5_simulate 15 = .ok (.invokespecial 50, 3) := by decide +kernel
theorem dX5_simulate_18 : decode cX5_simulate 18 = .ok (.athrow, 1) := by decide +kernel
theorem dX5_simulate_19 : decode cX5_simulate 19 = .ok (.aload_n 0, 1) := by decide +kernel
theorem dX5_simulate_20 : decode cX5_simulate 20 = .ok (.getfield 23, 3) := by decide +kernel
theorem dX5_simulate_23 : decode cX5_simulate 23 = .ok (.aload_n 0, 1) := by decide +kernel
theorem dX5_simulate_24 : decode cX5_simulate 24 = .ok (.getfield 19, 3) := by decide +kernel
theorem dX5_simulate_27 : decode cX5_simulate 27 = .ok (.invokevirtual 73, 3) := by decide +kernel
theorem dX5_simulate_30 : decode cX5_simulate 30 = .ok (.lload_n 1, 1) := by decide +kernel
theorem dX5_simulate_31 : decode cX5_simulate 31 = .ok (.lstore 4, 2) := by decide +kernel
theorem dX5_simulate_33 : decode cX5_simulate 33 = .ok (.iconst 0, 1) := by decide +kernel
theorem dX5_simulate_34 : decode cX5_simulate 34 = .ok (.istore 6, 2) := by decide +kernel
theorem dX5_simulate_36 : decode cX5_simulate 36 = .ok (.iload 6, 2) := by decide +kernel
theorem dX5_simulate_38 : decode cX5_simulate 38 = .ok (.iload_n 3, 1) := by decide +kernel
theorem dX5_simulate_39 : decode cX5_simulate 39 = .ok (.if_icmp .ge 31, 3) := by decide +kernel
theorem dX5_simulate_42 : decode cX5_simulate 42 = .ok (.lload 4, 2) := by decide +kernel
theorem dX5_simulate_44 : decode cX5_simulate 44 = .ok (.ldc2_w 204, 3) := by decide +kernel
theorem dX5_simulate_47 : decode cX5_simulate 47 = .ok (.lmul, 1) := by decide +kernel
theorem dX5_simulate_48 : decode cX5_simulate 48 = .ok (.ldc2_w 206, 3) := by decide +kernel
theorem dX5_simulate_51 : decode cX5_simulate 51 = .ok (.ladd, 1) := by decide +kernel
theorem dX5_simulate_52 : decode cX5_simulate 52 = .ok (.lstore 4, 2) := by decide +kernel
theorem dX5_simulate_54 : decode cX5_simulate 54 = .ok (.aload_n 0, 1) := by decide +kernel
theorem dX5_simulate_55 : decode cX5_simulate 55 = .ok (.lload 4, 2) := by decide +kernel
theorem dX5_simulate_57 : decode cX5_simulate 57 = .ok (.bipush 33, 2) := by decide +kernel
theorem dX5_simulate_59 : decode cX5_simulate 59 = .ok (.lushr, 1) := by decide +kernel
theorem dX5_simulate_60 : decode cX5_simulate 60 = .ok (.l2i, 1) := by decide +kernel
theorem dX5_simulate_61 : decode cX5_simulate 61 = .ok (.invokevirtual 208, 3) := by decide +kernel
theorem dX5_simulate_64 : decode cX5_simulate 64 = .ok (.iinc 6 1, 3) := by decide +kernel
theorem dX5_simulate_67 : decode cX5_simulate 67 = .ok (.goto (-31), 3) := by decide +kernel
theorem dX5_simulate_70 : decode cX5_simulate 70 = .ok (.aload_n 0, 1) := by decide +kernel
theorem dX5_simulate_71 : decode cX5_simulate 71 = .ok (.getfield 29, 3) := by decide +kernel
theorem dX5_simulate_74 : decode cX5_simulate 74 = .ok (.aload_n 0, 1) := by decide +kernel
theorem dX5_simulate_75 : decode cX5_simulate 75 = .ok (.getfield 23, 3) := by decide +kernel
theorem dX5_simulate_78 : decode cX5_simulate 78 = .ok (.invokevirtual 172, 3) := by decide +kernel
theorem dX5_simulate_81 : decode cX5_simulate 81 = .ok (.iconst 0, 1) := by decide +kernel
theorem dX5_simulate_82 : decode cX5_simulate 82 = .ok (.istore 6, 2) := by decide +kernel
theorem dX5_simulate_84 : decode cX5_simulate 84 = .ok (.iconst 1, 1) := by decide +kernel
theorem dX5_simulate_85 : decode cX5_simulate 85 = .ok (.istore 7, 2) := by decide +kernel
theorem dX5_simulate_87 : decode cX5_simulate 87 = .ok (.iload 7, 2) := by decide +kernel
theorem dX5_simulate_89 : decode cX5_simulate 89 = .ok (.iconst 3, 1) := by decide +kernel
theorem dX5_simulate_90 : decode cX5_simulate 90 = .ok (.if_icmp .gt 23, 3) := by decide +kernel
theorem dX5_simulate_93 : decode cX5_simulate 93 = .ok (.iload 6, 2) := by decide +kernel
theorem dX5_simulate_95 : decode cX5_simulate 95 = .ok (.aload_n 0, 1) := by decide +kernel
theorem dX5_simulate_96 : decode cX5_simulate 96 = .ok (.getfield 29, 3) := by decide +kernel
theorem dX5_simulate_99 : decode cX5_simulate 99 = .ok (.iload 7, 2) := by decide +kernel
theorem dX5_simulate_101 : decode cX5_simulate 101 = .ok (.invokevirtual 185, 3) := by decide +kernel
theorem dX5_simulate_104 : decode cX5_simulate 104 = .ok (.iadd, 1) := by decide +kernel
theorem dX5_simulate_105 : decode cX5_simulate 105 = .ok (.istore 6, 2) := by decide +kernel
theorem dX5_simulate_107 : decode cX5_simulate 107 = .ok (.iinc 7 1, 3) := by decide +kernel
theorem dX5_simulate_110 : decode cX5_simulate 110 = .ok (.goto (-23), 3) := by decide +kernel
theorem dX5_simulate_113 : decode cX5_simulate 113 = .ok (.aload_n 0, 1) := by decide +kernel
theorem dX5_simulate_114 : decode cX5_simulate 114 = .ok (.getfield 29, 3) := by decide +kernel
theorem dX5_simulate_117 : decode cX5_simulate 117 = .ok (.iconst 0, 1) := by decide +kernel
theorem dX5_simulate_118 : decode cX5_simulate 118 = .ok (.invokevirtual 185, 3) := by decide +kernel
theorem dX5_simulate_121 : decode cX5_simulate 121 = .ok (.sipush 1000, 3) := by decide +kernel
theorem dX5_simulate_124 : decode cX5_simulate 124 = .ok (.iload 6, 2) := by decide +kernel
theorem dX5_simulate_126 : decode cX5_simulate 126 = .ok (.imul, 1) := by decide +kernel
theorem dX5_simulate_127 : decode cX5_simulate 127 = .ok (.iadd, 1) := by decide +kernel
theorem dX5_simulate_128 : decode cX5_simulate 128 = .ok (.ireturn, 1) := by decide +kernel
theorem dX5_save_0 : decode cX5_save 0 = .ok (.iload_n 1, 1) := by decide +kernel
theorem dX5_save_1 : decode cX5_save 1 = .ok (.invokestatic 211, 3) := by decide +kernel
theorem dX5_save_4 : decode cX5_save 4 = .ok (.aload_n 0, 1) := by decide +kernel
theorem dX5_save_5 : decode cX5_save 5 = .ok (.getfield 40, 3) := by decide +kernel
theorem dX5_save_8 : decode cX5_save 8 = .ok (.iload_n 1, 1) := by decide +kernel
theorem dX5_save_9 : decode cX5_save 9 = .ok (.aaload, 1) := by decide +kernel
theorem dX5_save_10 : decode cX5_save 10 = .ok (.aload_n 0, 1) := by decide +kernel
theorem dX5_save_11 : decode cX5_save 11 = .ok (.getfield 19, 3) := by decide +kernel
theorem dX5_save_14 : decode cX5_save 14 = .ok (.invokevirtual 73, 3) := by decide +kernel
theorem dX5_save_17 : decode cX5_save 17 = .ok (.aload_n 0, 1) := by decide +kernel
theorem dX5_save_18 : decode cX5_save 18 = .ok (.getfield 44, 3) := by decide +kernel
theorem dX5_save_21 : decode cX5_save 21 = .ok (.iload_n 1, 1) := by decide +kernel
theorem dX5_save_22 : decode cX5_save 22 = .ok (.iconst 1, 1) := by decide +kernel
theorem dX5_save_23 : decode cX5_save 23 = .ok (.bastore, 1) := by decide +kernel
theorem dX5_save_24 : decode cX5_save 24 = .ok (.aload_n 0, 1) := by decide +kernel
theorem dX5_save_25 : decode cX5_save 25 = .ok (.getfield 19, 3) := by decide +kernel
theorem dX5_save_28 : decode cX5_save 28 = .ok (.getfield 80, 3) := by decide +kernel
theorem dX5_save_31 : decode cX5_save 31 = .ok (.ireturn, 1) := by decide +kernel
theorem dX5_restore_0 : decode cX5_restore 0 = .ok (.iload_n 1, 1) := by decide +kernel
theorem dX5_restore_1 : decode cX5_restore 1 = .ok (.invokestatic 211, 3) := by decide +kernel
theorem dX5_restore_4 : decode cX5_restore 4 = .ok (.aload_n 0, 1) := by decide +kernel
theorem dX5_restore_5 : decode cX5_restore 5 = .ok (.getfield 44, 3) := by decide +kernel
theorem dX5_restore_8 : decode cX5_restore 8 = .ok (.iload_n 1, 1) := by decide +kernel
theorem dX5_restore_9 : decode cX5_restore 9 = .ok (.baload, 1) := by decide +kernel
theorem dX5_restore_10 : decode cX5_restore 10 = .ok (.ifCond .ne 11, 3) := by decide +kernel
theorem dX5_restore_13 : decode cX5_restore 13 = .ok (.new 55, 3) := by decide +kernel
theorem dX5_restore_16 : decode cX5_restore 16 = .ok (.dup, 1) := by decide +kernel
theorem dX5_restore_17 : decode cX5_restore 17 = .ok (.invokespecial 57, 3) := by decide +kernel
theorem dX5_restore_20 : decode cX5_restore 20 = .ok (.athrow, 1) := by decide +kernel
theorem dX5_restore_21 : decode cX5_restore 21 = .ok (.aload_n 0, 1) := by decide +kernel
theorem dX5_restore_22 : decode cX5_restore 22 = .ok (.getfield 19, 3) := by decide +kernel
theorem dX5_restore_25 : decode cX5_restore 25 = .ok (.aload_n 0, 1) := by decide +kernel
theorem dX5_restore_26 : decode cX5_restore 26 = .ok (.getfield 40, 3) := by decide +kernel
theorem dX5_restore_29 : decode cX5_restore 29 = .ok (.iload_n 1, 1) := by decide +kernel
theorem dX5_restore_30 : decode cX5_restore 30 = .ok (.aaload, 1) := by decide +kernel
theorem dX5_restore_31 : decode cX5_restore 31 = .ok (.invokevirtual 73, 3) := by decide +kernel
theorem dX5_restore_34 : decode cX5_restore 34 = .ok (.aload_n 0, 1) := by decide +kernel
theorem dX5_restore_35 : decode cX5_restore 35 = .ok (.getfield 36, 3) := by decide +kernel
theorem dX5_restore_38 : decode cX5_restore 38 = .ok (.invokevirtual 77, 3) := by decide +kernel
theorem dX5_restore_41 : decode cX5_restore 41 = .ok (.aload_n 0, 1) := by decide +kernel
theorem dX5_restore_42 : decode cX5_restore 42 = .ok (.getfield 19, 3) := by decide +kernel
theorem dX5_restore_45 : decode cX5_restore 45 = .ok (.getfield 80, 3) := by decide +kernel
theorem dX5_restore_48 : decode cX5_restore 48 = .ok (.ireturn, 1) := by decide +kernel
theorem dX5_requireStaff_0 : decode cX5_requireStaff 0 = .ok (.aload_n 0, 1) := by decide +kernel
theorem dX5_requireStaff_1 : decode cX5_requireStaff 1 = .ok (.getfield 19, 3) := by decide +kernel
theorem dX5_requireStaff_4 : decode cX5_requireStaff 4 = .ok (.iload_n 1, 1) := by decide +kernel
theorem dX5_requireStaff_5 : decode cX5_requireStaff 5 = .ok (.invokevirtual 214, 3) := by decide +kernel
theorem dX5_requireStaff_8 : decode cX5_requireStaff 8 = .ok (.ifCond .ne 11, 3) := by decide +kernel
theorem dX5_requireStaff_11 : decode cX5_requireStaff 11 = .ok (.new 151, 3) := by decide +kernel
theorem dX5_requireStaff_14 : decode cX5_requireStaff 14 = .ok (.dup, 1) := by decide +kernel
theorem dX5_requireStaff_15 : decode cX5_requireStaff 15 = .ok (.invokespecial 153, 3) := by decide +kernel
theorem dX5_requireStaff_18 : decode cX5_requireStaff 18 = .ok (.athrow, 1) := by decide +kernel
theorem dX5_requireStaff_19 : decode cX5_requireStaff 19 = .ok (.return_, 1) := by decide +kernel
theorem dX5_requireBeat_0 : decode cX5_requireBeat 0 = .ok (.aload_n 0, 1) := by decide +kernel
theorem dX5_requireBeat_1 : decode cX5_requireBeat 1 = .ok (.getfield 19, 3) := by decide +kernel
theorem dX5_requireBeat_4 : decode cX5_requireBeat 4 = .ok (.iload_n 1, 1) := by decide +kernel
theorem dX5_requireBeat_5 : decode cX5_requireBeat 5 = .ok (.invokevirtual 217, 3) := by decide +kernel
theorem dX5_requireBeat_8 : decode cX5_requireBeat 8 = .ok (.ifCond .ne 11, 3) := by decide +kernel
theorem dX5_requireBeat_11 : decode cX5_requireBeat 11 = .ok (.new 151, 3) := by decide +kernel
theorem dX5_requireBeat_14 : decode cX5_requireBeat 14 = .ok (.dup, 1) := by decide +kernel
theorem dX5_requireBeat_15 : decode cX5_requireBeat 15 = .ok (.invokespecial 153, 3) := by decide +kernel
theorem dX5_requireBeat_18 : decode cX5_requireBeat 18 = .ok (.athrow, 1) := by decide +kernel
theorem dX5_requireBeat_19 : decode cX5_requireBeat 19 = .ok (.return_, 1) := by decide +kernel
theorem dX5_requireCell_0 : decode cX5_requireCell 0 = .ok (.aload_n 0, 1) := by decide +kernel
theorem dX5_requireCell_1 : decode cX5_requireCell 1 = .ok (.iload_n 1, 1) := by decide +kernel
theorem dX5_requireCell_2 : decode cX5_requireCell 2 = .ok (.invokevirtual 132, 3) := by decide +kernel
theorem dX5_requireCell_5 : decode cX5_requireCell 5 = .ok (.aload_n 0, 1) := by decide +kernel
theorem dX5_requireCell_6 : decode cX5_requireCell 6 = .ok (.iload_n 2, 1) := by decide +kernel
theorem dX5_requireCell_7 : decode cX5_requireCell 7 = .ok (.invokevirtual 157, 3) := by decide +kernel
theorem dX5_requireCell_10 : decode cX5_requireCell 10 = .ok (.return_, 1) := by decide +kernel
theorem dX5_requireSlot_0 : decode cX5_requireSlot 0 = .ok (.iload_n 0, 1) := by decide +kernel
theorem dX5_requireSlot_1 : decode cX5_requireSlot 1 = .ok (.ifCond .lt 8, 3) := by decide +kernel
theorem dX5_requireSlot_4 : decode cX5_requireSlot 4 = .ok (.iload_n 0, 1) := by decide +kernel
theorem dX5_requireSlot_5 : decode cX5_requireSlot 5 = .ok (.iconst 2, 1) := by decide +kernel
theorem dX5_requireSlot_6 : decode cX5_requireSlot 6 = .ok (.if_icmp .lt 11, 3) := by decide +kernel
theorem dX5_requireSlot_9 : decode cX5_requireSlot 9 = .ok (.new 151, 3) := by decide +kernel
theorem dX5_requireSlot_12 : decode cX5_requireSlot 12 = .ok (.dup, 1) := by decide +kernel
theorem dX5_requireSlot_13 : decode cX5_requireSlot 13 = .ok (.invokespecial 153, 3) := by decide +kernel
theorem dX5_requireSlot_16 : decode cX5_requireSlot 16 = .ok (.athrow, 1) := by decide +kernel
theorem dX5_requireSlot_17 : decode cX5_requireSlot 17 = .ok (.return_, 1) := by decide +kernel
theorem dX5_requireUpTo_0 : decode cX5_requireUpTo 0 = .ok (.iload_n 1, 1) := by decide +kernel
theorem dX5_requireUpTo_1 : decode cX5_requireUpTo 1 = .ok (.ifCond .lt 8, 3) := by decide +kernel
theorem dX5_requireUpTo_4 : decode cX5_requireUpTo 4 = .ok (.iload_n 1, 1) := by decide +kernel
theorem dX5_requireUpTo_5 : decode cX5_requireUpTo 5 = .ok (.iload_n 0, 1) := by decide +kernel
theorem dX5_requireUpTo_6 : decode cX5_requireUpTo 6 = .ok (.if_icmp .le 11, 3) := by decide +kernel
theorem dX5_requireUpTo_9 : decode cX5_requireUpTo 9 = .ok (.new 48, 3) := by decide +kernel
theorem dX5_requireUpTo_12 : decode cX5_requireUpTo 12 = .ok (.dup, 1) := by decide +kernel
theorem dX5_requireUpTo_13 : decode cX5_requireUpTo 13 = .ok (.invokespecial 50, 3) := by decide +kernel
theorem dX5_requireUpTo_16 : decode cX5_requireUpTo 16 = .ok (.athrow, 1) := by decide +kernel
theorem dX5_requireUpTo_17 : decode cX5_requireUpTo 17 = .ok (.return_, 1) := by decide +kernel
theorem dX5_numberOfTrial_0 : decode cX5_numberOfTrial 0 = .ok (.aload_n 0, 1) := by decide +kernel
theorem dX5_numberOfTrial_1 : decode cX5_numberOfTrial 1 = .ok (.getfield 29, 3) := by decide +kernel
theorem dX5_numberOfTrial_4 : decode cX5_numberOfTrial 4 = .ok (.aload_n 0, 1) := by decide +kernel
theorem dX5_numberOfTrial_5 : decode cX5_numberOfTrial 5 = .ok (.getfield 23, 3) := by decide +kernel
theorem dX5_numberOfTrial_8 : decode cX5_numberOfTrial 8 = .ok (.invokevirtual 172, 3) := by decide +kernel
theorem dX5_numberOfTrial_11 : decode cX5_numberOfTrial 11 = .ok (.aload_n 0, 1) := by decide +kernel
theorem dX5_numberOfTrial_12 : decode cX5_numberOfTrial 12 = .ok (.getfield 29, 3) := by decide +kernel
theorem dX5_numberOfTrial_15 : decode cX5_numberOfTrial 15 = .ok (.iload_n 1, 1) := by decide +kernel
theorem dX5_numberOfTrial_16 : decode cX5_numberOfTrial 16 = .ok (.invokevirtual 185, 3) := by decide +kernel
theorem dX5_numberOfTrial_19 : decode cX5_numberOfTrial 19 = .ok (.ireturn, 1) := by decide +kernel
theorem dX5_groupFromEnd_0 : decode cX5_groupFromEnd 0 = .ok (.lload_n 0, 1) := by decide +kernel
theorem dX5_groupFromEnd_1 : decode cX5_groupFromEnd 1 = .ok (.lstore_n 3, 1) := by decide +kernel
theorem dX5_groupFromEnd_2 : decode cX5_groupFromEnd 2 = .ok (.iconst 0, 1) := by decide +kernel
theorem dX5_groupFromEnd_3 : decode cX5_groupFromEnd 3 = .ok (.istore 5, 2) := by decide +kernel
theorem dX5_groupFromEnd_5 : decode cX5_groupFromEnd 5 = .ok (.iload 5, 2) := by decide +kernel
theorem dX5_groupFromEnd_7 : decode cX5_groupFromEnd 7 = .ok (.iload_n 2, 1) := by decide +kernel
theorem dX5_groupFromEnd_8 : decode cX5_groupFromEnd 8 = .ok (.if_icmp .ge 15, 3) := by decide +kernel
theorem dX5_groupFromEnd_11 : decode cX5_groupFromEnd 11 = .ok (.lload_n 3, 1) := by decide +kernel
theorem dX5_groupFromEnd_12 : decode cX5_groupFromEnd 12 = .ok (.ldc2_w 199, 3) := by decide +kernel
theorem dX5_groupFromEnd_15 : decode cX5_groupFromEnd 15 = .ok (.ldiv, 1) := by decide +kernel
theorem dX5_groupFromEnd_16 : decode cX5_groupFromEnd 16 = .ok (.lstore_n 3, 1) := by decide +kernel
theorem dX5_groupFromEnd_17 : decode cX5_groupFromEnd 17 = .ok (.iinc 5 1, 3) := by decide +kernel
theorem dX5_groupFromEnd_20 : decode cX5_groupFromEnd 20 = .ok (.goto (-15), 3) := by decide +kernel
theorem dX5_groupFromEnd_23 : decode cX5_groupFromEnd 23 = .ok (.lload_n 3, 1) := by decide +kernel
theorem dX5_groupFromEnd_24 : decode cX5_groupFromEnd 24 = .ok (.lreturn, 1) := by decide +kernel
theorem dX5_succeeds_0 : decode cX5_succeeds 0 = .ok (.iload_n 1, 1) := by decide +kernel
theorem dX5_succeeds_1 : decode cX5_succeeds 1 = .ok (.sipush 1000, 3) := by decide +kernel
theorem dX5_succeeds_4 : decode cX5_succeeds 4 = .ok (.idiv, 1) := by decide +kernel
theorem dX5_succeeds_5 : decode cX5_succeeds 5 = .ok (.bipush 10, 2) := by decide +kernel
theorem dX5_succeeds_7 : decode cX5_succeeds 7 = .ok (.irem, 1) := by decide +kernel
theorem dX5_succeeds_8 : decode cX5_succeeds 8 = .ok (.istore_n 2, 1) := by decide +kernel
theorem dX5_succeeds_9 : decode cX5_succeeds 9 = .ok (.iload_n 1, 1) := by decide +kernel
theorem dX5_succeeds_10 : decode cX5_succeeds 10 = .ok (.bipush 100, 2) := by decide +kernel
theorem dX5_succeeds_12 : decode cX5_succeeds 12 = .ok (.idiv, 1) := by decide +kernel
theorem dX5_succeeds_13 : decode cX5_succeeds 13 = .ok (.bipush 10, 2) := by decide +kernel
theorem dX5_succeeds_15 : decode cX5_succeeds 15 = .ok (.irem, 1) := by decide +kernel
theorem dX5_succeeds_16 : decode cX5_succeeds 16 = .ok (.istore_n 3, 1) := by decide +kernel
theorem dX5_succeeds_17 : decode cX5_succeeds 17 = .ok (.iload_n 1, 1) := by decide +kernel
theorem dX5_succeeds_18 : decode cX5_succeeds 18 = .ok (.bipush 10, 2) := by decide +kernel
theorem dX5_succeeds_20 : decode cX5_succeeds 20 = .ok (.idiv, 1) := by decide +kernel
theorem dX5_succeeds_21 : decode cX5_succeeds 21 = .ok (.bipush 10, 2) := by decide +kernel
theorem dX5_succeeds_23 : decode cX5_succeeds 23 = .ok (.irem, 1) := by decide +kernel
theorem dX5_succeeds_24 : decode cX5_succeeds 24 = .ok (.istore 4, 2) := by decide +kernel
theorem dX5_succeeds_26 : decode cX5_succeeds 26 = .ok (.iload_n 1, 1) := by decide +kernel
theorem dX5_succeeds_27 : decode cX5_succeeds 27 = .ok (.bipush 10, 2) := by decide +kernel
theorem dX5_succeeds_29 : decode cX5_succeeds 29 = .ok (.irem, 1) := by decide +kernel
theorem dX5_succeeds_30 : decode cX5_succeeds 30 = .ok (.istore 5, 2) := by decide +kernel
theorem dX5_succeeds_32 : decode cX5_succeeds 32 = .ok (.iload_n 1, 1) := by decide +kernel
theorem dX5_succeeds_33 : decode cX5_succeeds 33 = .ok (.bipush 100, 2) := by decide +kernel
theorem dX5_succeeds_35 : decode cX5_succeeds 35 = .ok (.irem, 1) := by decide +kernel
theorem dX5_succeeds_36 : decode cX5_succeeds 36 = .ok (.istore 6, 2) := by decide +kernel
theorem dX5_succeeds_38 : decode cX5_succeeds 38 = .ok (.iload_n 1, 1) := by decide +kernel
theorem dX5_succeeds_39 : decode cX5_succeeds 39 = .ok (.sipush 10000, 3) := by decide +kernel
theorem dX5_succeeds_42 : decode cX5_succeeds 42 = .ok (.idiv, 1) := by decide +kernel
theorem dX5_succeeds_43 : decode cX5_succeeds 43 = .ok (.tableswitch 303 1 9 #[49, 69, 94, 116, 150, 175, 199, 227, 265], 49) := by decide +kernel
theorem dX5_succeeds_92 : decode cX5_succeeds 92 = .ok (.iload_n 3, 1) := by decide +kernel
theorem dX5_succeeds_93 : decode cX5_succeeds 93 = .ok (.ifCond .ne 17, 3) := by decide +kernel
theorem dX5_succeeds_96 : decode cX5_succeeds 96 = .ok (.aload_n 0, 1) := by decide +kernel
theorem dX5_succeeds_97 : decode cX5_succeeds 97 = .ok (.iload_n 2, 1) := by decide +kernel
theorem dX5_succeeds_98 : decode cX5_succeeds 98 = .ok (.iload 6, 2) := by decide +kernel
theorem dX5_succeeds_100 : decode cX5_succeeds 100 = .ok (.invokevirtual 220, 3) := by decide +kernel
theorem dX5_succeeds_103 : decode cX5_succeeds 103 = .ok (.ifCond .eq 7, 3) := by decide +kernel
theorem dX5_succeeds_106 : decode cX5_succeeds 106 = .ok (.iconst 1, 1) := by decide +kernel
theorem dX5_succeeds_107 : decode cX5_succeeds 107 = .ok (.goto 4, 3) := by decide +kernel
theorem dX5_succeeds_110 : decode cX5_succeeds 110 = .ok (.iconst 0, 1) := by decide +kernel
theorem dX5_succeeds_111 : decode cX5_succeeds 111 = .ok (.ireturn, 1) := by decide +kernel
theorem dX5_succeeds_112 : decode cX5_succeeds 112 = .ok (.iload 6, 2) := by decide +kernel
theorem dX5_succeeds_114 : decode cX5_succeeds 114 = .ok (.invokestatic 118, 3) := by decide +kernel
theorem dX5_succeeds_117 : decode cX5_succeeds 117 = .ok (.ifCond .eq 18, 3) := by decide +kernel
theorem dX5_succeeds_120 : decode cX5_succeeds 120 = .ok (.aload_n 0, 1) := by decide +kernel
theorem dX5_succeeds_121 : decode cX5_succeeds 121 = .ok (.iload_n 2, 1) := by decide +kernel
theorem dX5_succeeds_122 : decode cX5_succeeds 122 = .ok (.iload_n 3, 1) := by decide +kernel
theorem dX5_succeeds_123 : decode cX5_succeeds 123 = .ok (.iload 6, 2) := by decide +kernel
theorem dX5_succeeds_125 : decode cX5_succeeds 125 = .ok (.invokevirtual 223, 3) := by decide +kernel
theorem dX5_succeeds_128 : decode cX5_succeeds 128 = .ok (.ifCond .eq 7, 3) := by decide +kernel
theorem dX5_succeeds_131 : decode cX5_succeeds 131 = .ok (.iconst 1, 1) := by decide +kernel
theorem dX5_succeeds_132 : decode cX5_succeeds 132 = .ok (.goto 4, 3) := by decide +kernel
theorem dX5_succeeds_135 : decode cX5_succeeds 135 = .ok (.iconst 0, 1) := by decide +kernel
theorem dX5_succeeds_136 : decode cX5_succeeds 136 = .ok (.ireturn, 1) := by decide +kernel
theorem dX5_succeeds_137 : decode cX5_succeeds 137 = .ok (.iload 6, 2) := by decide +kernel
theorem dX5_succeeds_139 : decode cX5_succeeds 139 = .ok (.ifCond .ne 18, 3) := by decide +kernel
theorem dX5_succeeds_142 : decode cX5_succeeds 142 = .ok (.aload_n 0, 1) := by decide +kernel
theorem dX5_succeeds_143 : decode cX5_succeeds 143 = .ok (.iload_n 2, 1) := by decide +kernel
theorem dX5_succeeds_144 : decode cX5_succeeds 144 = .ok (.iload_n 3, 1) := by decide +kernel
theorem dX5_succeeds_145 : decode cX5_succeeds 145 = .ok (.bipush (-9), 2) := by decide +kernel
theorem dX5_succeeds_147 : decode cX5_succeeds 147 = .ok (.invokevirtual 223, 3) := by decide +kernel
theorem dX5_succeeds_150 : decode cX5_succeeds 150 = .ok (.ifCond .eq 7, 3) := by decide +kernel
theorem dX5_succeeds_153 : decode cX5_succeeds 153 = .ok (.iconst 1, 1) := by decide +kernel
theorem dX5_succeeds_154 : decode cX5_succeeds 154 = .ok (.goto 4, 3) := by decide +kernel
theorem dX5_succeeds_157 : decode cX5_succeeds 157 = .ok (.iconst 0, 1) := by decide +kernel
theorem dX5_succeeds_158 : decode cX5_succeeds 158 = .ok (.ireturn, 1) := by decide +kernel
theorem dX5_succeeds_159 : decode cX5_succeeds 159 = .ok (.iload 6, 2) := by decide +kernel
theorem dX5_succeeds_161 : decode cX5_succeeds 161 = .ok (.ifCond .ne 30, 3) := by decide +kernel
theorem dX5_succeeds_164 : decode cX5_succeeds 164 = .ok (.aload_n 0, 1) := by decide +kernel
theorem dX5_succeeds_165 : decode cX5_succeeds 165 = .ok (.getfield 23, 3) := by decide +kernel
theorem dX5_succeeds_168 : decode cX5_succeeds 168 = .ok (.iload_n 2, 1) := by decide +kernel
theorem dX5_succeeds_169 : decode cX5_succeeds 169 = .ok (.iload_n 3, 1) := by decide +kernel
theorem dX5_succeeds_170 : decode cX5_succeeds 170 = .ok (.invokevirtual 122, 3) := by decide +kernel
theorem dX5_succeeds_173 : decode cX5_succeeds 173 = .ok (.ifCond .eq 18, 3) := by decide +kernel
theorem dX5_succeeds_176 : decode cX5_succeeds 176 = .ok (.aload_n 0, 1) := by decide +kernel
theorem dX5_succeeds_177 : decode cX5_succeeds 177 = .ok (.iload_n 2, 1) := by decide +kernel
theorem dX5_succeeds_178 : decode cX5_succeeds 178 = .ok (.iload_n 3, 1) := by decide +kernel
theorem dX5_succeeds_179 : decode cX5_succeeds 179 = .ok (.bipush 99, 2) := by decide +kernel
theorem dX5_succeeds_181 : decode cX5_succeeds 181 = .ok (.invokevirtual 223, 3) := by decide +kernel
theorem dX5_succeeds_184 : decode cX5_succeeds 184 = .ok (.ifCond .eq 7, 3) := by decide +kernel
theorem dX5_succeeds_187 : decode cX5_succeeds 187 = .ok (.iconst 1, 1) := by decide +kernel
theorem dX5_succeeds_188 : decode cX5_succeeds 188 = .ok (.goto 4, 3) := by decide +kernel
theorem dX5_succeeds_191 : decode cX5_succeeds 191 = .ok (.iconst 0, 1) := by decide +kernel
theorem dX5_succeeds_192 : decode cX5_succeeds 192 = .ok (.ireturn, 1) := by decide +kernel
theorem dX5_succeeds_193 : decode cX5_succeeds 193 = .ok (.iload_n 2, 1) := by decide +kernel
theorem dX5_succeeds_194 : decode cX5_succeeds 194 = .ok (.ifCond .ne 22, 3) := by decide +kernel
theorem dX5_succeeds_197 : decode cX5_succeeds 197 = .ok (.iload 5, 2) := by decide +kernel
theorem dX5_succeeds_199 : decode cX5_succeeds 199 = .ok (.ifCond .ne 17, 3) := by decide +kernel
theorem dX5_succeeds_202 : decode cX5_succeeds 202 = .ok (.aload_n 0, 1) := by decide +kernel
theorem dX5_succeeds_203 : decode cX5_succeeds 203 = .ok (.iload_n 3, 1) := by decide +kernel
theorem dX5_succeeds_204 : decode cX5_succeeds 204 = .ok (.iload 4, 2) := by decide +kernel
theorem dX5_succeeds_206 : decode cX5_succeeds 206 = .ok (.invokevirtual 227, 3) := by decide +kernel
theorem dX5_succeeds_209 : decode cX5_succeeds 209 = .ok (.ifCond .eq 7, 3) := by decide +kernel
theorem dX5_succeeds_212 : decode cX5_succeeds 212 = .ok (.iconst 1, 1) := by decide +kernel
theorem dX5_succeeds_213 : decode cX5_succeeds 213 = .ok (.goto 4, 3) := by decide +kernel
theorem dX5_succeeds_216 : decode cX5_succeeds 216 = .ok (.iconst 0, 1) := by decide +kernel
theorem dX5_succeeds_217 : decode cX5_succeeds 217 = .ok (.ireturn, 1) := by decide +kernel
theorem dX5_succeeds_218 : decode cX5_succeeds 218 = .ok (.iload 6, 2) := by decide +kernel
theorem dX5_succeeds_220 : decode cX5_succeeds 220 = .ok (.ifCond .ne 20, 3) := by decide +kernel
theorem dX5_succeeds_223 : decode cX5_succeeds 223 = .ok (.aload_n 0, 1) := by decide +kernel
theorem dX5_succeeds_224 : decode cX5_succeeds 224 = .ok (.bipush 10, 2) := by decide +kernel
theorem dX5_succeeds_226 : decode cX5_succeeds 226 = .ok (.iload_n 2, 1) := by decide +kernel
theorem dX5_succeeds_227 : decode cX5_succeeds 227 = .ok (.imul, 1) := by decide +kernel
theorem dX5_succeeds_228 : decode cX5_succeeds 228 = .ok (.iload_n 3, 1) := by decide +kernel
theorem dX5_succeeds_229 : decode cX5_succeeds 229 = .ok (.iadd, 1) := by decide +kernel
theorem dX5_succeeds_230 : decode cX5_succeeds 230 = .ok (.invokevirtual 230, 3) := by decide +kernel
theorem dX5_succeeds_233 : decode cX5_succeeds 233 = .ok (.ifCond .eq 7, 3) := by decide +kernel
theorem dX5_succeeds_236 : decode cX5_succeeds 236 = .ok (.iconst 1, 1) := by decide +kernel
theorem dX5_succeeds_237 : decode cX5_succeeds 237 = .ok (.goto 4, 3) := by decide +kernel
theorem dX5_succeeds_240 : decode cX5_succeeds 240 = .ok (.iconst 0, 1) := by decide +kernel
theorem dX5_succeeds_241 : decode cX5_succeeds 241 = .ok (.ireturn, 1) := by decide +kernel
theorem dX5_succeeds_242 : decode cX5_succeeds 242 = .ok (.iload_n 2, 1) := by decide +kernel
theorem dX5_succeeds_243 : decode cX5_succeeds 243 = .ok (.bipush 7, 2) := by decide +kernel
theorem dX5_succeeds_245 : decode cX5_succeeds 245 = .ok (.if_icmp .gt 23, 3) := by decide +kernel
theorem dX5_succeeds_248 : decode cX5_succeeds 248 = .ok (.aload_n 0, 1) := by decide +kernel
theorem dX5_succeeds_249 : decode cX5_succeeds 249 = .ok (.getfield 29, 3) := by decide +kernel
theorem dX5_succeeds_252 : decode cX5_succeeds 252 = .ok (.iload_n 2, 1) := by decide +kernel
theorem dX5_succeeds_253 : decode cX5_succeeds 253 = .ok (.invokevirtual 185, 3) := by decide +kernel
theorem dX5_succeeds_256 : decode cX5_succeeds 256 = .ok (.iload_n 1, 1) := by decide +kernel
theorem dX5_succeeds_257 : decode cX5_succeeds 257 = .ok (.sipush 1000, 3) := by decide +kernel
theorem dX5_succeeds_260 : decode cX5_succeeds 260 = .ok (.irem, 1) := by decide +kernel
theorem dX5_succeeds_261 : decode cX5_succeeds 261 = .ok (.if_icmp .ne 7, 3) := by decide +kernel
theorem dX5_succeeds_264 : decode cX5_succeeds 264 = .ok (.iconst 1, 1) := by decide +kernel
theorem dX5_succeeds_265 : decode cX5_succeeds 265 = .ok (.goto 4, 3) := by decide +kernel
theorem dX5_succeeds_268 : decode cX5_succeeds 268 = .ok (.iconst 0, 1) := by decide +kernel
theorem dX5_succeeds_269 : decode cX5_succeeds 269 = .ok (.ireturn, 1) := by decide +kernel
theorem dX5_succeeds_270 : decode cX5_succeeds 270 = .ok (.iload 4, 2) := by decide +kernel
theorem dX5_succeeds_272 : decode cX5_succeeds 272 = .ok (.ifCond .ne 34, 3) := by decide +kernel
theorem dX5_succeeds_275 : decode cX5_succeeds 275 = .ok (.aload_n 0, 1) := by decide +kernel
theorem dX5_succeeds_276 : decode cX5_succeeds 276 = .ok (.getfield 23, 3) := by decide +kernel
theorem dX5_succeeds_279 : decode cX5_succeeds 279 = .ok (.iload_n 2, 1) := by decide +kernel
theorem dX5_succeeds_280 : decode cX5_succeeds 280 = .ok (.iload_n 3, 1) := by decide +kernel
theorem dX5_succeeds_281 : decode cX5_succeeds 281 = .ok (.invokevirtual 233, 3) := by decide +kernel
theorem dX5_succeeds_284 : decode cX5_succeeds 284 = .ok (.ifCond .eq 22, 3) := by decide +kernel
theorem dX5_succeeds_287 : decode cX5_succeeds 287 = .ok (.aload_n 0, 1) := by decide +kernel
theorem dX5_succeeds_288 : decode cX5_succeeds 288 = .ok (.getfield 29, 3) := by decide +kernel
theorem dX5_succeeds_291 : decode cX5_succeeds 291 = .ok (.iload_n 2, 1) := by decide +kernel
theorem dX5_succeeds_292 : decode cX5_succeeds 292 = .ok (.iload_n 3, 1) := by decide +kernel
theorem dX5_succeeds_293 : decode cX5_succeeds 293 = .ok (.iconst 0, 1) := by decide +kernel
theorem dX5_succeeds_294 : decode cX5_succeeds 294 = .ok (.invokevirtual 175, 3) := by decide +kernel
theorem dX5_succeeds_297 : decode cX5_succeeds 297 = .ok (.iload 5, 2) := by decide +kernel
theorem dX5_succeeds_299 : decode cX5_succeeds 299 = .ok (.if_icmp .ne 7, 3) := by decide +kernel
theorem dX5_succeeds_302 : decode cX5_succeeds 302 = .ok (.iconst 1, 1) := by decide +kernel
theorem dX5_succeeds_303 : decode cX5_succeeds 303 = .ok (.goto 4, 3) := by decide +kernel
theorem dX5_succeeds_306 : decode cX5_succeeds 306 = .ok (.iconst 0, 1) := by decide +kernel
theorem dX5_succeeds_307 : decode cX5_succeeds 307 = .ok (.ireturn, 1) := by decide +kernel
theorem dX5_succeeds_308 : decode cX5_succeeds 308 = .ok (.iload 4, 2) := by decide +kernel
theorem dX5_succeeds_310 : decode cX5_succeeds 310 = .ok (.ifCond .ne 34, 3) := by decide +kernel
theorem dX5_succeeds_313 : decode cX5_succeeds 313 = .ok (.aload_n 0, 1) := by decide +kernel
theorem dX5_succeeds_314 : decode cX5_succeeds 314 = .ok (.getfield 23, 3) := by decide +kernel
theorem dX5_succeeds_317 : decode cX5_succeeds 317 = .ok (.iload_n 2, 1) := by decide +kernel
theorem dX5_succeeds_318 : decode cX5_succeeds 318 = .ok (.iload_n 3, 1) := by decide +kernel
theorem dX5_succeeds_319 : decode cX5_succeeds 319 = .ok (.invokevirtual 233, 3) := by decide +kernel
theorem dX5_succeeds_322 : decode cX5_succeeds 322 = .ok (.ifCond .eq 22, 3) := by decide +kernel
theorem dX5_succeeds_325 : decode cX5_succeeds 325 = .ok (.aload_n 0, 1) := by decide +kernel
theorem dX5_succeeds_326 : decode cX5_succeeds 326 = .ok (.getfield 29, 3) := by decide +kernel
theorem dX5_succeeds_329 : decode cX5_succeeds 329 = .ok (.iload_n 2, 1) := by decide +kernel
theorem dX5_succeeds_330 : decode cX5_succeeds 330 = .ok (.iload_n 3, 1) := by decide +kernel
theorem dX5_succeeds_331 : decode cX5_succeeds 331 = .ok (.iconst 1, 1) := by decide +kernel
theorem dX5_succeeds_332 : decode cX5_succeeds 332 = .ok (.invokevirtual 175, 3) := by decide +kernel
theorem dX5_succeeds_335 : decode cX5_succeeds 335 = .ok (.iload 5, 2) := by decide +kernel
theorem dX5_succeeds_337 : decode cX5_succeeds 337 = .ok (.if_icmp .ne 7, 3) := by decide +kernel
theorem dX5_succeeds_340 : decode cX5_succeeds 340 = .ok (.iconst 1, 1) := by decide +kernel
theorem dX5_succeeds_341 : decode cX5_succeeds 341 = .ok (.goto 4, 3) := by decide +kernel
theorem dX5_succeeds_344 : decode cX5_succeeds 344 = .ok (.iconst 0, 1) := by decide +kernel
theorem dX5_succeeds_345 : decode cX5_succeeds 345 = .ok (.ireturn, 1) := by decide +kernel
theorem dX5_succeeds_346 : decode cX5_succeeds 346 = .ok (.iconst 0, 1) := by decide +kernel
theorem dX5_succeeds_347 : decode cX5_succeeds 347 = .ok (.ireturn, 1) := by decide +kernel
theorem dX5_triedSetting_0 : decode cX5_triedSetting 0 = .ok (.iload_n 1, 1) := by decide +kernel
theorem dX5_triedSetting_1 : decode cX5_triedSetting 1 = .ok (.iload_n 2, 1) := by decide +kernel
theorem dX5_triedSetting_2 : decode cX5_triedSetting 2 = .ok (.invokestatic 108, 3) := by decide +kernel
theorem dX5_triedSetting_5 : decode cX5_triedSetting 5 = .ok (.ifCond .ne 5, 3) := by decide +kernel
theorem dX5_triedSetting_8 : decode cX5_triedSetting 8 = .ok (.iconst 0, 1) := by decide +kernel
theorem dX5_triedSetting_9 : decode cX5_triedSetting 9 = .ok (.ireturn, 1) := by decide +kernel
theorem dX5_triedSetting_10 : decode cX5_triedSetting 10 = .ok (.aload_n 0, 1) := by decide +kernel
theorem dX5_triedSetting_11 : decode cX5_triedSetting 11 = .ok (.getfield 23, 3) := by decide +kernel
theorem dX5_triedSetting_14 : decode cX5_triedSetting 14 = .ok (.iload_n 1, 1) := by decide +kernel
theorem dX5_triedSetting_15 : decode cX5_triedSetting 15 = .ok (.iload_n 2, 1) := by decide +kernel
theorem dX5_triedSetting_16 : decode cX5_triedSetting 16 = .ok (.invokevirtual 115, 3) := by decide +kernel
theorem dX5_triedSetting_19 : decode cX5_triedSetting 19 = .ok (.iconst 1, 1) := by decide +kernel
theorem dX5_triedSetting_20 : decode cX5_triedSetting 20 = .ok (.ireturn, 1) := by decide +kernel
theorem dX5_triedCell_0 : decode cX5_triedCell 0 = .ok (.aload_n 0, 1) := by decide +kernel
theorem dX5_triedCell_1 : decode cX5_triedCell 1 = .ok (.getfield 23, 3) := by decide +kernel
theorem dX5_triedCell_4 : decode cX5_triedCell 4 = .ok (.iload_n 1, 1) := by decide +kernel
theorem dX5_triedCell_5 : decode cX5_triedCell 5 = .ok (.iload_n 2, 1) := by decide +kernel
theorem dX5_triedCell_6 : decode cX5_triedCell 6 = .ok (.invokevirtual 233, 3) := by decide +kernel
theorem dX5_triedCell_9 : decode cX5_triedCell 9 = .ok (.ifCond .ne 5, 3) := by decide +kernel
theorem dX5_triedCell_12 : decode cX5_triedCell 12 = .ok (.iconst 0, 1) := by decide +kernel
theorem dX5_triedCell_13 : decode cX5_triedCell 13 = .ok (.ireturn, 1) := by decide +kernel
theorem dX5_triedCell_14 : decode cX5_triedCell 14 = .ok (.aload_n 0, 1) := by decide +kernel
theorem dX5_triedCell_15 : decode cX5_triedCell 15 = .ok (.getfield 23, 3) := by decide +kernel
theorem dX5_triedCell_18 : decode cX5_triedCell 18 = .ok (.iload_n 1, 1) := by decide +kernel
theorem dX5_triedCell_19 : decode cX5_triedCell 19 = .ok (.iload_n 2, 1) := by decide +kernel
theorem dX5_triedCell_20 : decode cX5_triedCell 20 = .ok (.iload_n 3, 1) := by decide +kernel
theorem dX5_triedCell_21 : decode cX5_triedCell 21 = .ok (.invokevirtual 125, 3) := by decide +kernel
theorem dX5_triedCell_24 : decode cX5_triedCell 24 = .ok (.aload_n 0, 1) := by decide +kernel
theorem dX5_triedCell_25 : decode cX5_triedCell 25 = .ok (.getfield 23, 3) := by decide +kernel
theorem dX5_triedCell_28 : decode cX5_triedCell 28 = .ok (.invokevirtual 129, 3) := by decide +kernel
theorem dX5_triedCell_31 : decode cX5_triedCell 31 = .ok (.iconst 1, 1) := by decide +kernel
theorem dX5_triedCell_32 : decode cX5_triedCell 32 = .ok (.ireturn, 1) := by decide +kernel
theorem dX5_triedExchange_0 : decode cX5_triedExchange 0 = .ok (.aload_n 0, 1) := by decide +kernel
theorem dX5_triedExchange_1 : decode cX5_triedExchange 1 = .ok (.getfield 23, 3) := by decide +kernel
theorem dX5_triedExchange_4 : decode cX5_triedExchange 4 = .ok (.iload_n 1, 1) := by decide +kernel
theorem dX5_triedExchange_5 : decode cX5_triedExchange 5 = .ok (.invokevirtual 214, 3) := by decide +kernel
theorem dX5_triedExchange_8 : decode cX5_triedExchange 8 = .ok (.ifCond .eq 14, 3) := by decide +kernel
theorem dX5_triedExchange_11 : decode cX5_triedExchange 11 = .ok (.aload_n 0, 1) := by decide +kernel
theorem dX5_triedExchange_12 : decode cX5_triedExchange 12 = .ok (.getfield 23, 3) := by decide +kernel
theorem dX5_triedExchange_15 : decode cX5_triedExchange 15 = .ok (.iload_n 2, 1) := by decide +kernel
theorem dX5_triedExchange_16 : decode cX5_triedExchange 16 = .ok (.invokevirtual 214, 3) := by decide +kernel
theorem dX5_triedExchange_19 : decode cX5_triedExchange 19 = .ok (.ifCond .ne 5, 3) := by decide +kernel
theorem dX5_triedExchange_22 : decode cX5_triedExchange 22 = .ok (.iconst 0, 1) := by decide +kernel
theorem dX5_triedExchange_23 : decode cX5_triedExchange 23 = .ok (.ireturn, 1) := by decide +kernel
theorem dX5_triedExchange_24 : decode cX5_triedExchange 24 = .ok (.aload_n 0, 1) := by decide +kernel
theorem dX5_triedExchange_25 : decode cX5_triedExchange 25 = .ok (.getfield 23, 3) := by decide +kernel
theorem dX5_triedExchange_28 : decode cX5_triedExchange 28 = .ok (.iload_n 1, 1) := by decide +kernel
theorem dX5_triedExchange_29 : decode cX5_triedExchange 29 = .ok (.iload_n 2, 1) := by decide +kernel
theorem dX5_triedExchange_30 : decode cX5_triedExchange 30 = .ok (.invokevirtual 142, 3) := by decide +kernel
theorem dX5_triedExchange_33 : decode cX5_triedExchange 33 = .ok (.pop, 1) := by decide +kernel
theorem dX5_triedExchange_34 : decode cX5_triedExchange 34 = .ok (.iconst 1, 1) := by decide +kernel
theorem dX5_triedExchange_35 : decode cX5_triedExchange 35 = .ok (.ireturn, 1) := by decide +kernel
theorem dX5_triedRemoval_0 : decode cX5_triedRemoval 0 = .ok (.aload_n 0, 1) := by decide +kernel
theorem dX5_triedRemoval_1 : decode cX5_triedRemoval 1 = .ok (.getfield 23, 3) := by decide +kernel
theorem dX5_triedRemoval_4 : decode cX5_triedRemoval 4 = .ok (.iload_n 1, 1) := by decide +kernel
theorem dX5_triedRemoval_5 : decode cX5_triedRemoval 5 = .ok (.invokevirtual 217, 3) := by decide +kernel
theorem dX5_triedRemoval_8 : decode cX5_triedRemoval 8 = .ok (.ifCond .eq 14, 3) := by decide +kernel
theorem dX5_triedRemoval_11 : decode cX5_triedRemoval 11 = .ok (.aload_n 0, 1) := by decide +kernel
theorem dX5_triedRemoval_12 : decode cX5_triedRemoval 12 = .ok (.getfield 23, 3) := by decide +kernel
theorem dX5_triedRemoval_15 : decode cX5_triedRemoval 15 = .ok (.getfield 80, 3) := by decide +kernel
theorem dX5_triedRemoval_18 : decode cX5_triedRemoval 18 = .ok (.iconst 1, 1) := by decide +kernel
theorem dX5_triedRemoval_19 : decode cX5_triedRemoval 19 = .ok (.if_icmp .gt 5, 3) := by decide +kernel
theorem dX5_triedRemoval_22 : decode cX5_triedRemoval 22 = .ok (.iconst 0, 1) := by decide +kernel
theorem dX5_triedRemoval_23 : decode cX5_triedRemoval 23 = .ok (.ireturn, 1) := by decide +kernel
theorem dX5_triedRemoval_24 : decode cX5_triedRemoval 24 = .ok (.aload_n 0, 1) := by decide +kernel
theorem dX5_triedRemoval_25 : decode cX5_triedRemoval 25 = .ok (.getfield 23, 3) := by decide +kernel
theorem dX5_triedRemoval_28 : decode cX5_triedRemoval 28 = .ok (.iload_n 1, 1) := by decide +kernel
theorem dX5_triedRemoval_29 : decode cX5_triedRemoval 29 = .ok (.invokevirtual 160, 3) := by decide +kernel
theorem dX5_triedRemoval_32 : decode cX5_triedRemoval 32 = .ok (.aload_n 0, 1) := by decide +kernel
theorem dX5_triedRemoval_33 : decode cX5_triedRemoval 33 = .ok (.getfield 23, 3) := by decide +kernel
theorem dX5_triedRemoval_36 : decode cX5_triedRemoval 36 = .ok (.invokevirtual 129, 3) := by decide +kernel
theorem dX5_triedRemoval_39 : decode cX5_triedRemoval 39 = .ok (.iconst 1, 1) := by decide +kernel
theorem dX5_triedRemoval_40 : decode cX5_triedRemoval 40 = .ok (.ireturn, 1) := by decide +kernel
theorem dX5_simulateRound_0 : decode cX5_simulateRound 0 = .ok (.aload_n 0, 1) := by decide +kernel
theorem dX5_simulateRound_1 : decode cX5_simulateRound 1 = .ok (.getfield 23, 3) := by decide +kernel
theorem dX5_simulateRound_4 : decode cX5_simulateRound 4 = .ok (.getfield 88, 3) := by decide +kernel
theorem dX5_simulateRound_7 : decode cX5_simulateRound 7 = .ok (.iconst 1, 1) := by decide +kernel
theorem dX5_simulateRound_8 : decode cX5_simulateRound 8 = .ok (.if_icmp .lt 14, 3) := by decide +kernel
theorem dX5_simulateRound_11 : decode cX5_simulateRound 11 = .ok (.aload_n 0, 1) := by decide +kernel
theorem dX5_simulateRound_12 : decode cX5_simulateRound 12 = .ok (.getfield 23, 3) := by decide +kernel
theorem dX5_simulateRound_15 : decode cX5_simulateRound 15 = .ok (.getfield 80, 3) := by decide +kernel
theorem dX5_simulateRound_18 : decode cX5_simulateRound 18 = .ok (.iconst 1, 1) := by decide +kernel
theorem dX5_simulateRound_19 : decode cX5_simulateRound 19 = .ok (.if_icmp .ge 4, 3) := by decide +kernel
theorem dX5_simulateRound_22 : decode cX5_simulateRound 22 = .ok (.return_, 1) := by decide +kernel
theorem dX5_simulateRound_23 : decode cX5_simulateRound 23 = .ok (.iload_n 1, 1) := by decide +kernel
theorem dX5_simulateRound_24 : decode cX5_simulateRound 24 = .ok (.aload_n 0, 1) := by decide +kernel
theorem dX5_simulateRound_25 : decode cX5_simulateRound 25 = .ok (.getfield 23, 3) := by decide +kernel
theorem dX5_simulateRound_28 : decode cX5_simulateRound 28 = .ok (.getfield 88, 3) := by decide +kernel
theorem dX5_simulateRound_31 : decode cX5_simulateRound 31 = .ok (.irem, 1) := by decide +kernel
theorem dX5_simulateRound_32 : decode cX5_simulateRound 32 = .ok (.istore_n 2, 1) := by decide +kernel
theorem dX5_simulateRound_33 : decode cX5_simulateRound 33 = .ok (.iload_n 1, 1) := by decide +kernel
theorem dX5_simulateRound_34 : decode cX5_simulateRound 34 = .ok (.iconst 4, 1) := by decide +kernel
theorem dX5_simulateRound_35 : decode cX5_simulateRound 35 = .ok (.idiv, 1) := by decide +kernel
theorem dX5_simulateRound_36 : decode cX5_simulateRound 36 = .ok (.aload_n 0, 1) := by decide +kernel
theorem dX5_simulateRound_37 : decode cX5_simulateRound 37 = .ok (.getfield 23, 3) := by decide +kernel
theorem dX5_simulateRound_40 : decode cX5_simulateRound 40 = .ok (.getfield 80, 3) := by decide +kernel
theorem dX5_simulateRound_43 : decode cX5_simulateRound 43 = .ok (.irem, 1) := by decide +kernel
theorem dX5_simulateRound_44 : decode cX5_simulateRound 44 = .ok (.istore_n 3, 1) := by decide +kernel
theorem dX5_simulateRound_45 : decode cX5_simulateRound 45 = .ok (.iload_n 1, 1) := by decide +kernel
theorem dX5_simulateRound_46 : decode cX5_simulateRound 46 = .ok (.bipush 64, 2) := by decide +kernel
theorem dX5_simulateRound_48 : decode cX5_simulateRound 48 = .ok (.idiv, 1) := by decide +kernel
theorem dX5_simulateRound_49 : decode cX5_simulateRound 49 = .ok (.bipush 64, 2) := by decide +kernel
theorem dX5_simulateRound_51 : decode cX5_simulateRound 51 = .ok (.irem, 1) := by decide +kernel
theorem dX5_simulateRound_52 : decode cX5_simulateRound 52 = .ok (.istore 4, 2) := by decide +kernel
theorem dX5_simulateRound_54 : decode cX5_simulateRound 54 = .ok (.iload 4, 2) := by decide +kernel
theorem dX5_simulateRound_56 : decode cX5_simulateRound 56 = .ok (.invokestatic 118, 3) := by decide +kernel
theorem dX5_simulateRound_59 : decode cX5_simulateRound 59 = .ok (.ifCond .eq 15, 3) := by decide +kernel
theorem dX5_simulateRound_62 : decode cX5_simulateRound 62 = .ok (.aload_n 0, 1) := by decide +kernel
theorem dX5_simulateRound_63 : decode cX5_simulateRound 63 = .ok (.iload_n 2, 1) := by decide +kernel
theorem dX5_simulateRound_64 : decode cX5_simulateRound 64 = .ok (.iload_n 3, 1) := by decide +kernel
theorem dX5_simulateRound_65 : decode cX5_simulateRound 65 = .ok (.iload 4, 2) := by decide +kernel
theorem dX5_simulateRound_67 : decode cX5_simulateRound 67 = .ok (.invokevirtual 223, 3) := by decide +kernel
theorem dX5_simulateRound_70 : decode cX5_simulateRound 70 = .ok (.pop, 1) := by decide +kernel
theorem dX5_simulateRound_71 : decode cX5_simulateRound 71 = .ok (.goto 43, 3) := by decide +kernel
theorem dX5_simulateRound_74 : decode cX5_simulateRound 74 = .ok (.iload 4, 2) := by decide +kernel
theorem dX5_simulateRound_76 : decode cX5_simulateRound 76 = .ok (.bipush 61, 2) := by decide +kernel
theorem dX5_simulateRound_78 : decode cX5_simulateRound 78 = .ok (.if_icmp .ne 15, 3) := by decide +kernel
theorem dX5_simulateRound_81 : decode cX5_simulateRound 81 = .ok (.aload_n 0, 1) := by decide +kernel
theorem dX5_simulateRound_82 : decode cX5_simulateRound 82 = .ok (.iload_n 2, 1) := by decide +kernel
theorem dX5_simulateRound_83 : decode cX5_simulateRound 83 = .ok (.iload_n 3, 1) := by decide +kernel
theorem dX5_simulateRound_84 : decode cX5_simulateRound 84 = .ok (.bipush (-9), 2) := by decide +kernel
theorem dX5_simulateRound_86 : decode cX5_simulateRound 86 = .ok (.invokevirtual 223, 3) := by decide +kernel
theorem dX5_simulateRound_89 : decode cX5_simulateRound 89 = .ok (.pop, 1) := by decide +kernel
theorem dX5_simulateRound_90 : decode cX5_simulateRound 90 = .ok (.goto 24, 3) := by decide +kernel
theorem dX5_simulateRound_93 : decode cX5_simulateRound 93 = .ok (.aload_n 0, 1) := by decide +kernel
theorem dX5_simulateRound_94 : decode cX5_simulateRound 94 = .ok (.getfield 23, 3) := by decide +kernel
theorem dX5_simulateRound_97 : decode cX5_simulateRound 97 = .ok (.iload_n 2, 1) := by decide +kernel
theorem dX5_simulateRound_98 : decode cX5_simulateRound 98 = .ok (.iload_n 3, 1) := by decide +kernel
theorem dX5_simulateRound_99 : decode cX5_simulateRound 99 = .ok (.invokevirtual 122, 3) := by decide +kernel
theorem dX5_simulateRound_102 : decode cX5_simulateRound 102 = .ok (.ifCond .eq 12, 3) := by decide +kernel
theorem dX5_simulateRound_105 : decode cX5_simulateRound 105 = .ok (.aload_n 0, 1) := by decide +kernel
theorem dX5_simulateRound_106 : decode cX5_simulateRound 106 = .ok (.iload_n 2, 1) := by decide +kernel
theorem dX5_simulateRound_107 : decode cX5_simulateRound 107 = .ok (.iload_n 3, 1) := by decide +kernel
theorem dX5_simulateRound_108 : decode cX5_simulateRound 108 = .ok (.bipush 99, 2) := by decide +kernel
theorem dX5_simulateRound_110 : decode cX5_simulateRound 110 = .ok (.invokevirtual 223, 3) := by decide +kernel
theorem dX5_simulateRound_113 : decode cX5_simulateRound 113 = .ok (.pop, 1) := by decide +kernel
theorem dX5_simulateRound_114 : decode cX5_simulateRound 114 = .ok (.return_, 1) := by decide +kernel
