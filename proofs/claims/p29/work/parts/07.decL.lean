theorem dL_tryAppend_0 : decode cL_tryAppend 0 = .ok (.aload_n 0, 1) := by decide +kernel
theorem dL_tryAppend_1 : decode cL_tryAppend 1 = .ok (.iload_n 1, 1) := by decide +kernel
theorem dL_tryAppend_2 : decode cL_tryAppend 2 = .ok (.invokevirtual 7, 3) := by decide +kernel
theorem dL_tryAppend_5 : decode cL_tryAppend 5 = .ok (.ireturn, 1) := by decide +kernel
theorem dL_tryAppend_6 : decode cL_tryAppend 6 = .ok (.astore_n 2, 1) := by decide +kernel
theorem dL_tryAppend_7 : decode cL_tryAppend 7 = .ok (.sipush (-1002), 3) := by decide +kernel
theorem dL_tryAppend_10 : decode cL_tryAppend 10 = .ok (.ireturn, 1) := by decide +kernel
theorem dL_tryAppend_11 : decode cL_tryAppend 11 = .ok (.astore_n 2, 1) := by decide +kernel
theorem dL_tryAppend_12 : decode cL_tryAppend 12 = .ok (.sipush (-1003), 3) := by decide +kernel
theorem dL_tryAppend_15 : decode cL_tryAppend 15 = .ok (.ireturn, 1) := by decide +kernel
theorem dL_tryLoad_0 : decode cL_tryLoad 0 = .ok (.aload_n 0, 1) := by decide +kernel
theorem dL_tryLoad_1 : decode cL_tryLoad 1 = .ok (.invokevirtual 17, 3) := by decide +kernel
theorem dL_tryLoad_4 : decode cL_tryLoad 4 = .ok (.ireturn, 1) := by decide +kernel
theorem dL_tryLoad_5 : decode cL_tryLoad 5 = .ok (.astore_n 1, 1) := by decide +kernel
theorem dL_tryLoad_6 : decode cL_tryLoad 6 = .ok (.sipush (-1003), 3) := by decide +kernel
theorem dL_tryLoad_9 : decode cL_tryLoad 9 = .ok (.ireturn, 1) := by decide +kernel
theorem dL_tryAbout_0 : decode cL_tryAbout 0 = .ok (.aload_n 0, 1) := by decide +kernel
theorem dL_tryAbout_1 : decode cL_tryAbout 1 = .ok (.iload_n 1, 1) := by decide +kernel
theorem dL_tryAbout_2 : decode cL_tryAbout 2 = .ok (.invokevirtual 21, 3) := by decide +kernel
theorem dL_tryAbout_5 : decode cL_tryAbout 5 = .ok (.ireturn, 1) := by decide +kernel
theorem dL_tryAbout_6 : decode cL_tryAbout 6 = .ok (.astore_n 2, 1) := by decide +kernel
theorem dL_tryAbout_7 : decode cL_tryAbout 7 = .ok (.sipush (-1002), 3) := by decide +kernel
theorem dL_tryAbout_10 : decode cL_tryAbout 10 = .ok (.ireturn, 1) := by decide +kernel
theorem dL_tryCell_0 : decode cL_tryCell 0 = .ok (.aload_n 0, 1) := by decide +kernel
theorem dL_tryCell_1 : decode cL_tryCell 1 = .ok (.iload_n 1, 1) := by decide +kernel
theorem dL_tryCell_2 : decode cL_tryCell 2 = .ok (.iload_n 2, 1) := by decide +kernel
theorem dL_tryCell_3 : decode cL_tryCell 3 = .ok (.iload_n 3, 1) := by decide +kernel
theorem dL_tryCell_4 : decode cL_tryCell 4 = .ok (.invokevirtual 24, 3) := by decide +kernel
theorem dL_tryCell_7 : decode cL_tryCell 7 = .ok (.ireturn, 1) := by decide +kernel
theorem dL_tryCell_8 : decode cL_tryCell 8 = .ok (.astore 4, 2) := by decide +kernel
theorem dL_tryCell_10 : decode cL_tryCell 10 = .ok (.sipush (-1001), 3) := by decide +kernel
theorem dL_tryCell_13 : decode cL_tryCell 13 = .ok (.ireturn, 1) := by decide +kernel
theorem dL_trySet_0 : decode cL_trySet 0 = .ok (.aload_n 0, 1) := by decide +kernel
theorem dL_trySet_1 : decode cL_trySet 1 = .ok (.iload_n 1, 1) := by decide +kernel
theorem dL_trySet_2 : decode cL_trySet 2 = .ok (.iload_n 2, 1) := by decide +kernel
theorem dL_trySet_3 : decode cL_trySet 3 = .ok (.invokevirtual 30, 3) := by decide +kernel
theorem dL_trySet_6 : decode cL_trySet 6 = .ok (.ireturn, 1) := by decide +kernel
theorem dL_trySet_7 : decode cL_trySet 7 = .ok (.astore_n 3, 1) := by decide +kernel
theorem dL_trySet_8 : decode cL_trySet 8 = .ok (.sipush (-1002), 3) := by decide +kernel
theorem dL_trySet_11 : decode cL_trySet 11 = .ok (.ireturn, 1) := by decide +kernel
theorem dL_tryWrite_0 : decode cL_tryWrite 0 = .ok (.aload_n 0, 1) := by decide +kernel
theorem dL_tryWrite_1 : decode cL_tryWrite 1 = .ok (.iload_n 1, 1) := by decide +kernel
theorem dL_tryWrite_2 : decode cL_tryWrite 2 = .ok (.iload_n 2, 1) := by decide +kernel
theorem dL_tryWrite_3 : decode cL_tryWrite 3 = .ok (.iload_n 3, 1) := by decide +kernel
theorem dL_tryWrite_4 : decode cL_tryWrite 4 = .ok (.invokevirtual 34, 3) := by decide +kernel
theorem dL_tryWrite_7 : decode cL_tryWrite 7 = .ok (.ireturn, 1) := by decide +kernel
theorem dL_tryWrite_8 : decode cL_tryWrite 8 = .ok (.astore 4, 2) := by decide +kernel
theorem dL_tryWrite_10 : decode cL_tryWrite 10 = .ok (.sipush (-1001), 3) := by decide +kernel
theorem dL_tryWrite_13 : decode cL_tryWrite 13 = .ok (.ireturn, 1) := by decide +kernel
theorem dL_tryWrite_14 : decode cL_tryWrite 14 = .ok (.astore 4, 2) := by decide +kernel
theorem dL_tryWrite_16 : decode cL_tryWrite 16 = .ok (.sipush (-1002), 3) := by decide +kernel
theorem dL_tryWrite_19 : decode cL_tryWrite 19 = .ok (.ireturn, 1) := by decide +kernel
theorem dL_tryWrite_20 : decode cL_tryWrite 20 = .ok (.astore 4, 2) := by decide +kernel
theorem dL_tryWrite_22 : decode cL_tryWrite 22 = .ok (.sipush (-1003), 3) := by decide +kernel
theorem dL_tryWrite_25 : decode cL_tryWrite 25 = .ok (.ireturn, 1) := by decide +kernel
theorem dL_tryTranspose_0 : decode cL_tryTranspose 0 = .ok (.aload_n 0, 1) := by decide +kernel
theorem dL_tryTranspose_1 : decode cL_tryTranspose 1 = .ok (.iload_n 1, 1) := by decide +kernel
theorem dL_tryTranspose_2 : decode cL_tryTranspose 2 = .ok (.iload_n 2, 1) := by decide +kernel
theorem dL_tryTranspose_3 : decode cL_tryTranspose 3 = .ok (.invokevirtual 38, 3) := by decide +kernel
theorem dL_tryTranspose_6 : decode cL_tryTranspose 6 = .ok (.ireturn, 1) := by decide +kernel
theorem dL_tryTranspose_7 : decode cL_tryTranspose 7 = .ok (.astore_n 3, 1) := by decide +kernel
theorem dL_tryTranspose_8 : decode cL_tryTranspose 8 = .ok (.sipush (-1001), 3) := by decide +kernel
theorem dL_tryTranspose_11 : decode cL_tryTranspose 11 = .ok (.ireturn, 1) := by decide +kernel
theorem dL_tryTranspose_12 : decode cL_tryTranspose 12 = .ok (.astore_n 3, 1) := by decide +kernel
theorem dL_tryTranspose_13 : decode cL_tryTranspose 13 = .ok (.sipush (-1002), 3) := by decide +kernel
theorem dL_tryTranspose_16 : decode cL_tryTranspose 16 = .ok (.ireturn, 1) := by decide +kernel
theorem dL_tryTranspose_17 : decode cL_tryTranspose 17 = .ok (.astore_n 3, 1) := by decide +kernel
theorem dL_tryTranspose_18 : decode cL_tryTranspose 18 = .ok (.sipush (-1003), 3) := by decide +kernel
theorem dL_tryTranspose_21 : decode cL_tryTranspose 21 = .ok (.ireturn, 1) := by decide +kernel
theorem dL_tryExchange_0 : decode cL_tryExchange 0 = .ok (.aload_n 0, 1) := by decide +kernel
theorem dL_tryExchange_1 : decode cL_tryExchange 1 = .ok (.iload_n 1, 1) := by decide +kernel
theorem dL_tryExchange_2 : decode cL_tryExchange 2 = .ok (.iload_n 2, 1) := by decide +kernel
theorem dL_tryExchange_3 : decode cL_tryExchange 3 = .ok (.invokevirtual 41, 3) := by decide +kernel
theorem dL_tryExchange_6 : decode cL_tryExchange 6 = .ok (.ireturn, 1) := by decide +kernel
theorem dL_tryExchange_7 : decode cL_tryExchange 7 = .ok (.astore_n 3, 1) := by decide +kernel
theorem dL_tryExchange_8 : decode cL_tryExchange 8 = .ok (.sipush (-1001), 3) := by decide +kernel
theorem dL_tryExchange_11 : decode cL_tryExchange 11 = .ok (.ireturn, 1) := by decide +kernel
theorem dL_tryStaff_0 : decode cL_tryStaff 0 = .ok (.aload_n 0, 1) := by decide +kernel
theorem dL_tryStaff_1 : decode cL_tryStaff 1 = .ok (.iload_n 1, 1) := by decide +kernel
theorem dL_tryStaff_2 : decode cL_tryStaff 2 = .ok (.invokevirtual 44, 3) := by decide +kernel
theorem dL_tryStaff_5 : decode cL_tryStaff 5 = .ok (.ireturn, 1) := by decide +kernel
theorem dL_tryStaff_6 : decode cL_tryStaff 6 = .ok (.astore_n 2, 1) := by decide +kernel
theorem dL_tryStaff_7 : decode cL_tryStaff 7 = .ok (.sipush (-1003), 3) := by decide +kernel
theorem dL_tryStaff_10 : decode cL_tryStaff 10 = .ok (.ireturn, 1) := by decide +kernel
theorem dL_tryInsertBeat_0 : decode cL_tryInsertBeat 0 = .ok (.aload_n 0, 1) := by decide +kernel
theorem dL_tryInsertBeat_1 : decode cL_tryInsertBeat 1 = .ok (.iload_n 1, 1) := by decide +kernel
theorem dL_tryInsertBeat_2 : decode cL_tryInsertBeat 2 = .ok (.invokevirtual 48, 3) := by decide +kernel
theorem dL_tryInsertBeat_5 : decode cL_tryInsertBeat 5 = .ok (.ireturn, 1) := by decide +kernel
theorem dL_tryInsertBeat_6 : decode cL_tryInsertBeat 6 = .ok (.astore_n 2, 1) := by decide +kernel
theorem dL_tryInsertBeat_7 : decode cL_tryInsertBeat 7 = .ok (.sipush (-1001), 3) := by decide +kernel
theorem dL_tryInsertBeat_10 : decode cL_tryInsertBeat 10 = .ok (.ireturn, 1) := by decide +kernel
theorem dL_tryInsertBeat_11 : decode cL_tryInsertBeat 11 = .ok (.astore_n 2, 1) := by decide +kernel
theorem dL_tryInsertBeat_12 : decode cL_tryInsertBeat 12 = .ok (.sipush (-1003), 3) := by decide +kernel
theorem dL_tryInsertBeat_15 : decode cL_tryInsertBeat 15 = .ok (.ireturn, 1) := by decide +kernel
theorem dL_tryRemoveBeat_0 : decode cL_tryRemoveBeat 0 = .ok (.aload_n 0, 1) := by decide +kernel
theorem dL_tryRemoveBeat_1 : decode cL_tryRemoveBeat 1 = .ok (.iload_n 1, 1) := by decide +kernel
theorem dL_tryRemoveBeat_2 : decode cL_tryRemoveBeat 2 = .ok (.invokevirtual 51, 3) := by decide +kernel
theorem dL_tryRemoveBeat_5 : decode cL_tryRemoveBeat 5 = .ok (.ireturn, 1) := by decide +kernel
theorem dL_tryRemoveBeat_6 : decode cL_tryRemoveBeat 6 = .ok (.astore_n 2, 1) := by decide +kernel
theorem dL_tryRemoveBeat_7 : decode cL_tryRemoveBeat 7 = .ok (.sipush (-1001), 3) := by decide +kernel
theorem dL_tryRemoveBeat_10 : decode cL_tryRemoveBeat 10 = .ok (.ireturn, 1) := by decide +kernel
theorem dL_tryRemoveBeat_11 : decode cL_tryRemoveBeat 11 = .ok (.astore_n 2, 1) := by decide +kernel
theorem dL_tryRemoveBeat_12 : decode cL_tryRemoveBeat 12 = .ok (.sipush (-1003), 3) := by decide +kernel
theorem dL_tryRemoveBeat_15 : decode cL_tryRemoveBeat 15 = .ok (.ireturn, 1) := by decide +kernel
theorem dL_tryUndo_0 : decode cL_tryUndo 0 = .ok (.aload_n 0, 1) := by decide +kernel
theorem dL_tryUndo_1 : decode cL_tryUndo 1 = .ok (.invokevirtual 54, 3) := by decide +kernel
theorem dL_tryUndo_4 : decode cL_tryUndo 4 = .ok (.ireturn, 1) := by decide +kernel
theorem dL_tryUndo_5 : decode cL_tryUndo 5 = .ok (.astore_n 1, 1) := by decide +kernel
theorem dL_tryUndo_6 : decode cL_tryUndo 6 = .ok (.sipush (-1003), 3) := by decide +kernel
theorem dL_tryUndo_9 : decode cL_tryUndo 9 = .ok (.ireturn, 1) := by decide +kernel
theorem dL_tryNote_0 : decode cL_tryNote 0 = .ok (.aload_n 0, 1) := by decide +kernel
theorem dL_tryNote_1 : decode cL_tryNote 1 = .ok (.iload_n 1, 1) := by decide +kernel
theorem dL_tryNote_2 : decode cL_tryNote 2 = .ok (.iload_n 2, 1) := by decide +kernel
theorem dL_tryNote_3 : decode cL_tryNote 3 = .ok (.iload_n 3, 1) := by decide +kernel
theorem dL_tryNote_4 : decode cL_tryNote 4 = .ok (.invokevirtual 57, 3) := by decide +kernel
theorem dL_tryNote_7 : decode cL_tryNote 7 = .ok (.ireturn, 1) := by decide +kernel
theorem dL_tryNote_8 : decode cL_tryNote 8 = .ok (.astore 4, 2) := by decide +kernel
theorem dL_tryNote_10 : decode cL_tryNote 10 = .ok (.sipush (-1001), 3) := by decide +kernel
theorem dL_tryNote_13 : decode cL_tryNote 13 = .ok (.ireturn, 1) := by decide +kernel
theorem dL_tryNote_14 : decode cL_tryNote 14 = .ok (.astore 4, 2) := by decide +kernel
theorem dL_tryNote_16 : decode cL_tryNote 16 = .ok (.sipush (-1002), 3) := by decide +kernel
theorem dL_tryNote_19 : decode cL_tryNote 19 = .ok (.ireturn, 1) := by decide +kernel
theorem dL_tryHand_0 : decode cL_tryHand 0 = .ok (.aload_n 0, 1) := by decide +kernel
theorem dL_tryHand_1 : decode cL_tryHand 1 = .ok (.iload_n 1, 1) := by decide +kernel
theorem dL_tryHand_2 : decode cL_tryHand 2 = .ok (.iload_n 2, 1) := by decide +kernel
theorem dL_tryHand_3 : decode cL_tryHand 3 = .ok (.iload_n 3, 1) := by decide +kernel
theorem dL_tryHand_4 : decode cL_tryHand 4 = .ok (.invokevirtual 60, 3) := by decide +kernel
theorem dL_tryHand_7 : decode cL_tryHand 7 = .ok (.ireturn, 1) := by decide +kernel
theorem dL_tryHand_8 : decode cL_tryHand 8 = .ok (.astore 4, 2) := by decide +kernel
theorem dL_tryHand_10 : decode cL_tryHand 10 = .ok (.sipush (-1001), 3) := by decide +kernel
theorem dL_tryHand_13 : decode cL_tryHand 13 = .ok (.ireturn, 1) := by decide +kernel
theorem dL_tryHand_14 : decode cL_tryHand 14 = .ok (.astore 4, 2) := by decide +kernel
theorem dL_tryHand_16 : decode cL_tryHand 16 = .ok (.sipush (-1002), 3) := by decide +kernel
theorem dL_tryHand_19 : decode cL_tryHand 19 = .ok (.ireturn, 1) := by decide +kernel
theorem dL_tryBeat_0 : decode cL_tryBeat 0 = .ok (.aload_n 0, 1) := by decide +kernel
theorem dL_tryBeat_1 : decode cL_tryBeat 1 = .ok (.iload_n 1, 1) := by decide +kernel
theorem dL_tryBeat_2 : decode cL_tryBeat 2 = .ok (.iload_n 2, 1) := by decide +kernel
theorem dL_tryBeat_3 : decode cL_tryBeat 3 = .ok (.invokevirtual 63, 3) := by decide +kernel
theorem dL_tryBeat_6 : decode cL_tryBeat 6 = .ok (.ireturn, 1) := by decide +kernel
theorem dL_tryBeat_7 : decode cL_tryBeat 7 = .ok (.astore_n 3, 1) := by decide +kernel
theorem dL_tryBeat_8 : decode cL_tryBeat 8 = .ok (.sipush (-1001), 3) := by decide +kernel
theorem dL_tryBeat_11 : decode cL_tryBeat 11 = .ok (.ireturn, 1) := by decide +kernel
theorem dL_tryBeat_12 : decode cL_tryBeat 12 = .ok (.astore_n 3, 1) := by decide +kernel
theorem dL_tryBeat_13 : decode cL_tryBeat 13 = .ok (.sipush (-1002), 3) := by decide +kernel
theorem dL_tryBeat_16 : decode cL_tryBeat 16 = .ok (.ireturn, 1) := by decide +kernel
theorem dL_tryWhole_0 : decode cL_tryWhole 0 = .ok (.aload_n 0, 1) := by decide +kernel
theorem dL_tryWhole_1 : decode cL_tryWhole 1 = .ok (.iload_n 1, 1) := by decide +kernel
theorem dL_tryWhole_2 : decode cL_tryWhole 2 = .ok (.invokevirtual 66, 3) := by decide +kernel
theorem dL_tryWhole_5 : decode cL_tryWhole 5 = .ok (.ireturn, 1) := by decide +kernel
theorem dL_tryWhole_6 : decode cL_tryWhole 6 = .ok (.astore_n 2, 1) := by decide +kernel
theorem dL_tryWhole_7 : decode cL_tryWhole 7 = .ok (.sipush (-1002), 3) := by decide +kernel
theorem dL_tryWhole_10 : decode cL_tryWhole 10 = .ok (.ireturn, 1) := by decide +kernel
theorem dL_tryWhatIf_0 : decode cL_tryWhatIf 0 = .ok (.aload_n 0, 1) := by decide +kernel
theorem dL_tryWhatIf_1 : decode cL_tryWhatIf 1 = .ok (.iload_n 1, 1) := by decide +kernel
theorem dL_tryWhatIf_2 : decode cL_tryWhatIf 2 = .ok (.iload_n 2, 1) := by decide +kernel
theorem dL_tryWhatIf_3 : decode cL_tryWhatIf 3 = .ok (.iload_n 3, 1) := by decide +kernel
theorem dL_tryWhatIf_4 : decode cL_tryWhatIf 4 = .ok (.invokevirtual 69, 3) := by decide +kernel
theorem dL_tryWhatIf_7 : decode cL_tryWhatIf 7 = .ok (.ireturn, 1) := by decide +kernel
theorem dL_tryWhatIf_8 : decode cL_tryWhatIf 8 = .ok (.astore 4, 2) := by decide +kernel
theorem dL_tryWhatIf_10 : decode cL_tryWhatIf 10 = .ok (.sipush (-1002), 3) := by decide +kernel
theorem dL_tryWhatIf_13 : decode cL_tryWhatIf 13 = .ok (.ireturn, 1) := by decide +kernel
theorem dL_tryBestTransposition_0 : decode cL_tryBestTransposition 0 = .ok (.aload_n 0, 1) := by decide +kernel
theorem dL_tryBestTransposition_1 : decode cL_tryBestTransposition 1 = .ok (.iload_n 1, 1) := by decide +kernel
theorem dL_tryBestTransposition_2 : decode cL_tryBestTransposition 2 = .ok (.invokevirtual 72, 3) := by decide +kernel
theorem dL_tryBestTransposition_5 : decode cL_tryBestTransposition 5 = .ok (.ireturn, 1) := by decide +kernel
theorem dL_tryBestTransposition_6 : decode cL_tryBestTransposition 6 = .ok (.astore_n 2, 1) := by decide +kernel
theorem dL_tryBestTransposition_7 : decode cL_tryBestTransposition 7 = .ok (.sipush (-1001), 3) := by decide +kernel
theorem dL_tryBestTransposition_10 : decode cL_tryBestTransposition 10 = .ok (.ireturn, 1) := by decide +kernel
theorem dL_tryScript_0 : decode cL_tryScript 0 = .ok (.aload_n 0, 1) := by decide +kernel
theorem dL_tryScript_1 : decode cL_tryScript 1 = .ok (.iload_n 1, 1) := by decide +kernel
theorem dL_tryScript_2 : decode cL_tryScript 2 = .ok (.lload_n 2, 1) := by decide +kernel
theorem dL_tryScript_3 : decode cL_tryScript 3 = .ok (.invokevirtual 75, 3) := by decide +kernel
theorem dL_tryScript_6 : decode cL_tryScript 6 = .ok (.ireturn, 1) := by decide +kernel
theorem dL_tryScript_7 : decode cL_tryScript 7 = .ok (.astore 4, 2) := by decide +kernel
theorem dL_tryScript_9 : decode cL_tryScript 9 = .ok (.sipush (-1002), 3) := by decide +kernel
theorem dL_tryScript_12 : decode cL_tryScript 12 = .ok (.ireturn, 1) := by decide +kernel
theorem dL_trySimulate_0 : decode cL_trySimulate 0 = .ok (.aload_n 0, 1) := by decide +kernel
theorem dL_trySimulate_1 : decode cL_trySimulate 1 = .ok (.lload_n 1, 1) := by decide +kernel
theorem dL_trySimulate_2 : decode cL_trySimulate 2 = .ok (.iload_n 3, 1) := by decide +kernel
theorem dL_trySimulate_3 : decode cL_trySimulate 3 = .ok (.invokevirtual 79, 3) := by decide +kernel
theorem dL_trySimulate_6 : decode cL_trySimulate 6 = .ok (.ireturn, 1) := by decide +kernel
theorem dL_trySimulate_7 : decode cL_trySimulate 7 = .ok (.astore 4, 2) := by decide +kernel
theorem dL_trySimulate_9 : decode cL_trySimulate 9 = .ok (.sipush (-1002), 3) := by decide +kernel
theorem dL_trySimulate_12 : decode cL_trySimulate 12 = .ok (.ireturn, 1) := by decide +kernel
theorem dL_trySave_0 : decode cL_trySave 0 = .ok (.aload_n 0, 1) := by decide +kernel
theorem dL_trySave_1 : decode cL_trySave 1 = .ok (.iload_n 1, 1) := by decide +kernel
theorem dL_trySave_2 : decode cL_trySave 2 = .ok (.invokevirtual 83, 3) := by decide +kernel
theorem dL_trySave_5 : decode cL_trySave 5 = .ok (.ireturn, 1) := by decide +kernel
theorem dL_trySave_6 : decode cL_trySave 6 = .ok (.astore_n 2, 1) := by decide +kernel
theorem dL_trySave_7 : decode cL_trySave 7 = .ok (.sipush (-1001), 3) := by decide +kernel
theorem dL_trySave_10 : decode cL_trySave 10 = .ok (.ireturn, 1) := by decide +kernel
theorem dL_tryRestore_0 : decode cL_tryRestore 0 = .ok (.aload_n 0, 1) := by decide +kernel
theorem dL_tryRestore_1 : decode cL_tryRestore 1 = .ok (.iload_n 1, 1) := by decide +kernel
theorem dL_tryRestore_2 : decode cL_tryRestore 2 = .ok (.invokevirtual 86, 3) := by decide +kernel
theorem dL_tryRestore_5 : decode cL_tryRestore 5 = .ok (.ireturn, 1) := by decide +kernel
theorem dL_tryRestore_6 : decode cL_tryRestore 6 = .ok (.astore_n 2, 1) := by decide +kernel
theorem dL_tryRestore_7 : decode cL_tryRestore 7 = .ok (.sipush (-1001), 3) := by decide +kernel
theorem dL_tryRestore_10 : decode cL_tryRestore 10 = .ok (.ireturn, 1) := by decide +kernel
theorem dL_tryRestore_11 : decode cL_tryRestore 11 = .ok (.astore_n 2, 1) := by decide +kernel
theorem dL_tryRestore_12 : decode cL_tryRestore 12 = .ok (.sipush (-1003), 3) := by decide +kernel
theorem dL_tryRestore_15 : decode cL_tryRestore 15 = .ok (.ireturn, 1) := by decide +kernel
theorem dL_number_0 : decode cL_number 0 = .ok (.iload_n 1, 1) := by decide +kernel
theorem dL_number_1 : decode cL_number 1 = .ok (.aload_n 0, 1) := by decide +kernel
theorem dL_number_2 : decode cL_number 2 = .ok (.arraylength, 1) := by decide +kernel
theorem dL_number_3 : decode cL_number 3 = .ok (.if_icmp .ge 9, 3) := by decide +kernel
theorem dL_number_6 : decode cL_number 6 = .ok (.aload_n 0, 1) := by decide +kernel
theorem dL_number_7 : decode cL_number 7 = .ok (.iload_n 1, 1) := by decide +kernel
theorem dL_number_8 : decode cL_number 8 = .ok (.iaload, 1) := by decide +kernel
theorem dL_number_9 : decode cL_number 9 = .ok (.goto 13, 3) := by decide +kernel
theorem dL_number_12 : decode cL_number 12 = .ok (.ldc 89, 2) := by decide +kernel
theorem dL_number_14 : decode cL_number 14 = .ok (.iload_n 1, 1) := by decide +kernel
theorem dL_number_15 : decode cL_number 15 = .ok (.iconst 5, 1) := by decide +kernel
theorem dL_number_16 : decode cL_number 16 = .ok (.iadd, 1) := by decide +kernel
theorem dL_number_17 : decode cL_number 17 = .ok (.imul, 1) := by decide +kernel
theorem dL_number_18 : decode cL_number 18 = .ok (.sipush 9887, 3) := by decide +kernel
theorem dL_number_21 : decode cL_number 21 = .ok (.iadd, 1) := by decide +kernel
theorem dL_number_22 : decode cL_number 22 = .ok (.ldc 90, 2) := by decide +kernel
theorem dL_number_24 : decode cL_number 24 = .ok (.iand, 1) := by decide +kernel
theorem dL_number_25 : decode cL_number 25 = .ok (.ireturn, 1) := by decide +kernel
theorem dL_put_0 : decode cL_put 0 = .ok (.aload_n 0, 1) := by decide +kernel
theorem dL_put_1 : decode cL_put 1 = .ok (.iload_n 2, 1) := by decide +kernel
theorem dL_put_2 : decode cL_put 2 = .ok (.invokestatic 91, 3) := by decide +kernel
theorem dL_put_5 : decode cL_put 5 = .ok (.ifCond .le 15, 3) := by decide +kernel
theorem dL_put_8 : decode cL_put 8 = .ok (.aload_n 1, 1) := by decide +kernel
theorem dL_put_9 : decode cL_put 9 = .ok (.iload_n 2, 1) := by decide +kernel
theorem dL_put_10 : decode cL_put 10 = .ok (.invokestatic 91, 3) := by decide +kernel
theorem dL_put_13 : decode cL_put 13 = .ok (.ifCond .le 7, 3) := by decide +kernel
theorem dL_put_16 : decode cL_put 16 = .ok (.iconst 1, 1) := by decide +kernel
theorem dL_put_17 : decode cL_put 17 = .ok (.goto 4, 3) := by decide +kernel
theorem dL_put_20 : decode cL_put 20 = .ok (.iconst 0, 1) := by decide +kernel
theorem dL_put_21 : decode cL_put 21 = .ok (.ireturn, 1) := by decide +kernel
theorem dL_told_0 : decode cL_told 0 = .ok (.aload_n 2, 1) := by decide +kernel
theorem dL_told_1 : decode cL_told 1 = .ok (.iload_n 3, 1) := by decide +kernel
theorem dL_told_2 : decode cL_told 2 = .ok (.invokestatic 97, 3) := by decide +kernel
theorem dL_told_5 : decode cL_told 5 = .ok (.istore 4, 2) := by decide +kernel
theorem dL_told_7 : decode cL_told 7 = .ok (.iconst 1, 1) := by decide +kernel
theorem dL_told_8 : decode cL_told 8 = .ok (.iload 4, 2) := by decide +kernel
theorem dL_told_10 : decode cL_told 10 = .ok (.iconst 4, 1) := by decide +kernel
theorem dL_told_11 : decode cL_told 11 = .ok (.irem, 1) := by decide +kernel
theorem dL_told_12 : decode cL_told 12 = .ok (.iadd, 1) := by decide +kernel
theorem dL_told_13 : decode cL_told 13 = .ok (.istore 5, 2) := by decide +kernel
theorem dL_told_15 : decode cL_told 15 = .ok (.iconst 1, 1) := by decide +kernel
theorem dL_told_16 : decode cL_told 16 = .ok (.iload 4, 2) := by decide +kernel
theorem dL_told_18 : decode cL_told 18 = .ok (.iconst 4, 1) := by decide +kernel
theorem dL_told_19 : decode cL_told 19 = .ok (.idiv, 1) := by decide +kernel
theorem dL_told_20 : decode cL_told 20 = .ok (.bipush 9, 2) := by decide +kernel
theorem dL_told_22 : decode cL_told 22 = .ok (.irem, 1) := by decide +kernel
theorem dL_told_23 : decode cL_told 23 = .ok (.iadd, 1) := by decide +kernel
theorem dL_told_24 : decode cL_told 24 = .ok (.istore 6, 2) := by decide +kernel
theorem dL_told_26 : decode cL_told 26 = .ok (.aload_n 0, 1) := by decide +kernel
theorem dL_told_27 : decode cL_told 27 = .ok (.invokevirtual 101, 3) := by decide +kernel
theorem dL_told_30 : decode cL_told 30 = .ok (.aload_n 1, 1) := by decide +kernel
theorem dL_told_31 : decode cL_told 31 = .ok (.invokevirtual 101, 3) := by decide +kernel
theorem dL_told_34 : decode cL_told 34 = .ok (.if_icmp .ne 61, 3) := by decide +kernel
theorem dL_told_37 : decode cL_told 37 = .ok (.aload_n 0, 1) := by decide +kernel
theorem dL_told_38 : decode cL_told 38 = .ok (.aload_n 1, 1) := by decide +kernel
theorem dL_told_39 : decode cL_told 39 = .ok (.bipush 77, 2) := by decide +kernel
theorem dL_told_41 : decode cL_told 41 = .ok (.invokestatic 104, 3) := by decide +kernel
theorem dL_told_44 : decode cL_told 44 = .ok (.ifCond .eq 51, 3) := by decide +kernel
theorem dL_told_47 : decode cL_told 47 = .ok (.aload_n 0, 1) := by decide +kernel
theorem dL_told_48 : decode cL_told 48 = .ok (.invokevirtual 108, 3) := by decide +kernel
theorem dL_told_51 : decode cL_told 51 = .ok (.iconst 1, 1) := by decide +kernel
theorem dL_told_52 : decode cL_told 52 = .ok (.if_icmp .ne 43, 3) := by decide +kernel
theorem dL_told_55 : decode cL_told 55 = .ok (.aload_n 0, 1) := by decide +kernel
theorem dL_told_56 : decode cL_told 56 = .ok (.aload_n 1, 1) := by decide +kernel
theorem dL_told_57 : decode cL_told 57 = .ok (.bipush 48, 2) := by decide +kernel
theorem dL_told_59 : decode cL_told 59 = .ok (.iload 5, 2) := by decide +kernel
theorem dL_told_61 : decode cL_told 61 = .ok (.iadd, 1) := by decide +kernel
theorem dL_told_62 : decode cL_told 62 = .ok (.invokestatic 104, 3) := by decide +kernel
theorem dL_told_65 : decode cL_told 65 = .ok (.ifCond .eq 30, 3) := by decide +kernel
theorem dL_told_68 : decode cL_told 68 = .ok (.aload_n 0, 1) := by decide +kernel
theorem dL_told_69 : decode cL_told 69 = .ok (.aload_n 1, 1) := by decide +kernel
theorem dL_told_70 : decode cL_told 70 = .ok (.bipush 48, 2) := by decide +kernel
theorem dL_told_72 : decode cL_told 72 = .ok (.invokestatic 104, 3) := by decide +kernel
theorem dL_told_75 : decode cL_told 75 = .ok (.ifCond .eq 20, 3) := by decide +kernel
theorem dL_told_78 : decode cL_told 78 = .ok (.aload_n 0, 1) := by decide +kernel
theorem dL_told_79 : decode cL_told 79 = .ok (.aload_n 1, 1) := by decide +kernel
theorem dL_told_80 : decode cL_told 80 = .ok (.bipush 48, 2) := by decide +kernel
theorem dL_told_82 : decode cL_told 82 = .ok (.iload 6, 2) := by decide +kernel
theorem dL_told_84 : decode cL_told 84 = .ok (.iadd, 1) := by decide +kernel
theorem dL_told_85 : decode cL_told 85 = .ok (.invokestatic 104, 3) := by decide +kernel
theorem dL_told_88 : decode cL_told 88 = .ok (.ifCond .eq 7, 3) := by decide +kernel
theorem dL_told_91 : decode cL_told 91 = .ok (.iconst 1, 1) := by decide +kernel
theorem dL_told_92 : decode cL_told 92 = .ok (.goto 4, 3) := by decide +kernel
theorem dL_told_95 : decode cL_told 95 = .ok (.iconst 0, 1) := by decide +kernel
theorem dL_told_96 : decode cL_told 96 = .ok (.istore 7, 2) := by decide +kernel
theorem dL_told_98 : decode cL_told 98 = .ok (.iconst 4, 1) := by decide +kernel
theorem dL_told_99 : decode cL_told 99 = .ok (.istore 8, 2) := by decide +kernel
theorem dL_told_101 : decode cL_told 101 = .ok (.iconst 0, 1) := by decide +kernel
theorem dL_told_102 : decode cL_told 102 = .ok (.istore 9, 2) := by decide +kernel
theorem dL_told_104 : decode cL_told 104 = .ok (.iconst 0, 1) := by decide +kernel
theorem dL_told_105 : decode cL_told 105 = .ok (.istore 10, 2) := by decide +kernel
theorem dL_told_107 : decode cL_told 107 = .ok (.iload 10, 2) := by decide +kernel
theorem dL_told_109 : decode cL_told 109 = .ok (.iload 5, 2) := by decide +kernel
theorem dL_told_111 : decode cL_told 111 = .ok (.if_icmp .ge 252, 3) := by decide +kernel
theorem dL_told_114 : decode cL_told 114 = .ok (.iload 7, 2) := by decide +kernel
theorem dL_told_116 : decode cL_told 116 = .ok (.ifCond .eq 247, 3) := by decide +kernel
theorem dL_told_119 : decode cL_told 119 = .ok (.iconst 1, 1) := by decide +kernel
theorem dL_told_120 : decode cL_told 120 = .ok (.istore 11, 2) := by decide +kernel
theorem dL_told_122 : decode cL_told 122 = .ok (.iconst 0, 1) := by decide +kernel
theorem dL_told_123 : decode cL_told 123 = .ok (.istore 12, 2) := by decide +kernel
theorem dL_told_125 : decode cL_told 125 = .ok (.iload 12, 2) := by decide +kernel
theorem dL_told_127 : decode cL_told 127 = .ok (.iload 6, 2) := by decide +kernel
theorem dL_told_129 : decode cL_told 129 = .ok (.if_icmp .ge 228, 3) := by decide +kernel
theorem dL_told_132 : decode cL_told 132 = .ok (.iload 7, 2) := by decide +kernel
theorem dL_told_134 : decode cL_told 134 = .ok (.ifCond .eq 223, 3) := by decide +kernel
theorem dL_told_137 : decode cL_told 137 = .ok (.aload_n 2, 1) := by decide +kernel
theorem dL_told_138 : decode cL_told 138 = .ok (.iload_n 3, 1) := by decide +kernel
theorem dL_told_139 : decode cL_told 139 = .ok (.iconst 1, 1) := by decide +kernel
theorem dL_told_140 : decode cL_told 140 = .ok (.iadd, 1) := by decide +kernel
theorem dL_told_141 : decode cL_told 141 = .ok (.iload 10, 2) := by decide +kernel
theorem dL_told_143 : decode cL_told 143 = .ok (.iconst 4, 1) := by decide +kernel
theorem dL_told_144 : decode cL_told 144 = .ok (.iload 12, 2) := by decide +kernel
theorem dL_told_146 : decode cL_told 146 = .ok (.imul, 1) := by decide +kernel
theorem dL_told_147 : decode cL_told 147 = .ok (.iadd, 1) := by decide +kernel
theorem dL_told_148 : decode cL_told 148 = .ok (.bipush 24, 2) := by decide +kernel
theorem dL_told_150 : decode cL_told 150 = .ok (.irem, 1) := by decide +kernel
theorem dL_told_151 : decode cL_told 151 = .ok (.iadd, 1) := by decide +kernel
theorem dL_told_152 : decode cL_told 152 = .ok (.invokestatic 97, 3) := by decide +kernel
theorem dL_told_155 : decode cL_told 155 = .ok (.iconst 1, 1) := by decide +kernel
theorem dL_told_156 : decode cL_told 156 = .ok (.iload 12, 2) := by decide +kernel
theorem dL_told_158 : decode cL_told 158 = .ok (.iconst 3, 1) := by decide +kernel
theorem dL_told_159 : decode cL_told 159 = .ok (.irem, 1) := by decide +kernel
theorem dL_told_160 : decode cL_told 160 = .ok (.iadd, 1) := by decide +kernel
theorem dL_told_161 : decode cL_told 161 = .ok (.idiv, 1) := by decide +kernel
theorem dL_told_162 : decode cL_told 162 = .ok (.istore 13, 2) := by decide +kernel
theorem dL_told_164 : decode cL_told 164 = .ok (.iload 13, 2) := by decide +kernel
theorem dL_told_166 : decode cL_told 166 = .ok (.bipush 8, 2) := by decide +kernel
theorem dL_told_168 : decode cL_told 168 = .ok (.irem, 1) := by decide +kernel
theorem dL_told_169 : decode cL_told 169 = .ok (.istore 14, 2) := by decide +kernel
theorem dL_told_171 : decode cL_told 171 = .ok (.aload_n 0, 1) := by decide +kernel
theorem dL_told_172 : decode cL_told 172 = .ok (.invokevirtual 108, 3) := by decide +kernel
theorem dL_told_175 : decode cL_told 175 = .ok (.iload 8, 2) := by decide +kernel
theorem dL_told_177 : decode cL_told 177 = .ok (.if_icmp .ne 7, 3) := by decide +kernel
theorem dL_told_180 : decode cL_told 180 = .ok (.iconst 1, 1) := by decide +kernel
theorem dL_told_181 : decode cL_told 181 = .ok (.goto 4, 3) := by decide +kernel
theorem dL_told_184 : decode cL_told 184 = .ok (.iconst 0, 1) := by decide +kernel
theorem dL_told_185 : decode cL_told 185 = .ok (.istore 7, 2) := by decide +kernel
theorem dL_told_187 : decode cL_told 187 = .ok (.iload 14, 2) := by decide +kernel
theorem dL_told_189 : decode cL_told 189 = .ok (.ifCond .ne 34, 3) := by decide +kernel
theorem dL_told_192 : decode cL_told 192 = .ok (.iload 7, 2) := by decide +kernel
theorem dL_told_194 : decode cL_told 194 = .ok (.ifCond .eq 17, 3) := by decide +kernel
theorem dL_told_197 : decode cL_told 197 = .ok (.aload_n 0, 1) := by decide +kernel
theorem dL_told_198 : decode cL_told 198 = .ok (.aload_n 1, 1) := by decide +kernel
theorem dL_told_199 : decode cL_told 199 = .ok (.bipush 45, 2) := by decide +kernel
theorem dL_told_201 : decode cL_told 201 = .ok (.invokestatic 104, 3) := by decide +kernel
theorem dL_told_204 : decode cL_told 204 = .ok (.ifCond .eq 7, 3) := by decide +kernel
theorem dL_told_207 : decode cL_told 207 = .ok (.iconst 1, 1) := by decide +kernel
theorem dL_told_208 : decode cL_told 208 = .ok (.goto 4, 3) := by decide +kernel
theorem dL_told_211 : decode cL_told 211 = .ok (.iconst 0, 1) := by decide +kernel
theorem dL_told_212 : decode cL_told 212 = .ok (.istore 7, 2) := by decide +kernel
theorem dL_told_214 : decode cL_told 214 = .ok (.iconst 1, 1) := by decide +kernel
theorem dL_told_215 : decode cL_told 215 = .ok (.istore 11, 2) := by decide +kernel
theorem dL_told_217 : decode cL_told 217 = .ok (.iinc 8 1, 3) := by decide +kernel
theorem dL_told_220 : decode cL_told 220 = .ok (.goto 131, 3) := by decide +kernel
theorem dL_told_223 : decode cL_told 223 = .ok (.iload 14, 2) := by decide +kernel
theorem dL_told_225 : decode cL_told 225 = .ok (.iconst 4, 1) := by decide +kernel
theorem dL_told_226 : decode cL_told 226 = .ok (.if_icmp .ge 36, 3) := by decide +kernel
theorem dL_told_229 : decode cL_told 229 = .ok (.iload 11, 2) := by decide +kernel
theorem dL_told_231 : decode cL_told 231 = .ok (.ifCond .ne 31, 3) := by decide +kernel
theorem dL_told_234 : decode cL_told 234 = .ok (.iload 7, 2) := by decide +kernel
theorem dL_told_236 : decode cL_told 236 = .ok (.ifCond .eq 17, 3) := by decide +kernel
theorem dL_told_239 : decode cL_told 239 = .ok (.aload_n 0, 1) := by decide +kernel
theorem dL_told_240 : decode cL_told 240 = .ok (.aload_n 1, 1) := by decide +kernel
theorem dL_told_241 : decode cL_told 241 = .ok (.bipush 61, 2) := by decide +kernel
theorem dL_told_243 : decode cL_told 243 = .ok (.invokestatic 104, 3) := by decide +kernel
theorem dL_told_246 : decode cL_told 246 = .ok (.ifCond .eq 7, 3) := by decide +kernel
theorem dL_told_249 : decode cL_told 249 = .ok (.iconst 1, 1) := by decide +kernel
theorem dL_told_250 : decode cL_told 250 = .ok (.goto 4, 3) := by decide +kernel
theorem dL_told_253 : decode cL_told 253 = .ok (.iconst 0, 1) := by decide +kernel
theorem dL_told_254 : decode cL_told 254 = .ok (.istore 7, 2) := by decide +kernel
theorem dL_told_256 : decode cL_told 256 = .ok (.iinc 8 1, 3) := by decide +kernel
theorem dL_told_259 : decode cL_told 259 = .ok (.goto 92, 3) := by decide +kernel
theorem dL_told_262 : decode cL_told 262 = .ok (.iload 13, 2) := by decide +kernel
theorem dL_told_264 : decode cL_told 264 = .ok (.bipush 16, 2) := by decide +kernel
theorem dL_told_266 : decode cL_told 266 = .ok (.idiv, 1) := by decide +kernel
theorem dL_told_267 : decode cL_told 267 = .ok (.iload 13, 2) := by decide +kernel
theorem dL_told_269 : decode cL_told 269 = .ok (.bipush 8, 2) := by decide +kernel
theorem dL_told_271 : decode cL_told 271 = .ok (.idiv, 1) := by decide +kernel
theorem dL_told_272 : decode cL_told 272 = .ok (.iconst 2, 1) := by decide +kernel
theorem dL_told_273 : decode cL_told 273 = .ok (.irem, 1) := by decide +kernel
theorem dL_told_274 : decode cL_told 274 = .ok (.ifCond .ne 8, 3) := by decide +kernel
theorem dL_told_277 : decode cL_told 277 = .ok (.bipush 61, 2) := by decide +kernel
theorem dL_told_279 : decode cL_told 279 = .ok (.goto 5, 3) := by decide +kernel
theorem dL_told_282 : decode cL_told 282 = .ok (.bipush 25, 2) := by decide +kernel
theorem dL_told_284 : decode cL_told 284 = .ok (.irem, 1) := by decide +kernel
theorem dL_told_285 : decode cL_told 285 = .ok (.istore 15, 2) := by decide +kernel
theorem dL_told_287 : decode cL_told 287 = .ok (.iload 7, 2) := by decide +kernel
theorem dL_told_289 : decode cL_told 289 = .ok (.ifCond .eq 50, 3) := by decide +kernel
theorem dL_told_292 : decode cL_told 292 = .ok (.aload_n 0, 1) := by decide +kernel
theorem dL_told_293 : decode cL_told 293 = .ok (.aload_n 1, 1) := by decide +kernel
theorem dL_told_294 : decode cL_told 294 = .ok (.bipush 48, 2) := by decide +kernel
theorem dL_told_296 : decode cL_told 296 = .ok (.iload 15, 2) := by decide +kernel
theorem dL_told_298 : decode cL_told 298 = .ok (.bipush 10, 2) := by decide +kernel
theorem dL_told_300 : decode cL_told 300 = .ok (.idiv, 1) := by decide +kernel
theorem dL_told_301 : decode cL_told 301 = .ok (.iadd, 1) := by decide +kernel
theorem dL_told_302 : decode cL_told 302 = .ok (.invokestatic 104, 3) := by decide +kernel
theorem dL_told_305 : decode cL_told 305 = .ok (.ifCond .eq 34, 3) := by decide +kernel
theorem dL_told_308 : decode cL_told 308 = .ok (.aload_n 0, 1) := by decide +kernel
theorem dL_told_309 : decode cL_told 309 = .ok (.invokevirtual 108, 3) := by decide +kernel
theorem dL_told_312 : decode cL_told 312 = .ok (.iload 8, 2) := by decide +kernel
theorem dL_told_314 : decode cL_told 314 = .ok (.iconst 1, 1) := by decide +kernel
theorem dL_told_315 : decode cL_told 315 = .ok (.iadd, 1) := by decide +kernel
theorem dL_told_316 : decode cL_told 316 = .ok (.if_icmp .ne 23, 3) := by decide +kernel
theorem dL_told_319 : decode cL_told 319 = .ok (.aload_n 0, 1) := by decide +kernel
theorem dL_told_320 : decode cL_told 320 = .ok (.aload_n 1, 1) := by decide +kernel
theorem dL_told_321 : decode cL_told 321 = .ok (.bipush 48, 2) := by decide +kernel
theorem dL_told_323 : decode cL_told 323 = .ok (.iload 15, 2) := by decide +kernel
theorem dL_told_325 : decode cL_told 325 = .ok (.bipush 10, 2) := by decide +kernel
theorem dL_told_327 : decode cL_told 327 = .ok (.irem, 1) := by decide +kernel
theorem dL_told_328 : decode cL_told 328 = .ok (.iadd, 1) := by decide +kernel
theorem dL_told_329 : decode cL_told 329 = .ok (.invokestatic 104, 3) := by decide +kernel
theorem dL_told_332 : decode cL_told 332 = .ok (.ifCond .eq 7, 3) := by decide +kernel
theorem dL_told_335 : decode cL_told 335 = .ok (.iconst 1, 1) := by decide +kernel
theorem dL_told_336 : decode cL_told 336 = .ok (.goto 4, 3) := by decide +kernel
theorem dL_told_339 : decode cL_told 339 = .ok (.iconst 0, 1) := by decide +kernel
theorem dL_told_340 : decode cL_told 340 = .ok (.istore 7, 2) := by decide +kernel
theorem dL_told_342 : decode cL_told 342 = .ok (.iconst 0, 1) := by decide +kernel
theorem dL_told_343 : decode cL_told 343 = .ok (.istore 11, 2) := by decide +kernel
theorem dL_told_345 : decode cL_told 345 = .ok (.iinc 9 1, 3) := by decide +kernel
theorem dL_told_348 : decode cL_told 348 = .ok (.iinc 8 2, 3) := by decide +kernel
theorem dL_told_351 : decode cL_told 351 = .ok (.iinc 12 1, 3) := by decide +kernel
theorem dL_told_354 : decode cL_told 354 = .ok (.goto (-229), 3) := by decide +kernel
theorem dL_told_357 : decode cL_told 357 = .ok (.iinc 10 1, 3) := by decide +kernel
theorem dL_told_360 : decode cL_told 360 = .ok (.goto (-253), 3) := by decide +kernel
theorem dL_told_363 : decode cL_told 363 = .ok (.iload 7, 2) := by decide +kernel
theorem dL_told_365 : decode cL_told 365 = .ok (.ifCond .eq 127, 3) := by decide +kernel
theorem dL_told_368 : decode cL_told 368 = .ok (.aload_n 0, 1) := by decide +kernel
theorem dL_told_369 : decode cL_told 369 = .ok (.invokevirtual 108, 3) := by decide +kernel
theorem dL_told_372 : decode cL_told 372 = .ok (.bipush (-9), 2) := by decide +kernel
theorem dL_told_374 : decode cL_told 374 = .ok (.if_icmp .ne 118, 3) := by decide +kernel
theorem dL_told_377 : decode cL_told 377 = .ok (.aload_n 0, 1) := by decide +kernel
theorem dL_told_378 : decode cL_told 378 = .ok (.invokestatic 111, 3) := by decide +kernel
theorem dL_told_381 : decode cL_told 381 = .ok (.iload 6, 2) := by decide +kernel
theorem dL_told_383 : decode cL_told 383 = .ok (.if_icmp .ne 109, 3) := by decide +kernel
theorem dL_told_386 : decode cL_told 386 = .ok (.aload_n 1, 1) := by decide +kernel
theorem dL_told_387 : decode cL_told 387 = .ok (.invokestatic 111, 3) := by decide +kernel
theorem dL_told_390 : decode cL_told 390 = .ok (.iload 6, 2) := by decide +kernel
theorem dL_told_392 : decode cL_told 392 = .ok (.if_icmp .ne 100, 3) := by decide +kernel
theorem dL_told_395 : decode cL_told 395 = .ok (.aload_n 0, 1) := by decide +kernel
theorem dL_told_396 : decode cL_told 396 = .ok (.bipush 6, 2) := by decide +kernel
theorem dL_told_398 : decode cL_told 398 = .ok (.invokestatic 115, 3) := by decide +kernel
theorem dL_told_401 : decode cL_told 401 = .ok (.iload 5, 2) := by decide +kernel
theorem dL_told_403 : decode cL_told 403 = .ok (.if_icmp .ne 89, 3) := by decide +kernel
theorem dL_told_406 : decode cL_told 406 = .ok (.aload_n 0, 1) := by decide +kernel
theorem dL_told_407 : decode cL_told 407 = .ok (.bipush 7, 2) := by decide +kernel
theorem dL_told_409 : decode cL_told 409 = .ok (.invokestatic 115, 3) := by decide +kernel
theorem dL_told_412 : decode cL_told 412 = .ok (.iload 6, 2) := by decide +kernel
theorem dL_told_414 : decode cL_told 414 = .ok (.if_icmp .ne 78, 3) := by decide +kernel
theorem dL_told_417 : decode cL_told 417 = .ok (.aload_n 0, 1) := by decide +kernel
theorem dL_told_418 : decode cL_told 418 = .ok (.bipush 8, 2) := by decide +kernel
theorem dL_told_420 : decode cL_told 420 = .ok (.invokestatic 115, 3) := by decide +kernel
theorem dL_told_423 : decode cL_told 423 = .ok (.iload 9, 2) := by decide +kernel
theorem dL_told_425 : decode cL_told 425 = .ok (.if_icmp .ne 67, 3) := by decide +kernel
theorem dL_told_428 : decode cL_told 428 = .ok (.aload_n 0, 1) := by decide +kernel
theorem dL_told_429 : decode cL_told 429 = .ok (.iconst 0, 1) := by decide +kernel
theorem dL_told_430 : decode cL_told 430 = .ok (.invokestatic 115, 3) := by decide +kernel
theorem dL_told_433 : decode cL_told 433 = .ok (.bipush 12, 2) := by decide +kernel
theorem dL_told_435 : decode cL_told 435 = .ok (.if_icmp .ne 57, 3) := by decide +kernel
theorem dL_told_438 : decode cL_told 438 = .ok (.aload_n 0, 1) := by decide +kernel
theorem dL_told_439 : decode cL_told 439 = .ok (.invokestatic 118, 3) := by decide +kernel
theorem dL_told_442 : decode cL_told 442 = .ok (.sipush (-1003), 3) := by decide +kernel
theorem dL_told_445 : decode cL_told 445 = .ok (.if_icmp .ne 47, 3) := by decide +kernel
theorem dL_told_448 : decode cL_told 448 = .ok (.aload_n 1, 1) := by decide +kernel
theorem dL_told_449 : decode cL_told 449 = .ok (.iconst 1, 1) := by decide +kernel
theorem dL_told_450 : decode cL_told 450 = .ok (.invokestatic 121, 3) := by decide +kernel
theorem dL_told_453 : decode cL_told 453 = .ok (.sipush (-1003), 3) := by decide +kernel
theorem dL_told_456 : decode cL_told 456 = .ok (.if_icmp .ne 36, 3) := by decide +kernel
theorem dL_told_459 : decode cL_told 459 = .ok (.aload_n 0, 1) := by decide +kernel
theorem dL_told_460 : decode cL_told 460 = .ok (.aload_n 1, 1) := by decide +kernel
theorem dL_told_461 : decode cL_told 461 = .ok (.bipush 45, 2) := by decide +kernel
theorem dL_told_463 : decode cL_told 463 = .ok (.invokestatic 104, 3) := by decide +kernel
theorem dL_told_466 : decode cL_told 466 = .ok (.ifCond .eq 26, 3) := by decide +kernel
theorem dL_told_469 : decode cL_told 469 = .ok (.aload_n 0, 1) := by decide +kernel
theorem dL_told_470 : decode cL_told 470 = .ok (.invokevirtual 108, 3) := by decide +kernel
theorem dL_told_473 : decode cL_told 473 = .ok (.iload 8, 2) := by decide +kernel
theorem dL_told_475 : decode cL_told 475 = .ok (.if_icmp .ne 17, 3) := by decide +kernel
theorem dL_told_478 : decode cL_told 478 = .ok (.aload_n 0, 1) := by decide +kernel
theorem dL_told_479 : decode cL_told 479 = .ok (.invokestatic 111, 3) := by decide +kernel
theorem dL_told_482 : decode cL_told 482 = .ok (.sipush (-1003), 3) := by decide +kernel
theorem dL_told_485 : decode cL_told 485 = .ok (.if_icmp .ne 7, 3) := by decide +kernel
theorem dL_told_488 : decode cL_told 488 = .ok (.iconst 1, 1) := by decide +kernel
theorem dL_told_489 : decode cL_told 489 = .ok (.goto 4, 3) := by decide +kernel
theorem dL_told_492 : decode cL_told 492 = .ok (.iconst 0, 1) := by decide +kernel
theorem dL_told_493 : decode cL_told 493 = .ok (.ireturn, 1) := by decide +kernel
theorem dL_alike_0 : decode cL_alike 0 = .ok (.iconst 1, 1) := by decide +kernel
theorem dL_alike_1 : decode cL_alike 1 = .ok (.istore_n 2, 1) := by decide +kernel
theorem dL_alike_2 : decode cL_alike 2 = .ok (.iconst 0, 1) := by decide +kernel
theorem dL_alike_3 : decode cL_alike 3 = .ok (.istore_n 3, 1) := by decide +kernel
theorem dL_alike_4 : decode cL_alike 4 = .ok (.iload_n 3, 1) := by decide +kernel
theorem dL_alike_5 : decode cL_alike 5 = .ok (.bipush 10, 2) := by decide +kernel
theorem dL_alike_7 : decode cL_alike 7 = .ok (.if_icmp .ge 51, 3) := by decide +kernel
theorem dL_alike_10 : decode cL_alike 10 = .ok (.iload_n 2, 1) := by decide +kernel
theorem dL_alike_11 : decode cL_alike 11 = .ok (.ifCond .eq 39, 3) := by decide +kernel
theorem dL_alike_14 : decode cL_alike 14 = .ok (.aload_n 0, 1) := by decide +kernel
theorem dL_alike_15 : decode cL_alike 15 = .ok (.iload_n 3, 1) := by decide +kernel
theorem dL_alike_16 : decode cL_alike 16 = .ok (.invokestatic 115, 3) := by decide +kernel
theorem dL_alike_19 : decode cL_alike 19 = .ok (.aload_n 1, 1) := by decide +kernel
theorem dL_alike_20 : decode cL_alike 20 = .ok (.iload_n 3, 1) := by decide +kernel
theorem dL_alike_21 : decode cL_alike 21 = .ok (.invokestatic 115, 3) := by decide +kernel
theorem dL_alike_24 : decode cL_alike 24 = .ok (.if_icmp .ne 26, 3) := by decide +kernel
theorem dL_alike_27 : decode cL_alike 27 = .ok (.iload_n 3, 1) := by decide +kernel
theorem dL_alike_28 : decode cL_alike 28 = .ok (.bipush 7, 2) := by decide +kernel
theorem dL_alike_30 : decode cL_alike 30 = .ok (.if_icmp .gt 16, 3) := by decide +kernel
theorem dL_alike_33 : decode cL_alike 33 = .ok (.aload_n 0, 1) := by decide +kernel
theorem dL_alike_34 : decode cL_alike 34 = .ok (.iload_n 3, 1) := by decide +kernel
theorem dL_alike_35 : decode cL_alike 35 = .ok (.invokestatic 124, 3) := by decide +kernel
theorem dL_alike_38 : decode cL_alike 38 = .ok (.aload_n 1, 1) := by decide +kernel
theorem dL_alike_39 : decode cL_alike 39 = .ok (.iload_n 3, 1) := by decide +kernel
theorem dL_alike_40 : decode cL_alike 40 = .ok (.invokestatic 124, 3) := by decide +kernel
theorem dL_alike_43 : decode cL_alike 43 = .ok (.if_icmp .ne 7, 3) := by decide +kernel
theorem dL_alike_46 : decode cL_alike 46 = .ok (.iconst 1, 1) := by decide +kernel
theorem dL_alike_47 : decode cL_alike 47 = .ok (.goto 4, 3) := by decide +kernel
theorem dL_alike_50 : decode cL_alike 50 = .ok (.iconst 0, 1) := by decide +kernel
theorem dL_alike_51 : decode cL_alike 51 = .ok (.istore_n 2, 1) := by decide +kernel
theorem dL_alike_52 : decode cL_alike 52 = .ok (.iinc 3 1, 3) := by decide +kernel
theorem dL_alike_55 : decode cL_alike 55 = .ok (.goto (-51), 3) := by decide +kernel
theorem dL_alike_58 : decode cL_alike 58 = .ok (.iconst 0, 1) := by decide +kernel
theorem dL_alike_59 : decode cL_alike 59 = .ok (.istore_n 3, 1) := by decide +kernel
theorem dL_alike_60 : decode cL_alike 60 = .ok (.iload_n 3, 1) := by decide +kernel
theorem dL_alike_61 : decode cL_alike 61 = .ok (.aload_n 0, 1) := by decide +kernel
theorem dL_alike_62 : decode cL_alike 62 = .ok (.bipush 6, 2) := by decide +kernel
theorem dL_alike_64 : decode cL_alike 64 = .ok (.invokestatic 115, 3) := by decide +kernel
theorem dL_alike_67 : decode cL_alike 67 = .ok (.if_icmp .ge 81, 3) := by decide +kernel
theorem dL_alike_70 : decode cL_alike 70 = .ok (.iload_n 2, 1) := by decide +kernel
theorem dL_alike_71 : decode cL_alike 71 = .ok (.ifCond .eq 77, 3) := by decide +kernel
theorem dL_alike_74 : decode cL_alike 74 = .ok (.iconst 0, 1) := by decide +kernel
theorem dL_alike_75 : decode cL_alike 75 = .ok (.istore 4, 2) := by decide +kernel
theorem dL_alike_77 : decode cL_alike 77 = .ok (.iload 4, 2) := by decide +kernel
theorem dL_alike_79 : decode cL_alike 79 = .ok (.aload_n 0, 1) := by decide +kernel
theorem dL_alike_80 : decode cL_alike 80 = .ok (.bipush 7, 2) := by decide +kernel
theorem dL_alike_82 : decode cL_alike 82 = .ok (.invokestatic 115, 3) := by decide +kernel
theorem dL_alike_85 : decode cL_alike 85 = .ok (.if_icmp .ge 57, 3) := by decide +kernel
theorem dL_alike_88 : decode cL_alike 88 = .ok (.iload_n 2, 1) := by decide +kernel
theorem dL_alike_89 : decode cL_alike 89 = .ok (.ifCond .eq 45, 3) := by decide +kernel
theorem dL_alike_92 : decode cL_alike 92 = .ok (.aload_n 0, 1) := by decide +kernel
theorem dL_alike_93 : decode cL_alike 93 = .ok (.iload_n 3, 1) := by decide +kernel
theorem dL_alike_94 : decode cL_alike 94 = .ok (.iload 4, 2) := by decide +kernel
theorem dL_alike_96 : decode cL_alike 96 = .ok (.iconst 0, 1) := by decide +kernel
theorem dL_alike_97 : decode cL_alike 97 = .ok (.invokestatic 127, 3) := by decide +kernel
theorem dL_alike_100 : decode cL_alike 100 = .ok (.aload_n 1, 1) := by decide +kernel
theorem dL_alike_101 : decode cL_alike 101 = .ok (.iload_n 3, 1) := by decide +kernel
theorem dL_alike_102 : decode cL_alike 102 = .ok (.iload 4, 2) := by decide +kernel
theorem dL_alike_104 : decode cL_alike 104 = .ok (.iconst 0, 1) := by decide +kernel
theorem dL_alike_105 : decode cL_alike 105 = .ok (.invokestatic 127, 3) := by decide +kernel
theorem dL_alike_108 : decode cL_alike 108 = .ok (.if_icmp .ne 26, 3) := by decide +kernel
theorem dL_alike_111 : decode cL_alike 111 = .ok (.aload_n 0, 1) := by decide +kernel
theorem dL_alike_112 : decode cL_alike 112 = .ok (.iload_n 3, 1) := by decide +kernel
theorem dL_alike_113 : decode cL_alike 113 = .ok (.iload 4, 2) := by decide +kernel
theorem dL_alike_115 : decode cL_alike 115 = .ok (.iconst 1, 1) := by decide +kernel
theorem dL_alike_116 : decode cL_alike 116 = .ok (.invokestatic 127, 3) := by decide +kernel
theorem dL_alike_119 : decode cL_alike 119 = .ok (.aload_n 1, 1) := by decide +kernel
theorem dL_alike_120 : decode cL_alike 120 = .ok (.iload_n 3, 1) := by decide +kernel
theorem dL_alike_121 : decode cL_alike 121 = .ok (.iload 4, 2) := by decide +kernel
theorem dL_alike_123 : decode cL_alike 123 = .ok (.iconst 1, 1) := by decide +kernel
theorem dL_alike_124 : decode cL_alike 124 = .ok (.invokestatic 127, 3) := by decide +kernel
theorem dL_alike_127 : decode cL_alike 127 = .ok (.if_icmp .ne 7, 3) := by decide +kernel
theorem dL_alike_130 : decode cL_alike 130 = .ok (.iconst 1, 1) := by decide +kernel
theorem dL_alike_131 : decode cL_alike 131 = .ok (.goto 4, 3) := by decide +kernel
theorem dL_alike_134 : decode cL_alike 134 = .ok (.iconst 0, 1) := by decide +kernel
theorem dL_alike_135 : decode cL_alike 135 = .ok (.istore_n 2, 1) := by decide +kernel
theorem dL_alike_136 : decode cL_alike 136 = .ok (.iinc 4 1, 3) := by decide +kernel
theorem dL_alike_139 : decode cL_alike 139 = .ok (.goto (-62), 3) := by decide +kernel
theorem dL_alike_142 : decode cL_alike 142 = .ok (.iinc 3 1, 3) := by decide +kernel
theorem dL_alike_145 : decode cL_alike 145 = .ok (.goto (-85), 3) := by decide +kernel
theorem dL_alike_148 : decode cL_alike 148 = .ok (.iload_n 2, 1) := by decide +kernel
theorem dL_alike_149 : decode cL_alike 149 = .ok (.ireturn, 1) := by decide +kernel
theorem dL_refuses_0 : decode cL_refuses 0 = .ok (.aload_n 0, 1) := by decide +kernel
theorem dL_refuses_1 : decode cL_refuses 1 = .ok (.bipush 6, 2) := by decide +kernel
theorem dL_refuses_3 : decode cL_refuses 3 = .ok (.invokestatic 115, 3) := by decide +kernel
theorem dL_refuses_6 : decode cL_refuses 6 = .ok (.istore_n 1, 1) := by decide +kernel
theorem dL_refuses_7 : decode cL_refuses 7 = .ok (.aload_n 0, 1) := by decide +kernel
theorem dL_refuses_8 : decode cL_refuses 8 = .ok (.bipush 7, 2) := by decide +kernel
theorem dL_refuses_10 : decode cL_refuses 10 = .ok (.invokestatic 115, 3) := by decide +kernel
theorem dL_refuses_13 : decode cL_refuses 13 = .ok (.istore_n 2, 1) := by decide +kernel
theorem dL_refuses_14 : decode cL_refuses 14 = .ok (.aload_n 0, 1) := by decide +kernel
theorem dL_refuses_15 : decode cL_refuses 15 = .ok (.bipush 10, 2) := by decide +kernel
theorem dL_refuses_17 : decode cL_refuses 17 = .ok (.invokestatic 115, 3) := by decide +kernel
theorem dL_refuses_20 : decode cL_refuses 20 = .ok (.sipush (-1002), 3) := by decide +kernel
theorem dL_refuses_23 : decode cL_refuses 23 = .ok (.if_icmp .ne 260, 3) := by decide +kernel
theorem dL_refuses_26 : decode cL_refuses 26 = .ok (.aload_n 0, 1) := by decide +kernel
theorem dL_refuses_27 : decode cL_refuses 27 = .ok (.iload_n 1, 1) := by decide +kernel
theorem dL_refuses_28 : decode cL_refuses 28 = .ok (.iconst 0, 1) := by decide +kernel
theorem dL_refuses_29 : decode cL_refuses 29 = .ok (.iconst 1, 1) := by decide +kernel
theorem dL_refuses_30 : decode cL_refuses 30 = .ok (.invokestatic 127, 3) := by decide +kernel
theorem dL_refuses_33 : decode cL_refuses 33 = .ok (.sipush (-1001), 3) := by decide +kernel
theorem dL_refuses_36 : decode cL_refuses 36 = .ok (.if_icmp .ne 247, 3) := by decide +kernel
theorem dL_refuses_39 : decode cL_refuses 39 = .ok (.aload_n 0, 1) := by decide +kernel
theorem dL_refuses_40 : decode cL_refuses 40 = .ok (.iconst 0, 1) := by decide +kernel
theorem dL_refuses_41 : decode cL_refuses 41 = .ok (.iload_n 2, 1) := by decide +kernel
theorem dL_refuses_42 : decode cL_refuses 42 = .ok (.iconst 0, 1) := by decide +kernel
theorem dL_refuses_43 : decode cL_refuses 43 = .ok (.invokestatic 127, 3) := by decide +kernel
theorem dL_refuses_46 : decode cL_refuses 46 = .ok (.sipush (-1001), 3) := by decide +kernel
theorem dL_refuses_49 : decode cL_refuses 49 = .ok (.if_icmp .ne 234, 3) := by decide +kernel
theorem dL_refuses_52 : decode cL_refuses 52 = .ok (.aload_n 0, 1) := by decide +kernel
theorem dL_refuses_53 : decode cL_refuses 53 = .ok (.bipush 6, 2) := by decide +kernel
theorem dL_refuses_55 : decode cL_refuses 55 = .ok (.iconst 0, 1) := by decide +kernel
theorem dL_refuses_56 : decode cL_refuses 56 = .ok (.invokestatic 131, 3) := by decide +kernel
theorem dL_refuses_59 : decode cL_refuses 59 = .ok (.sipush (-1002), 3) := by decide +kernel
theorem dL_refuses_62 : decode cL_refuses 62 = .ok (.if_icmp .ne 221, 3) := by decide +kernel
theorem dL_refuses_65 : decode cL_refuses 65 = .ok (.aload_n 0, 1) := by decide +kernel
theorem dL_refuses_66 : decode cL_refuses 66 = .ok (.iconst 0, 1) := by decide +kernel
theorem dL_refuses_67 : decode cL_refuses 67 = .ok (.bipush 25, 2) := by decide +kernel
theorem dL_refuses_69 : decode cL_refuses 69 = .ok (.invokestatic 131, 3) := by decide +kernel
theorem dL_refuses_72 : decode cL_refuses 72 = .ok (.sipush (-1002), 3) := by decide +kernel
theorem dL_refuses_75 : decode cL_refuses 75 = .ok (.if_icmp .ne 208, 3) := by decide +kernel
theorem dL_refuses_78 : decode cL_refuses 78 = .ok (.aload_n 0, 1) := by decide +kernel
theorem dL_refuses_79 : decode cL_refuses 79 = .ok (.iconst 1, 1) := by decide +kernel
theorem dL_refuses_80 : decode cL_refuses 80 = .ok (.iconst 0, 1) := by decide +kernel
theorem dL_refuses_81 : decode cL_refuses 81 = .ok (.invokestatic 131, 3) := by decide +kernel
theorem dL_refuses_84 : decode cL_refuses 84 = .ok (.sipush (-1002), 3) := by decide +kernel
theorem dL_refuses_87 : decode cL_refuses 87 = .ok (.if_icmp .ne 196, 3) := by decide +kernel
theorem dL_refuses_90 : decode cL_refuses 90 = .ok (.aload_n 0, 1) := by decide +kernel
theorem dL_refuses_91 : decode cL_refuses 91 = .ok (.iconst 2, 1) := by decide +kernel
theorem dL_refuses_92 : decode cL_refuses 92 = .ok (.bipush 6, 2) := by decide +kernel
theorem dL_refuses_94 : decode cL_refuses 94 = .ok (.invokestatic 131, 3) := by decide +kernel
theorem dL_refuses_97 : decode cL_refuses 97 = .ok (.sipush (-1002), 3) := by decide +kernel
theorem dL_refuses_100 : decode cL_refuses 100 = .ok (.if_icmp .ne 183, 3) := by decide +kernel
theorem dL_refuses_103 : decode cL_refuses 103 = .ok (.aload_n 0, 1) := by decide +kernel
theorem dL_refuses_104 : decode cL_refuses 104 = .ok (.iconst 3, 1) := by decide +kernel
theorem dL_refuses_105 : decode cL_refuses 105 = .ok (.bipush 10, 2) := by decide +kernel
theorem dL_refuses_107 : decode cL_refuses 107 = .ok (.invokestatic 131, 3) := by decide +kernel
theorem dL_refuses_110 : decode cL_refuses 110 = .ok (.sipush (-1002), 3) := by decide +kernel
theorem dL_refuses_113 : decode cL_refuses 113 = .ok (.if_icmp .ne 170, 3) := by decide +kernel
theorem dL_refuses_116 : decode cL_refuses 116 = .ok (.aload_n 0, 1) := by decide +kernel
theorem dL_refuses_117 : decode cL_refuses 117 = .ok (.iconst 4, 1) := by decide +kernel
theorem dL_refuses_118 : decode cL_refuses 118 = .ok (.iconst 2, 1) := by decide +kernel
theorem dL_refuses_119 : decode cL_refuses 119 = .ok (.invokestatic 131, 3) := by decide +kernel
theorem dL_refuses_122 : decode cL_refuses 122 = .ok (.sipush (-1002), 3) := by decide +kernel
theorem dL_refuses_125 : decode cL_refuses 125 = .ok (.if_icmp .ne 158, 3) := by decide +kernel
theorem dL_refuses_128 : decode cL_refuses 128 = .ok (.aload_n 0, 1) := by decide +kernel
theorem dL_refuses_129 : decode cL_refuses 129 = .ok (.iconst 5, 1) := by decide +kernel
theorem dL_refuses_130 : decode cL_refuses 130 = .ok (.iconst (-1), 1) := by decide +kernel
theorem dL_refuses_131 : decode cL_refuses 131 = .ok (.invokestatic 131, 3) := by decide +kernel
theorem dL_refuses_134 : decode cL_refuses 134 = .ok (.sipush (-1002), 3) := by decide +kernel
theorem dL_refuses_137 : decode cL_refuses 137 = .ok (.if_icmp .ne 146, 3) := by decide +kernel
theorem dL_refuses_140 : decode cL_refuses 140 = .ok (.aload_n 0, 1) := by decide +kernel
theorem dL_refuses_141 : decode cL_refuses 141 = .ok (.iload_n 1, 1) := by decide +kernel
theorem dL_refuses_142 : decode cL_refuses 142 = .ok (.iconst 0, 1) := by decide +kernel
theorem dL_refuses_143 : decode cL_refuses 143 = .ok (.bipush 61, 2) := by decide +kernel
theorem dL_refuses_145 : decode cL_refuses 145 = .ok (.invokestatic 135, 3) := by decide +kernel
theorem dL_refuses_148 : decode cL_refuses 148 = .ok (.sipush (-1001), 3) := by decide +kernel
theorem dL_refuses_151 : decode cL_refuses 151 = .ok (.if_icmp .ne 132, 3) := by decide +kernel
theorem dL_refuses_154 : decode cL_refuses 154 = .ok (.aload_n 0, 1) := by decide +kernel
theorem dL_refuses_155 : decode cL_refuses 155 = .ok (.iconst 0, 1) := by decide +kernel
theorem dL_refuses_156 : decode cL_refuses 156 = .ok (.iload_n 2, 1) := by decide +kernel
theorem dL_refuses_157 : decode cL_refuses 157 = .ok (.iconst 0, 1) := by decide +kernel
theorem dL_refuses_158 : decode cL_refuses 158 = .ok (.invokestatic 135, 3) := by decide +kernel
theorem dL_refuses_161 : decode cL_refuses 161 = .ok (.sipush (-1001), 3) := by decide +kernel
theorem dL_refuses_164 : decode cL_refuses 164 = .ok (.if_icmp .ne 119, 3) := by decide +kernel
theorem dL_refuses_167 : decode cL_refuses 167 = .ok (.aload_n 0, 1) := by decide +kernel
theorem dL_refuses_168 : decode cL_refuses 168 = .ok (.iconst 0, 1) := by decide +kernel
theorem dL_refuses_169 : decode cL_refuses 169 = .ok (.iconst 0, 1) := by decide +kernel
theorem dL_refuses_170 : decode cL_refuses 170 = .ok (.bipush 61, 2) := by decide +kernel
theorem dL_refuses_172 : decode cL_refuses 172 = .ok (.invokestatic 135, 3) := by decide +kernel
theorem dL_refuses_175 : decode cL_refuses 175 = .ok (.sipush (-1002), 3) := by decide +kernel
theorem dL_refuses_178 : decode cL_refuses 178 = .ok (.if_icmp .ne 105, 3) := by decide +kernel
theorem dL_refuses_181 : decode cL_refuses 181 = .ok (.aload_n 0, 1) := by decide +kernel
theorem dL_refuses_182 : decode cL_refuses 182 = .ok (.iconst 0, 1) := by decide +kernel
theorem dL_refuses_183 : decode cL_refuses 183 = .ok (.iconst 0, 1) := by decide +kernel
theorem dL_refuses_184 : decode cL_refuses 184 = .ok (.bipush (-2), 2) := by decide +kernel
theorem dL_refuses_186 : decode cL_refuses 186 = .ok (.invokestatic 135, 3) := by decide +kernel
theorem dL_refuses_189 : decode cL_refuses 189 = .ok (.sipush (-1002), 3) := by decide +kernel
theorem dL_refuses_192 : decode cL_refuses 192 = .ok (.if_icmp .ne 91, 3) := by decide +kernel
theorem dL_refuses_195 : decode cL_refuses 195 = .ok (.aload_n 0, 1) := by decide +kernel
theorem dL_refuses_196 : decode cL_refuses 196 = .ok (.iconst 0, 1) := by decide +kernel
theorem dL_refuses_197 : decode cL_refuses 197 = .ok (.iconst 0, 1) := by decide +kernel
theorem dL_refuses_198 : decode cL_refuses 198 = .ok (.bipush 99, 2) := by decide +kernel
theorem dL_refuses_200 : decode cL_refuses 200 = .ok (.invokestatic 135, 3) := by decide +kernel
theorem dL_refuses_203 : decode cL_refuses 203 = .ok (.sipush (-1003), 3) := by decide +kernel
theorem dL_refuses_206 : decode cL_refuses 206 = .ok (.if_icmp .ne 77, 3) := by decide +kernel
theorem dL_refuses_209 : decode cL_refuses 209 = .ok (.aload_n 0, 1) := by decide +kernel
theorem dL_refuses_210 : decode cL_refuses 210 = .ok (.iload_n 1, 1) := by decide +kernel
theorem dL_refuses_211 : decode cL_refuses 211 = .ok (.bipush 61, 2) := by decide +kernel
theorem dL_refuses_213 : decode cL_refuses 213 = .ok (.invokestatic 139, 3) := by decide +kernel
theorem dL_refuses_216 : decode cL_refuses 216 = .ok (.sipush (-1001), 3) := by decide +kernel
theorem dL_refuses_219 : decode cL_refuses 219 = .ok (.if_icmp .ne 64, 3) := by decide +kernel
theorem dL_refuses_222 : decode cL_refuses 222 = .ok (.aload_n 0, 1) := by decide +kernel
theorem dL_refuses_223 : decode cL_refuses 223 = .ok (.iconst 0, 1) := by decide +kernel
theorem dL_refuses_224 : decode cL_refuses 224 = .ok (.bipush 61, 2) := by decide +kernel
theorem dL_refuses_226 : decode cL_refuses 226 = .ok (.invokestatic 139, 3) := by decide +kernel
theorem dL_refuses_229 : decode cL_refuses 229 = .ok (.sipush (-1002), 3) := by decide +kernel
theorem dL_refuses_232 : decode cL_refuses 232 = .ok (.if_icmp .ne 51, 3) := by decide +kernel
theorem dL_refuses_235 : decode cL_refuses 235 = .ok (.aload_n 0, 1) := by decide +kernel
theorem dL_refuses_236 : decode cL_refuses 236 = .ok (.iconst 0, 1) := by decide +kernel
theorem dL_refuses_237 : decode cL_refuses 237 = .ok (.iload_n 1, 1) := by decide +kernel
theorem dL_refuses_238 : decode cL_refuses 238 = .ok (.invokestatic 142, 3) := by decide +kernel
theorem dL_refuses_241 : decode cL_refuses 241 = .ok (.sipush (-1001), 3) := by decide +kernel
theorem dL_refuses_244 : decode cL_refuses 244 = .ok (.if_icmp .ne 39, 3) := by decide +kernel
theorem dL_refuses_247 : decode cL_refuses 247 = .ok (.iload_n 1, 1) := by decide +kernel
theorem dL_refuses_248 : decode cL_refuses 248 = .ok (.iconst 4, 1) := by decide +kernel
theorem dL_refuses_249 : decode cL_refuses 249 = .ok (.if_icmp .lt 14, 3) := by decide +kernel
theorem dL_refuses_252 : decode cL_refuses 252 = .ok (.aload_n 0, 1) := by decide +kernel
theorem dL_refuses_253 : decode cL_refuses 253 = .ok (.iconst 1, 1) := by decide +kernel
theorem dL_refuses_254 : decode cL_refuses 254 = .ok (.invokestatic 145, 3) := by decide +kernel
theorem dL_refuses_257 : decode cL_refuses 257 = .ok (.sipush (-1003), 3) := by decide +kernel
theorem dL_refuses_260 : decode cL_refuses 260 = .ok (.if_icmp .ne 23, 3) := by decide +kernel
theorem dL_refuses_263 : decode cL_refuses 263 = .ok (.iload_n 1, 1) := by decide +kernel
theorem dL_refuses_264 : decode cL_refuses 264 = .ok (.iconst 1, 1) := by decide +kernel
theorem dL_refuses_265 : decode cL_refuses 265 = .ok (.if_icmp .gt 14, 3) := by decide +kernel
theorem dL_refuses_268 : decode cL_refuses 268 = .ok (.aload_n 0, 1) := by decide +kernel
theorem dL_refuses_269 : decode cL_refuses 269 = .ok (.iconst 0, 1) := by decide +kernel
theorem dL_refuses_270 : decode cL_refuses 270 = .ok (.invokestatic 145, 3) := by decide +kernel
theorem dL_refuses_273 : decode cL_refuses 273 = .ok (.sipush (-1003), 3) := by decide +kernel
theorem dL_refuses_276 : decode cL_refuses 276 = .ok (.if_icmp .ne 7, 3) := by decide +kernel
theorem dL_refuses_279 : decode cL_refuses 279 = .ok (.iconst 1, 1) := by decide +kernel
theorem dL_refuses_280 : decode cL_refuses 280 = .ok (.goto 4, 3) := by decide +kernel
theorem dL_refuses_283 : decode cL_refuses 283 = .ok (.iconst 0, 1) := by decide +kernel
theorem dL_refuses_284 : decode cL_refuses 284 = .ok (.istore_n 3, 1) := by decide +kernel
theorem dL_refuses_285 : decode cL_refuses 285 = .ok (.iload_n 3, 1) := by decide +kernel
theorem dL_refuses_286 : decode cL_refuses 286 = .ok (.ifCond .eq 264, 3) := by decide +kernel
theorem dL_refuses_289 : decode cL_refuses 289 = .ok (.aload_n 0, 1) := by decide +kernel
theorem dL_refuses_290 : decode cL_refuses 290 = .ok (.iload_n 2, 1) := by decide +kernel
theorem dL_refuses_291 : decode cL_refuses 291 = .ok (.iconst 1, 1) := by decide +kernel
theorem dL_refuses_292 : decode cL_refuses 292 = .ok (.iadd, 1) := by decide +kernel
theorem dL_refuses_293 : decode cL_refuses 293 = .ok (.invokestatic 149, 3) := by decide +kernel
theorem dL_refuses_296 : decode cL_refuses 296 = .ok (.sipush (-1001), 3) := by decide +kernel
theorem dL_refuses_299 : decode cL_refuses 299 = .ok (.if_icmp .ne 251, 3) := by decide +kernel
theorem dL_refuses_302 : decode cL_refuses 302 = .ok (.iload_n 2, 1) := by decide +kernel
theorem dL_refuses_303 : decode cL_refuses 303 = .ok (.bipush 16, 2) := by decide +kernel
theorem dL_refuses_305 : decode cL_refuses 305 = .ok (.if_icmp .lt 14, 3) := by decide +kernel
theorem dL_refuses_308 : decode cL_refuses 308 = .ok (.aload_n 0, 1) := by decide +kernel
theorem dL_refuses_309 : decode cL_refuses 309 = .ok (.iconst 0, 1) := by decide +kernel
theorem dL_refuses_310 : decode cL_refuses 310 = .ok (.invokestatic 149, 3) := by decide +kernel
theorem dL_refuses_313 : decode cL_refuses 313 = .ok (.sipush (-1003), 3) := by decide +kernel
theorem dL_refuses_316 : decode cL_refuses 316 = .ok (.if_icmp .ne 234, 3) := by decide +kernel
theorem dL_refuses_319 : decode cL_refuses 319 = .ok (.aload_n 0, 1) := by decide +kernel
theorem dL_refuses_320 : decode cL_refuses 320 = .ok (.iload_n 2, 1) := by decide +kernel
theorem dL_refuses_321 : decode cL_refuses 321 = .ok (.invokestatic 152, 3) := by decide +kernel
theorem dL_refuses_324 : decode cL_refuses 324 = .ok (.sipush (-1001), 3) := by decide +kernel
theorem dL_refuses_327 : decode cL_refuses 327 = .ok (.if_icmp .ne 223, 3) := by decide +kernel
theorem dL_refuses_330 : decode cL_refuses 330 = .ok (.iload_n 2, 1) := by decide +kernel
theorem dL_refuses_331 : decode cL_refuses 331 = .ok (.iconst 1, 1) := by decide +kernel
theorem dL_refuses_332 : decode cL_refuses 332 = .ok (.if_icmp .gt 14, 3) := by decide +kernel
theorem dL_refuses_335 : decode cL_refuses 335 = .ok (.aload_n 0, 1) := by decide +kernel
theorem dL_refuses_336 : decode cL_refuses 336 = .ok (.iconst 0, 1) := by decide +kernel
theorem dL_refuses_337 : decode cL_refuses 337 = .ok (.invokestatic 152, 3) := by decide +kernel
theorem dL_refuses_340 : decode cL_refuses 340 = .ok (.sipush (-1003), 3) := by decide +kernel
theorem dL_refuses_343 : decode cL_refuses 343 = .ok (.if_icmp .ne 207, 3) := by decide +kernel
theorem dL_refuses_346 : decode cL_refuses 346 = .ok (.aload_n 0, 1) := by decide +kernel
theorem dL_refuses_347 : decode cL_refuses 347 = .ok (.iconst 0, 1) := by decide +kernel
theorem dL_refuses_348 : decode cL_refuses 348 = .ok (.iload_n 2, 1) := by decide +kernel
theorem dL_refuses_349 : decode cL_refuses 349 = .ok (.iconst 4, 1) := by decide +kernel
theorem dL_refuses_350 : decode cL_refuses 350 = .ok (.invokestatic 155, 3) := by decide +kernel
theorem dL_refuses_353 : decode cL_refuses 353 = .ok (.sipush (-1001), 3) := by decide +kernel
theorem dL_refuses_356 : decode cL_refuses 356 = .ok (.if_icmp .ne 194, 3) := by decide +kernel
theorem dL_refuses_359 : decode cL_refuses 359 = .ok (.aload_n 0, 1) := by decide +kernel
theorem dL_refuses_360 : decode cL_refuses 360 = .ok (.iconst 0, 1) := by decide +kernel
theorem dL_refuses_361 : decode cL_refuses 361 = .ok (.iconst 0, 1) := by decide +kernel
theorem dL_refuses_362 : decode cL_refuses 362 = .ok (.iconst 4, 1) := by decide +kernel
theorem dL_refuses_363 : decode cL_refuses 363 = .ok (.invokestatic 155, 3) := by decide +kernel
theorem dL_refuses_366 : decode cL_refuses 366 = .ok (.sipush (-1002), 3) := by decide +kernel
theorem dL_refuses_369 : decode cL_refuses 369 = .ok (.if_icmp .ne 181, 3) := by decide +kernel
theorem dL_refuses_372 : decode cL_refuses 372 = .ok (.aload_n 0, 1) := by decide +kernel
theorem dL_refuses_373 : decode cL_refuses 373 = .ok (.iconst 2, 1) := by decide +kernel
theorem dL_refuses_374 : decode cL_refuses 374 = .ok (.iconst 0, 1) := by decide +kernel
theorem dL_refuses_375 : decode cL_refuses 375 = .ok (.iconst 5, 1) := by decide +kernel
theorem dL_refuses_376 : decode cL_refuses 376 = .ok (.invokestatic 158, 3) := by decide +kernel
theorem dL_refuses_379 : decode cL_refuses 379 = .ok (.sipush (-1001), 3) := by decide +kernel
theorem dL_refuses_382 : decode cL_refuses 382 = .ok (.if_icmp .ne 168, 3) := by decide +kernel
theorem dL_refuses_385 : decode cL_refuses 385 = .ok (.aload_n 0, 1) := by decide +kernel
theorem dL_refuses_386 : decode cL_refuses 386 = .ok (.iconst 0, 1) := by decide +kernel
theorem dL_refuses_387 : decode cL_refuses 387 = .ok (.iconst 0, 1) := by decide +kernel
theorem dL_refuses_388 : decode cL_refuses 388 = .ok (.iconst 5, 1) := by decide +kernel
theorem dL_refuses_389 : decode cL_refuses 389 = .ok (.invokestatic 158, 3) := by decide +kernel
theorem dL_refuses_392 : decode cL_refuses 392 = .ok (.sipush (-1002), 3) := by decide +kernel
theorem dL_refuses_395 : decode cL_refuses 395 = .ok (.if_icmp .ne 155, 3) := by decide +kernel
theorem dL_refuses_398 : decode cL_refuses 398 = .ok (.aload_n 0, 1) := by decide +kernel
theorem dL_refuses_399 : decode cL_refuses 399 = .ok (.iload_n 2, 1) := by decide +kernel
theorem dL_refuses_400 : decode cL_refuses 400 = .ok (.iconst 5, 1) := by decide +kernel
theorem dL_refuses_401 : decode cL_refuses 401 = .ok (.invokestatic 161, 3) := by decide +kernel
theorem dL_refuses_404 : decode cL_refuses 404 = .ok (.sipush (-1001), 3) := by decide +kernel
theorem dL_refuses_407 : decode cL_refuses 407 = .ok (.if_icmp .ne 143, 3) := by decide +kernel
theorem dL_refuses_410 : decode cL_refuses 410 = .ok (.aload_n 0, 1) := by decide +kernel
theorem dL_refuses_411 : decode cL_refuses 411 = .ok (.iconst 0, 1) := by decide +kernel
theorem dL_refuses_412 : decode cL_refuses 412 = .ok (.iconst 5, 1) := by decide +kernel
theorem dL_refuses_413 : decode cL_refuses 413 = .ok (.invokestatic 161, 3) := by decide +kernel
theorem dL_refuses_416 : decode cL_refuses 416 = .ok (.sipush (-1002), 3) := by decide +kernel
theorem dL_refuses_419 : decode cL_refuses 419 = .ok (.if_icmp .ne 131, 3) := by decide +kernel
theorem dL_refuses_422 : decode cL_refuses 422 = .ok (.aload_n 0, 1) := by decide +kernel
theorem dL_refuses_423 : decode cL_refuses 423 = .ok (.bipush 8, 2) := by decide +kernel
theorem dL_refuses_425 : decode cL_refuses 425 = .ok (.invokestatic 124, 3) := by decide +kernel
theorem dL_refuses_428 : decode cL_refuses 428 = .ok (.sipush (-1002), 3) := by decide +kernel
theorem dL_refuses_431 : decode cL_refuses 431 = .ok (.if_icmp .ne 119, 3) := by decide +kernel
theorem dL_refuses_434 : decode cL_refuses 434 = .ok (.aload_n 0, 1) := by decide +kernel
theorem dL_refuses_435 : decode cL_refuses 435 = .ok (.iconst 0, 1) := by decide +kernel
theorem dL_refuses_436 : decode cL_refuses 436 = .ok (.iconst 0, 1) := by decide +kernel
theorem dL_refuses_437 : decode cL_refuses 437 = .ok (.iconst 0, 1) := by decide +kernel
theorem dL_refuses_438 : decode cL_refuses 438 = .ok (.invokestatic 164, 3) := by decide +kernel
theorem dL_refuses_441 : decode cL_refuses 441 = .ok (.sipush (-1002), 3) := by decide +kernel
theorem dL_refuses_444 : decode cL_refuses 444 = .ok (.if_icmp .ne 106, 3) := by decide +kernel
theorem dL_refuses_447 : decode cL_refuses 447 = .ok (.aload_n 0, 1) := by decide +kernel
theorem dL_refuses_448 : decode cL_refuses 448 = .ok (.iconst 0, 1) := by decide +kernel
theorem dL_refuses_449 : decode cL_refuses 449 = .ok (.iconst 1, 1) := by decide +kernel
theorem dL_refuses_450 : decode cL_refuses 450 = .ok (.bipush 8, 2) := by decide +kernel
theorem dL_refuses_452 : decode cL_refuses 452 = .ok (.invokestatic 164, 3) := by decide +kernel
theorem dL_refuses_455 : decode cL_refuses 455 = .ok (.sipush (-1002), 3) := by decide +kernel
theorem dL_refuses_458 : decode cL_refuses 458 = .ok (.if_icmp .ne 92, 3) := by decide +kernel
theorem dL_refuses_461 : decode cL_refuses 461 = .ok (.aload_n 0, 1) := by decide +kernel
theorem dL_refuses_462 : decode cL_refuses 462 = .ok (.iload_n 1, 1) := by decide +kernel
theorem dL_refuses_463 : decode cL_refuses 463 = .ok (.invokestatic 167, 3) := by decide +kernel
theorem dL_refuses_466 : decode cL_refuses 466 = .ok (.sipush (-1001), 3) := by decide +kernel
theorem dL_refuses_469 : decode cL_refuses 469 = .ok (.if_icmp .ne 81, 3) := by decide +kernel
theorem dL_refuses_472 : decode cL_refuses 472 = .ok (.aload_n 0, 1) := by decide +kernel
theorem dL_refuses_473 : decode cL_refuses 473 = .ok (.iconst 4, 1) := by decide +kernel
theorem dL_refuses_474 : decode cL_refuses 474 = .ok (.lconst 0, 1) := by decide +kernel
theorem dL_refuses_475 : decode cL_refuses 475 = .ok (.invokestatic 170, 3) := by decide +kernel
theorem dL_refuses_478 : decode cL_refuses 478 = .ok (.sipush (-1002), 3) := by decide +kernel
theorem dL_refuses_481 : decode cL_refuses 481 = .ok (.if_icmp .ne 69, 3) := by decide +kernel
theorem dL_refuses_484 : decode cL_refuses 484 = .ok (.aload_n 0, 1) := by decide +kernel
theorem dL_refuses_485 : decode cL_refuses 485 = .ok (.iconst 1, 1) := by decide +kernel
theorem dL_refuses_486 : decode cL_refuses 486 = .ok (.ldc2_w 174, 3) := by decide +kernel
theorem dL_refuses_489 : decode cL_refuses 489 = .ok (.invokestatic 170, 3) := by decide +kernel
theorem dL_refuses_492 : decode cL_refuses 492 = .ok (.sipush (-1002), 3) := by decide +kernel
theorem dL_refuses_495 : decode cL_refuses 495 = .ok (.if_icmp .ne 55, 3) := by decide +kernel
theorem dL_refuses_498 : decode cL_refuses 498 = .ok (.aload_n 0, 1) := by decide +kernel
theorem dL_refuses_499 : decode cL_refuses 499 = .ok (.lconst 1, 1) := by decide +kernel
theorem dL_refuses_500 : decode cL_refuses 500 = .ok (.bipush 41, 2) := by decide +kernel
theorem dL_refuses_502 : decode cL_refuses 502 = .ok (.invokestatic 176, 3) := by decide +kernel
theorem dL_refuses_505 : decode cL_refuses 505 = .ok (.sipush (-1002), 3) := by decide +kernel
theorem dL_refuses_508 : decode cL_refuses 508 = .ok (.if_icmp .ne 42, 3) := by decide +kernel
theorem dL_refuses_511 : decode cL_refuses 511 = .ok (.aload_n 0, 1) := by decide +kernel
theorem dL_refuses_512 : decode cL_refuses 512 = .ok (.iconst 2, 1) := by decide +kernel
theorem dL_refuses_513 : decode cL_refuses 513 = .ok (.invokestatic 180, 3) := by decide +kernel
theorem dL_refuses_516 : decode cL_refuses 516 = .ok (.sipush (-1001), 3) := by decide +kernel
theorem dL_refuses_519 : decode cL_refuses 519 = .ok (.if_icmp .ne 31, 3) := by decide +kernel
theorem dL_refuses_522 : decode cL_refuses 522 = .ok (.aload_n 0, 1) := by decide +kernel
theorem dL_refuses_523 : decode cL_refuses 523 = .ok (.iconst (-1), 1) := by decide +kernel
theorem dL_refuses_524 : decode cL_refuses 524 = .ok (.invokestatic 121, 3) := by decide +kernel
theorem dL_refuses_527 : decode cL_refuses 527 = .ok (.sipush (-1001), 3) := by decide +kernel
theorem dL_refuses_530 : decode cL_refuses 530 = .ok (.if_icmp .ne 20, 3) := by decide +kernel
theorem dL_refuses_533 : decode cL_refuses 533 = .ok (.aload_n 0, 1) := by decide +kernel
theorem dL_refuses_534 : decode cL_refuses 534 = .ok (.sipush 256, 3) := by decide +kernel
theorem dL_refuses_537 : decode cL_refuses 537 = .ok (.invokestatic 91, 3) := by decide +kernel
theorem dL_refuses_540 : decode cL_refuses 540 = .ok (.sipush (-1002), 3) := by decide +kernel
theorem dL_refuses_543 : decode cL_refuses 543 = .ok (.if_icmp .ne 7, 3) := by decide +kernel
theorem dL_refuses_546 : decode cL_refuses 546 = .ok (.iconst 1, 1) := by decide +kernel
theorem dL_refuses_547 : decode cL_refuses 547 = .ok (.goto 4, 3) := by decide +kernel
theorem dL_refuses_550 : decode cL_refuses 550 = .ok (.iconst 0, 1) := by decide +kernel
theorem dL_refuses_551 : decode cL_refuses 551 = .ok (.ireturn, 1) := by decide +kernel
theorem dL_changed_0 : decode cL_changed 0 = .ok (.aload_n 0, 1) := by decide +kernel
theorem dL_changed_1 : decode cL_changed 1 = .ok (.bipush 7, 2) := by decide +kernel
theorem dL_changed_3 : decode cL_changed 3 = .ok (.invokestatic 115, 3) := by decide +kernel
theorem dL_changed_6 : decode cL_changed 6 = .ok (.istore_n 2, 1) := by decide +kernel
theorem dL_changed_7 : decode cL_changed 7 = .ok (.aload_n 0, 1) := by decide +kernel
theorem dL_changed_8 : decode cL_changed 8 = .ok (.bipush 6, 2) := by decide +kernel
theorem dL_changed_10 : decode cL_changed 10 = .ok (.invokestatic 115, 3) := by decide +kernel
theorem dL_changed_13 : decode cL_changed 13 = .ok (.istore_n 3, 1) := by decide +kernel
theorem dL_changed_14 : decode cL_changed 14 = .ok (.aload_n 0, 1) := by decide +kernel
theorem dL_changed_15 : decode cL_changed 15 = .ok (.iconst 0, 1) := by decide +kernel
theorem dL_changed_16 : decode cL_changed 16 = .ok (.invokestatic 124, 3) := by decide +kernel
theorem dL_changed_19 : decode cL_changed 19 = .ok (.istore 4, 2) := by decide +kernel
theorem dL_changed_21 : decode cL_changed 21 = .ok (.aload_n 0, 1) := by decide +kernel
theorem dL_changed_22 : decode cL_changed 22 = .ok (.iconst 0, 1) := by decide +kernel
theorem dL_changed_23 : decode cL_changed 23 = .ok (.invokestatic 180, 3) := by decide +kernel
theorem dL_changed_26 : decode cL_changed 26 = .ok (.iload_n 2, 1) := by decide +kernel
theorem dL_changed_27 : decode cL_changed 27 = .ok (.if_icmp .ne 16, 3) := by decide +kernel
theorem dL_changed_30 : decode cL_changed 30 = .ok (.aload_n 0, 1) := by decide +kernel
theorem dL_changed_31 : decode cL_changed 31 = .ok (.iconst 5, 1) := by decide +kernel
theorem dL_changed_32 : decode cL_changed 32 = .ok (.iconst 0, 1) := by decide +kernel
theorem dL_changed_33 : decode cL_changed 33 = .ok (.invokestatic 131, 3) := by decide +kernel
theorem dL_changed_36 : decode cL_changed 36 = .ok (.ifCond .lt 7, 3) := by decide +kernel
theorem dL_changed_39 : decode cL_changed 39 = .ok (.iconst 1, 1) := by decide +kernel
theorem dL_changed_40 : decode cL_changed 40 = .ok (.goto 4, 3) := by decide +kernel
theorem dL_changed_43 : decode cL_changed 43 = .ok (.iconst 0, 1) := by decide +kernel
theorem dL_changed_44 : decode cL_changed 44 = .ok (.istore 5, 2) := by decide +kernel
theorem dL_changed_46 : decode cL_changed 46 = .ok (.aload_n 0, 1) := by decide +kernel
theorem dL_changed_47 : decode cL_changed 47 = .ok (.iconst 0, 1) := by decide +kernel
theorem dL_changed_48 : decode cL_changed 48 = .ok (.invokestatic 124, 3) := by decide +kernel
theorem dL_changed_51 : decode cL_changed 51 = .ok (.istore 6, 2) := by decide +kernel
theorem dL_changed_53 : decode cL_changed 53 = .ok (.aload_n 0, 1) := by decide +kernel
theorem dL_changed_54 : decode cL_changed 54 = .ok (.iconst 0, 1) := by decide +kernel
theorem dL_changed_55 : decode cL_changed 55 = .ok (.iconst 2, 1) := by decide +kernel
theorem dL_changed_56 : decode cL_changed 56 = .ok (.invokestatic 161, 3) := by decide +kernel
theorem dL_changed_59 : decode cL_changed 59 = .ok (.istore 7, 2) := by decide +kernel
theorem dL_changed_61 : decode cL_changed 61 = .ok (.iload 5, 2) := by decide +kernel
theorem dL_changed_63 : decode cL_changed 63 = .ok (.ifCond .eq 60, 3) := by decide +kernel
theorem dL_changed_66 : decode cL_changed 66 = .ok (.aload_n 0, 1) := by decide +kernel
theorem dL_changed_67 : decode cL_changed 67 = .ok (.invokestatic 183, 3) := by decide +kernel
theorem dL_changed_70 : decode cL_changed 70 = .ok (.ifCond .eq 53, 3) := by decide +kernel
theorem dL_changed_73 : decode cL_changed 73 = .ok (.aload_n 0, 1) := by decide +kernel
theorem dL_changed_74 : decode cL_changed 74 = .ok (.iconst 5, 1) := by decide +kernel
theorem dL_changed_75 : decode cL_changed 75 = .ok (.iconst 1, 1) := by decide +kernel
theorem dL_changed_76 : decode cL_changed 76 = .ok (.invokestatic 131, 3) := by decide +kernel
theorem dL_changed_79 : decode cL_changed 79 = .ok (.ifCond .ne 44, 3) := by decide +kernel
theorem dL_changed_82 : decode cL_changed 82 = .ok (.aload_n 0, 1) := by decide +kernel
theorem dL_changed_83 : decode cL_changed 83 = .ok (.iconst 0, 1) := by decide +kernel
theorem dL_changed_84 : decode cL_changed 84 = .ok (.invokestatic 124, 3) := by decide +kernel
theorem dL_changed_87 : decode cL_changed 87 = .ok (.iload 6, 2) := by decide +kernel
theorem dL_changed_89 : decode cL_changed 89 = .ok (.if_icmp .gt 34, 3) := by decide +kernel
theorem dL_changed_92 : decode cL_changed 92 = .ok (.aload_n 0, 1) := by decide +kernel
theorem dL_changed_93 : decode cL_changed 93 = .ok (.iconst 0, 1) := by decide +kernel
theorem dL_changed_94 : decode cL_changed 94 = .ok (.iconst 2, 1) := by decide +kernel
theorem dL_changed_95 : decode cL_changed 95 = .ok (.invokestatic 161, 3) := by decide +kernel
theorem dL_changed_98 : decode cL_changed 98 = .ok (.iload 7, 2) := by decide +kernel
theorem dL_changed_100 : decode cL_changed 100 = .ok (.if_icmp .lt 23, 3) := by decide +kernel
theorem dL_changed_103 : decode cL_changed 103 = .ok (.aload_n 0, 1) := by decide +kernel
theorem dL_changed_104 : decode cL_changed 104 = .ok (.invokestatic 183, 3) := by decide +kernel
theorem dL_changed_107 : decode cL_changed 107 = .ok (.ifCond .eq 16, 3) := by decide +kernel
theorem dL_changed_110 : decode cL_changed 110 = .ok (.aload_n 0, 1) := by decide +kernel
theorem dL_changed_111 : decode cL_changed 111 = .ok (.iconst 0, 1) := by decide +kernel
theorem dL_changed_112 : decode cL_changed 112 = .ok (.invokestatic 121, 3) := by decide +kernel
theorem dL_changed_115 : decode cL_changed 115 = .ok (.iload_n 2, 1) := by decide +kernel
theorem dL_changed_116 : decode cL_changed 116 = .ok (.if_icmp .ne 7, 3) := by decide +kernel
theorem dL_changed_119 : decode cL_changed 119 = .ok (.iconst 1, 1) := by decide +kernel
theorem dL_changed_120 : decode cL_changed 120 = .ok (.goto 4, 3) := by decide +kernel
theorem dL_changed_123 : decode cL_changed 123 = .ok (.iconst 0, 1) := by decide +kernel
theorem dL_changed_124 : decode cL_changed 124 = .ok (.istore 5, 2) := by decide +kernel
theorem dL_changed_126 : decode cL_changed 126 = .ok (.iload_n 1, 1) := by decide +kernel
theorem dL_changed_127 : decode cL_changed 127 = .ok (.bipush 6, 2) := by decide +kernel
theorem dL_changed_129 : decode cL_changed 129 = .ok (.irem, 1) := by decide +kernel
theorem dL_changed_130 : decode cL_changed 130 = .ok (.istore 8, 2) := by decide +kernel
theorem dL_changed_132 : decode cL_changed 132 = .ok (.iload 8, 2) := by decide +kernel
theorem dL_changed_134 : decode cL_changed 134 = .ok (.iconst 2, 1) := by decide +kernel
theorem dL_changed_135 : decode cL_changed 135 = .ok (.if_icmp .ge 15, 3) := by decide +kernel
theorem dL_changed_138 : decode cL_changed 138 = .ok (.iconst 1, 1) := by decide +kernel
theorem dL_changed_139 : decode cL_changed 139 = .ok (.iload_n 1, 1) := by decide +kernel
theorem dL_changed_140 : decode cL_changed 140 = .ok (.bipush 8, 2) := by decide +kernel
theorem dL_changed_142 : decode cL_changed 142 = .ok (.idiv, 1) := by decide +kernel
theorem dL_changed_143 : decode cL_changed 143 = .ok (.bipush 24, 2) := by decide +kernel
theorem dL_changed_145 : decode cL_changed 145 = .ok (.irem, 1) := by decide +kernel
theorem dL_changed_146 : decode cL_changed 146 = .ok (.iadd, 1) := by decide +kernel
theorem dL_changed_147 : decode cL_changed 147 = .ok (.goto 42, 3) := by decide +kernel
theorem dL_changed_150 : decode cL_changed 150 = .ok (.iload 8, 2) := by decide +kernel
theorem dL_changed_152 : decode cL_changed 152 = .ok (.iconst 2, 1) := by decide +kernel
theorem dL_changed_153 : decode cL_changed 153 = .ok (.if_icmp .ne 14, 3) := by decide +kernel
theorem dL_changed_156 : decode cL_changed 156 = .ok (.iconst 1, 1) := by decide +kernel
theorem dL_changed_157 : decode cL_changed 157 = .ok (.iload_n 1, 1) := by decide +kernel
theorem dL_changed_158 : decode cL_changed 158 = .ok (.bipush 8, 2) := by decide +kernel
theorem dL_changed_160 : decode cL_changed 160 = .ok (.idiv, 1) := by decide +kernel
theorem dL_changed_161 : decode cL_changed 161 = .ok (.iconst 5, 1) := by decide +kernel
theorem dL_changed_162 : decode cL_changed 162 = .ok (.irem, 1) := by decide +kernel
theorem dL_changed_163 : decode cL_changed 163 = .ok (.iadd, 1) := by decide +kernel
theorem dL_changed_164 : decode cL_changed 164 = .ok (.goto 25, 3) := by decide +kernel
theorem dL_changed_167 : decode cL_changed 167 = .ok (.iload 8, 2) := by decide +kernel
theorem dL_changed_169 : decode cL_changed 169 = .ok (.iconst 3, 1) := by decide +kernel
theorem dL_changed_170 : decode cL_changed 170 = .ok (.if_icmp .ne 13, 3) := by decide +kernel
theorem dL_changed_173 : decode cL_changed 173 = .ok (.iload_n 1, 1) := by decide +kernel
theorem dL_changed_174 : decode cL_changed 174 = .ok (.bipush 8, 2) := by decide +kernel
theorem dL_changed_176 : decode cL_changed 176 = .ok (.idiv, 1) := by decide +kernel
theorem dL_changed_177 : decode cL_changed 177 = .ok (.bipush 10, 2) := by decide +kernel
theorem dL_changed_179 : decode cL_changed 179 = .ok (.irem, 1) := by decide +kernel
theorem dL_changed_180 : decode cL_changed 180 = .ok (.goto 9, 3) := by decide +kernel
theorem dL_changed_183 : decode cL_changed 183 = .ok (.iload_n 1, 1) := by decide +kernel
theorem dL_changed_184 : decode cL_changed 184 = .ok (.bipush 8, 2) := by decide +kernel
theorem dL_changed_186 : decode cL_changed 186 = .ok (.idiv, 1) := by decide +kernel
theorem dL_changed_187 : decode cL_changed 187 = .ok (.iconst 2, 1) := by decide +kernel
theorem dL_changed_188 : decode cL_changed 188 = .ok (.irem, 1) := by decide +kernel
theorem dL_changed_189 : decode cL_changed 189 = .ok (.istore 9, 2) := by decide +kernel
theorem dL_changed_191 : decode cL_changed 191 = .ok (.iload_n 1, 1) := by decide +kernel
theorem dL_changed_192 : decode cL_changed 192 = .ok (.sipush 512, 3) := by decide +kernel
theorem dL_changed_195 : decode cL_changed 195 = .ok (.idiv, 1) := by decide +kernel
theorem dL_changed_196 : decode cL_changed 196 = .ok (.bipush 8, 2) := by decide +kernel
theorem dL_changed_198 : decode cL_changed 198 = .ok (.irem, 1) := by decide +kernel
theorem dL_changed_199 : decode cL_changed 199 = .ok (.istore 10, 2) := by decide +kernel
theorem dL_changed_201 : decode cL_changed 201 = .ok (.aload_n 0, 1) := by decide +kernel
theorem dL_changed_202 : decode cL_changed 202 = .ok (.iload 8, 2) := by decide +kernel
theorem dL_changed_204 : decode cL_changed 204 = .ok (.iload 9, 2) := by decide +kernel
theorem dL_changed_206 : decode cL_changed 206 = .ok (.iload 10, 2) := by decide +kernel
theorem dL_changed_208 : decode cL_changed 208 = .ok (.invokestatic 164, 3) := by decide +kernel
theorem dL_changed_211 : decode cL_changed 211 = .ok (.istore 11, 2) := by decide +kernel
theorem dL_changed_213 : decode cL_changed 213 = .ok (.iload 5, 2) := by decide +kernel
theorem dL_changed_215 : decode cL_changed 215 = .ok (.ifCond .eq 38, 3) := by decide +kernel
theorem dL_changed_218 : decode cL_changed 218 = .ok (.aload_n 0, 1) := by decide +kernel
theorem dL_changed_219 : decode cL_changed 219 = .ok (.iload 8, 2) := by decide +kernel
theorem dL_changed_221 : decode cL_changed 221 = .ok (.iload 9, 2) := by decide +kernel
theorem dL_changed_223 : decode cL_changed 223 = .ok (.invokestatic 131, 3) := by decide +kernel
theorem dL_changed_226 : decode cL_changed 226 = .ok (.ifCond .lt 27, 3) := by decide +kernel
theorem dL_changed_229 : decode cL_changed 229 = .ok (.aload_n 0, 1) := by decide +kernel
theorem dL_changed_230 : decode cL_changed 230 = .ok (.iload 10, 2) := by decide +kernel
theorem dL_changed_232 : decode cL_changed 232 = .ok (.invokestatic 124, 3) := by decide +kernel
theorem dL_changed_235 : decode cL_changed 235 = .ok (.iload 11, 2) := by decide +kernel
theorem dL_changed_237 : decode cL_changed 237 = .ok (.if_icmp .ne 16, 3) := by decide +kernel
theorem dL_changed_240 : decode cL_changed 240 = .ok (.aload_n 0, 1) := by decide +kernel
theorem dL_changed_241 : decode cL_changed 241 = .ok (.iconst 0, 1) := by decide +kernel
theorem dL_changed_242 : decode cL_changed 242 = .ok (.invokestatic 121, 3) := by decide +kernel
theorem dL_changed_245 : decode cL_changed 245 = .ok (.iload_n 2, 1) := by decide +kernel
theorem dL_changed_246 : decode cL_changed 246 = .ok (.if_icmp .ne 7, 3) := by decide +kernel
theorem dL_changed_249 : decode cL_changed 249 = .ok (.iconst 1, 1) := by decide +kernel
theorem dL_changed_250 : decode cL_changed 250 = .ok (.goto 4, 3) := by decide +kernel
theorem dL_changed_253 : decode cL_changed 253 = .ok (.iconst 0, 1) := by decide +kernel
theorem dL_changed_254 : decode cL_changed 254 = .ok (.istore 5, 2) := by decide +kernel
theorem dL_changed_256 : decode cL_changed 256 = .ok (.aload_n 0, 1) := by decide +kernel
theorem dL_changed_257 : decode cL_changed 257 = .ok (.invokevirtual 187, 3) := by decide +kernel
theorem dL_changed_260 : decode cL_changed 260 = .ok (.istore 12, 2) := by decide +kernel
theorem dL_changed_262 : decode cL_changed 262 = .ok (.iload 5, 2) := by decide +kernel
theorem dL_changed_264 : decode cL_changed 264 = .ok (.ifCond .eq 96, 3) := by decide +kernel
theorem dL_changed_267 : decode cL_changed 267 = .ok (.iload 12, 2) := by decide +kernel
theorem dL_changed_269 : decode cL_changed 269 = .ok (.bipush (-9), 2) := by decide +kernel
theorem dL_changed_271 : decode cL_changed 271 = .ok (.if_icmp .eq 89, 3) := by decide +kernel
theorem dL_changed_274 : decode cL_changed 274 = .ok (.aload_n 0, 1) := by decide +kernel
theorem dL_changed_275 : decode cL_changed 275 = .ok (.iconst 0, 1) := by decide +kernel
theorem dL_changed_276 : decode cL_changed 276 = .ok (.iload 12, 2) := by decide +kernel
theorem dL_changed_278 : decode cL_changed 278 = .ok (.invokestatic 131, 3) := by decide +kernel
theorem dL_changed_281 : decode cL_changed 281 = .ok (.ifCond .le 76, 3) := by decide +kernel
theorem dL_changed_284 : decode cL_changed 284 = .ok (.aload_n 0, 1) := by decide +kernel
theorem dL_changed_285 : decode cL_changed 285 = .ok (.iconst 1, 1) := by decide +kernel
theorem dL_changed_286 : decode cL_changed 286 = .ok (.iload 12, 2) := by decide +kernel
theorem dL_changed_288 : decode cL_changed 288 = .ok (.invokestatic 131, 3) := by decide +kernel
theorem dL_changed_291 : decode cL_changed 291 = .ok (.ifCond .le 66, 3) := by decide +kernel
theorem dL_changed_294 : decode cL_changed 294 = .ok (.aload_n 0, 1) := by decide +kernel
theorem dL_changed_295 : decode cL_changed 295 = .ok (.iconst 3, 1) := by decide +kernel
theorem dL_changed_296 : decode cL_changed 296 = .ok (.invokestatic 124, 3) := by decide +kernel
theorem dL_changed_299 : decode cL_changed 299 = .ok (.ifCond .ne 58, 3) := by decide +kernel
theorem dL_changed_302 : decode cL_changed 302 = .ok (.iload 12, 2) := by decide +kernel
theorem dL_changed_304 : decode cL_changed 304 = .ok (.iconst 1, 1) := by decide +kernel
theorem dL_changed_305 : decode cL_changed 305 = .ok (.if_icmp .eq 39, 3) := by decide +kernel
theorem dL_changed_308 : decode cL_changed 308 = .ok (.aload_n 0, 1) := by decide +kernel
theorem dL_changed_309 : decode cL_changed 309 = .ok (.iconst 0, 1) := by decide +kernel
theorem dL_changed_310 : decode cL_changed 310 = .ok (.iload 12, 2) := by decide +kernel
theorem dL_changed_312 : decode cL_changed 312 = .ok (.iconst 1, 1) := by decide +kernel
theorem dL_changed_313 : decode cL_changed 313 = .ok (.isub, 1) := by decide +kernel
theorem dL_changed_314 : decode cL_changed 314 = .ok (.invokestatic 131, 3) := by decide +kernel
theorem dL_changed_317 : decode cL_changed 317 = .ok (.iload 12, 2) := by decide +kernel
theorem dL_changed_319 : decode cL_changed 319 = .ok (.if_icmp .ne 38, 3) := by decide +kernel
theorem dL_changed_322 : decode cL_changed 322 = .ok (.aload_n 0, 1) := by decide +kernel
theorem dL_changed_323 : decode cL_changed 323 = .ok (.iconst 1, 1) := by decide +kernel
theorem dL_changed_324 : decode cL_changed 324 = .ok (.iload 12, 2) := by decide +kernel
theorem dL_changed_326 : decode cL_changed 326 = .ok (.iconst 1, 1) := by decide +kernel
theorem dL_changed_327 : decode cL_changed 327 = .ok (.isub, 1) := by decide +kernel
theorem dL_changed_328 : decode cL_changed 328 = .ok (.invokestatic 131, 3) := by decide +kernel
theorem dL_changed_331 : decode cL_changed 331 = .ok (.iload 12, 2) := by decide +kernel
theorem dL_changed_333 : decode cL_changed 333 = .ok (.if_icmp .ne 24, 3) := by decide +kernel
theorem dL_changed_336 : decode cL_changed 336 = .ok (.aload_n 0, 1) := by decide +kernel
theorem dL_changed_337 : decode cL_changed 337 = .ok (.iconst 3, 1) := by decide +kernel
theorem dL_changed_338 : decode cL_changed 338 = .ok (.invokestatic 124, 3) := by decide +kernel
theorem dL_changed_341 : decode cL_changed 341 = .ok (.ifCond .le 16, 3) := by decide +kernel
theorem dL_changed_344 : decode cL_changed 344 = .ok (.aload_n 0, 1) := by decide +kernel
theorem dL_changed_345 : decode cL_changed 345 = .ok (.iconst 0, 1) := by decide +kernel
theorem dL_changed_346 : decode cL_changed 346 = .ok (.invokestatic 121, 3) := by decide +kernel
theorem dL_changed_349 : decode cL_changed 349 = .ok (.iload_n 2, 1) := by decide +kernel
theorem dL_changed_350 : decode cL_changed 350 = .ok (.if_icmp .ne 7, 3) := by decide +kernel
theorem dL_changed_353 : decode cL_changed 353 = .ok (.iconst 1, 1) := by decide +kernel
theorem dL_changed_354 : decode cL_changed 354 = .ok (.goto 4, 3) := by decide +kernel
theorem dL_changed_357 : decode cL_changed 357 = .ok (.iconst 0, 1) := by decide +kernel
theorem dL_changed_358 : decode cL_changed 358 = .ok (.istore 5, 2) := by decide +kernel
theorem dL_changed_360 : decode cL_changed 360 = .ok (.iload 5, 2) := by decide +kernel
theorem dL_changed_362 : decode cL_changed 362 = .ok (.ifCond .eq 45, 3) := by decide +kernel
theorem dL_changed_365 : decode cL_changed 365 = .ok (.iload_n 3, 1) := by decide +kernel
theorem dL_changed_366 : decode cL_changed 366 = .ok (.iconst 4, 1) := by decide +kernel
theorem dL_changed_367 : decode cL_changed 367 = .ok (.if_icmp .ge 40, 3) := by decide +kernel
theorem dL_changed_370 : decode cL_changed 370 = .ok (.aload_n 0, 1) := by decide +kernel
theorem dL_changed_371 : decode cL_changed 371 = .ok (.iconst 1, 1) := by decide +kernel
theorem dL_changed_372 : decode cL_changed 372 = .ok (.invokestatic 145, 3) := by decide +kernel
theorem dL_changed_375 : decode cL_changed 375 = .ok (.iload_n 3, 1) := by decide +kernel
theorem dL_changed_376 : decode cL_changed 376 = .ok (.iconst 1, 1) := by decide +kernel
theorem dL_changed_377 : decode cL_changed 377 = .ok (.iadd, 1) := by decide +kernel
theorem dL_changed_378 : decode cL_changed 378 = .ok (.if_icmp .ne 26, 3) := by decide +kernel
theorem dL_changed_381 : decode cL_changed 381 = .ok (.aload_n 0, 1) := by decide +kernel
theorem dL_changed_382 : decode cL_changed 382 = .ok (.iconst 0, 1) := by decide +kernel
theorem dL_changed_383 : decode cL_changed 383 = .ok (.invokestatic 145, 3) := by decide +kernel
theorem dL_changed_386 : decode cL_changed 386 = .ok (.iload_n 3, 1) := by decide +kernel
theorem dL_changed_387 : decode cL_changed 387 = .ok (.if_icmp .ne 17, 3) := by decide +kernel
theorem dL_changed_390 : decode cL_changed 390 = .ok (.aload_n 0, 1) := by decide +kernel
theorem dL_changed_391 : decode cL_changed 391 = .ok (.iconst 0, 1) := by decide +kernel
theorem dL_changed_392 : decode cL_changed 392 = .ok (.invokestatic 124, 3) := by decide +kernel
theorem dL_changed_395 : decode cL_changed 395 = .ok (.iload 4, 2) := by decide +kernel
theorem dL_changed_397 : decode cL_changed 397 = .ok (.if_icmp .ne 7, 3) := by decide +kernel
theorem dL_changed_400 : decode cL_changed 400 = .ok (.iconst 1, 1) := by decide +kernel
theorem dL_changed_401 : decode cL_changed 401 = .ok (.goto 4, 3) := by decide +kernel
theorem dL_changed_404 : decode cL_changed 404 = .ok (.iconst 0, 1) := by decide +kernel
theorem dL_changed_405 : decode cL_changed 405 = .ok (.istore 5, 2) := by decide +kernel
theorem dL_changed_407 : decode cL_changed 407 = .ok (.iload 5, 2) := by decide +kernel
theorem dL_changed_409 : decode cL_changed 409 = .ok (.ifCond .eq 58, 3) := by decide +kernel
theorem dL_changed_412 : decode cL_changed 412 = .ok (.iload_n 2, 1) := by decide +kernel
theorem dL_changed_413 : decode cL_changed 413 = .ok (.bipush 16, 2) := by decide +kernel
theorem dL_changed_415 : decode cL_changed 415 = .ok (.if_icmp .ge 52, 3) := by decide +kernel
theorem dL_changed_418 : decode cL_changed 418 = .ok (.aload_n 0, 1) := by decide +kernel
theorem dL_changed_419 : decode cL_changed 419 = .ok (.iload_n 2, 1) := by decide +kernel
theorem dL_changed_420 : decode cL_changed 420 = .ok (.invokestatic 149, 3) := by decide +kernel
theorem dL_changed_423 : decode cL_changed 423 = .ok (.iload_n 2, 1) := by decide +kernel
theorem dL_changed_424 : decode cL_changed 424 = .ok (.iconst 1, 1) := by decide +kernel
theorem dL_changed_425 : decode cL_changed 425 = .ok (.iadd, 1) := by decide +kernel
theorem dL_changed_426 : decode cL_changed 426 = .ok (.if_icmp .ne 38, 3) := by decide +kernel
theorem dL_changed_429 : decode cL_changed 429 = .ok (.aload_n 0, 1) := by decide +kernel
theorem dL_changed_430 : decode cL_changed 430 = .ok (.iconst 0, 1) := by decide +kernel
theorem dL_changed_431 : decode cL_changed 431 = .ok (.iload_n 2, 1) := by decide +kernel
theorem dL_changed_432 : decode cL_changed 432 = .ok (.iconst 1, 1) := by decide +kernel
theorem dL_changed_433 : decode cL_changed 433 = .ok (.invokestatic 127, 3) := by decide +kernel
theorem dL_changed_436 : decode cL_changed 436 = .ok (.bipush (-9), 2) := by decide +kernel
theorem dL_changed_438 : decode cL_changed 438 = .ok (.if_icmp .ne 26, 3) := by decide +kernel
theorem dL_changed_441 : decode cL_changed 441 = .ok (.aload_n 0, 1) := by decide +kernel
theorem dL_changed_442 : decode cL_changed 442 = .ok (.iload_n 2, 1) := by decide +kernel
theorem dL_changed_443 : decode cL_changed 443 = .ok (.invokestatic 152, 3) := by decide +kernel
theorem dL_changed_446 : decode cL_changed 446 = .ok (.iload_n 2, 1) := by decide +kernel
theorem dL_changed_447 : decode cL_changed 447 = .ok (.if_icmp .ne 17, 3) := by decide +kernel
theorem dL_changed_450 : decode cL_changed 450 = .ok (.aload_n 0, 1) := by decide +kernel
theorem dL_changed_451 : decode cL_changed 451 = .ok (.iconst 0, 1) := by decide +kernel
theorem dL_changed_452 : decode cL_changed 452 = .ok (.invokestatic 124, 3) := by decide +kernel
theorem dL_changed_455 : decode cL_changed 455 = .ok (.iload 4, 2) := by decide +kernel
theorem dL_changed_457 : decode cL_changed 457 = .ok (.if_icmp .ne 7, 3) := by decide +kernel
theorem dL_changed_460 : decode cL_changed 460 = .ok (.iconst 1, 1) := by decide +kernel
theorem dL_changed_461 : decode cL_changed 461 = .ok (.goto 4, 3) := by decide +kernel
theorem dL_changed_464 : decode cL_changed 464 = .ok (.iconst 0, 1) := by decide +kernel
theorem dL_changed_465 : decode cL_changed 465 = .ok (.istore 5, 2) := by decide +kernel
theorem dL_changed_467 : decode cL_changed 467 = .ok (.iload_n 1, 1) := by decide +kernel
theorem dL_changed_468 : decode cL_changed 468 = .ok (.iload_n 3, 1) := by decide +kernel
theorem dL_changed_469 : decode cL_changed 469 = .ok (.irem, 1) := by decide +kernel
theorem dL_changed_470 : decode cL_changed 470 = .ok (.istore 13, 2) := by decide +kernel
theorem dL_changed_472 : decode cL_changed 472 = .ok (.iload_n 1, 1) := by decide +kernel
theorem dL_changed_473 : decode cL_changed 473 = .ok (.bipush 8, 2) := by decide +kernel
theorem dL_changed_475 : decode cL_changed 475 = .ok (.idiv, 1) := by decide +kernel
theorem dL_changed_476 : decode cL_changed 476 = .ok (.iload_n 3, 1) := by decide +kernel
theorem dL_changed_477 : decode cL_changed 477 = .ok (.irem, 1) := by decide +kernel
theorem dL_changed_478 : decode cL_changed 478 = .ok (.istore 14, 2) := by decide +kernel
theorem dL_changed_480 : decode cL_changed 480 = .ok (.aload_n 0, 1) := by decide +kernel
theorem dL_changed_481 : decode cL_changed 481 = .ok (.iload 13, 2) := by decide +kernel
theorem dL_changed_483 : decode cL_changed 483 = .ok (.iload 14, 2) := by decide +kernel
theorem dL_changed_485 : decode cL_changed 485 = .ok (.invokestatic 142, 3) := by decide +kernel
theorem dL_changed_488 : decode cL_changed 488 = .ok (.istore 15, 2) := by decide +kernel
theorem dL_changed_490 : decode cL_changed 490 = .ok (.iload 5, 2) := by decide +kernel
theorem dL_changed_492 : decode cL_changed 492 = .ok (.ifCond .eq 66, 3) := by decide +kernel
theorem dL_changed_495 : decode cL_changed 495 = .ok (.iload 15, 2) := by decide +kernel
theorem dL_changed_497 : decode cL_changed 497 = .ok (.ifCond .lt 61, 3) := by decide +kernel
theorem dL_changed_500 : decode cL_changed 500 = .ok (.iload 13, 2) := by decide +kernel
theorem dL_changed_502 : decode cL_changed 502 = .ok (.iload 14, 2) := by decide +kernel
theorem dL_changed_504 : decode cL_changed 504 = .ok (.if_icmp .ne 8, 3) := by decide +kernel
theorem dL_changed_507 : decode cL_changed 507 = .ok (.iload 15, 2) := by decide +kernel
theorem dL_changed_509 : decode cL_changed 509 = .ok (.ifCond .ne 49, 3) := by decide +kernel
theorem dL_changed_512 : decode cL_changed 512 = .ok (.aload_n 0, 1) := by decide +kernel
theorem dL_changed_513 : decode cL_changed 513 = .ok (.iload 13, 2) := by decide +kernel
theorem dL_changed_515 : decode cL_changed 515 = .ok (.iload 14, 2) := by decide +kernel
theorem dL_changed_517 : decode cL_changed 517 = .ok (.invokestatic 142, 3) := by decide +kernel
theorem dL_changed_520 : decode cL_changed 520 = .ok (.iload 15, 2) := by decide +kernel
theorem dL_changed_522 : decode cL_changed 522 = .ok (.if_icmp .ne 36, 3) := by decide +kernel
theorem dL_changed_525 : decode cL_changed 525 = .ok (.aload_n 0, 1) := by decide +kernel
theorem dL_changed_526 : decode cL_changed 526 = .ok (.iconst 0, 1) := by decide +kernel
theorem dL_changed_527 : decode cL_changed 527 = .ok (.invokestatic 124, 3) := by decide +kernel
theorem dL_changed_530 : decode cL_changed 530 = .ok (.iload 4, 2) := by decide +kernel
theorem dL_changed_532 : decode cL_changed 532 = .ok (.if_icmp .ne 26, 3) := by decide +kernel
theorem dL_changed_535 : decode cL_changed 535 = .ok (.aload_n 0, 1) := by decide +kernel
theorem dL_changed_536 : decode cL_changed 536 = .ok (.iconst 0, 1) := by decide +kernel
theorem dL_changed_537 : decode cL_changed 537 = .ok (.invokestatic 121, 3) := by decide +kernel
theorem dL_changed_540 : decode cL_changed 540 = .ok (.iload_n 2, 1) := by decide +kernel
theorem dL_changed_541 : decode cL_changed 541 = .ok (.if_icmp .ne 17, 3) := by decide +kernel
theorem dL_changed_544 : decode cL_changed 544 = .ok (.aload_n 0, 1) := by decide +kernel
theorem dL_changed_545 : decode cL_changed 545 = .ok (.iload_n 1, 1) := by decide +kernel
theorem dL_changed_546 : decode cL_changed 546 = .ok (.iload 4, 2) := by decide +kernel
theorem dL_changed_548 : decode cL_changed 548 = .ok (.invokestatic 190, 3) := by decide +kernel
theorem dL_changed_551 : decode cL_changed 551 = .ok (.ifCond .eq 7, 3) := by decide +kernel
theorem dL_changed_554 : decode cL_changed 554 = .ok (.iconst 1, 1) := by decide +kernel
theorem dL_changed_555 : decode cL_changed 555 = .ok (.goto 4, 3) := by decide +kernel
theorem dL_changed_558 : decode cL_changed 558 = .ok (.iconst 0, 1) := by decide +kernel
theorem dL_changed_559 : decode cL_changed 559 = .ok (.ireturn, 1) := by decide +kernel
theorem dL_moved_0 : decode cL_moved 0 = .ok (.aload_n 0, 1) := by decide +kernel
theorem dL_moved_1 : decode cL_moved 1 = .ok (.bipush 7, 2) := by decide +kernel
theorem dL_moved_3 : decode cL_moved 3 = .ok (.invokestatic 115, 3) := by decide +kernel
theorem dL_moved_6 : decode cL_moved 6 = .ok (.istore_n 3, 1) := by decide +kernel
theorem dL_moved_7 : decode cL_moved 7 = .ok (.aload_n 0, 1) := by decide +kernel
theorem dL_moved_8 : decode cL_moved 8 = .ok (.bipush 6, 2) := by decide +kernel
theorem dL_moved_10 : decode cL_moved 10 = .ok (.invokestatic 115, 3) := by decide +kernel
theorem dL_moved_13 : decode cL_moved 13 = .ok (.istore 4, 2) := by decide +kernel
theorem dL_moved_15 : decode cL_moved 15 = .ok (.iload_n 1, 1) := by decide +kernel
theorem dL_moved_16 : decode cL_moved 16 = .ok (.bipush 64, 2) := by decide +kernel
theorem dL_moved_18 : decode cL_moved 18 = .ok (.idiv, 1) := by decide +kernel
theorem dL_moved_19 : decode cL_moved 19 = .ok (.iload 4, 2) := by decide +kernel
theorem dL_moved_21 : decode cL_moved 21 = .ok (.irem, 1) := by decide +kernel
theorem dL_moved_22 : decode cL_moved 22 = .ok (.istore 5, 2) := by decide +kernel
theorem dL_moved_24 : decode cL_moved 24 = .ok (.aload_n 0, 1) := by decide +kernel
theorem dL_moved_25 : decode cL_moved 25 = .ok (.iload 5, 2) := by decide +kernel
theorem dL_moved_27 : decode cL_moved 27 = .ok (.invokestatic 167, 3) := by decide +kernel
theorem dL_moved_30 : decode cL_moved 30 = .ok (.istore 6, 2) := by decide +kernel
theorem dL_moved_32 : decode cL_moved 32 = .ok (.iload 6, 2) := by decide +kernel
theorem dL_moved_34 : decode cL_moved 34 = .ok (.bipush (-60), 2) := by decide +kernel
theorem dL_moved_36 : decode cL_moved 36 = .ok (.if_icmp .lt 25, 3) := by decide +kernel
theorem dL_moved_39 : decode cL_moved 39 = .ok (.iload 6, 2) := by decide +kernel
theorem dL_moved_41 : decode cL_moved 41 = .ok (.bipush 60, 2) := by decide +kernel
theorem dL_moved_43 : decode cL_moved 43 = .ok (.if_icmp .gt 18, 3) := by decide +kernel
theorem dL_moved_46 : decode cL_moved 46 = .ok (.aload_n 0, 1) := by decide +kernel
theorem dL_moved_47 : decode cL_moved 47 = .ok (.iload 5, 2) := by decide +kernel
theorem dL_moved_49 : decode cL_moved 49 = .ok (.iload 6, 2) := by decide +kernel
theorem dL_moved_51 : decode cL_moved 51 = .ok (.invokestatic 139, 3) := by decide +kernel
theorem dL_moved_54 : decode cL_moved 54 = .ok (.ifCond .lt 7, 3) := by decide +kernel
theorem dL_moved_57 : decode cL_moved 57 = .ok (.iconst 1, 1) := by decide +kernel
theorem dL_moved_58 : decode cL_moved 58 = .ok (.goto 4, 3) := by decide +kernel
theorem dL_moved_61 : decode cL_moved 61 = .ok (.iconst 0, 1) := by decide +kernel
theorem dL_moved_62 : decode cL_moved 62 = .ok (.istore 7, 2) := by decide +kernel
theorem dL_moved_64 : decode cL_moved 64 = .ok (.aload_n 0, 1) := by decide +kernel
theorem dL_moved_65 : decode cL_moved 65 = .ok (.iconst 0, 1) := by decide +kernel
theorem dL_moved_66 : decode cL_moved 66 = .ok (.invokestatic 124, 3) := by decide +kernel
theorem dL_moved_69 : decode cL_moved 69 = .ok (.istore 8, 2) := by decide +kernel
theorem dL_moved_71 : decode cL_moved 71 = .ok (.iload 7, 2) := by decide +kernel
theorem dL_moved_73 : decode cL_moved 73 = .ok (.ifCond .eq 33, 3) := by decide +kernel
theorem dL_moved_76 : decode cL_moved 76 = .ok (.iload 8, 2) := by decide +kernel
theorem dL_moved_78 : decode cL_moved 78 = .ok (.iload_n 2, 1) := by decide +kernel
theorem dL_moved_79 : decode cL_moved 79 = .ok (.if_icmp .gt 27, 3) := by decide +kernel
theorem dL_moved_82 : decode cL_moved 82 = .ok (.iload 6, 2) := by decide +kernel
theorem dL_moved_84 : decode cL_moved 84 = .ok (.ifCond .eq 9, 3) := by decide +kernel
theorem dL_moved_87 : decode cL_moved 87 = .ok (.iload 8, 2) := by decide +kernel
theorem dL_moved_89 : decode cL_moved 89 = .ok (.iload_n 2, 1) := by decide +kernel
theorem dL_moved_90 : decode cL_moved 90 = .ok (.if_icmp .ge 16, 3) := by decide +kernel
theorem dL_moved_93 : decode cL_moved 93 = .ok (.aload_n 0, 1) := by decide +kernel
theorem dL_moved_94 : decode cL_moved 94 = .ok (.iconst 0, 1) := by decide +kernel
theorem dL_moved_95 : decode cL_moved 95 = .ok (.invokestatic 121, 3) := by decide +kernel
theorem dL_moved_98 : decode cL_moved 98 = .ok (.iload_n 3, 1) := by decide +kernel
theorem dL_moved_99 : decode cL_moved 99 = .ok (.if_icmp .ne 7, 3) := by decide +kernel
theorem dL_moved_102 : decode cL_moved 102 = .ok (.iconst 1, 1) := by decide +kernel
theorem dL_moved_103 : decode cL_moved 103 = .ok (.goto 4, 3) := by decide +kernel
theorem dL_moved_106 : decode cL_moved 106 = .ok (.iconst 0, 1) := by decide +kernel
theorem dL_moved_107 : decode cL_moved 107 = .ok (.istore 7, 2) := by decide +kernel
theorem dL_moved_109 : decode cL_moved 109 = .ok (.iload_n 1, 1) := by decide +kernel
theorem dL_moved_110 : decode cL_moved 110 = .ok (.sipush 256, 3) := by decide +kernel
theorem dL_moved_113 : decode cL_moved 113 = .ok (.idiv, 1) := by decide +kernel
theorem dL_moved_114 : decode cL_moved 114 = .ok (.bipush 25, 2) := by decide +kernel
theorem dL_moved_116 : decode cL_moved 116 = .ok (.irem, 1) := by decide +kernel
theorem dL_moved_117 : decode cL_moved 117 = .ok (.bipush 12, 2) := by decide +kernel
theorem dL_moved_119 : decode cL_moved 119 = .ok (.isub, 1) := by decide +kernel
theorem dL_moved_120 : decode cL_moved 120 = .ok (.istore 9, 2) := by decide +kernel
theorem dL_moved_122 : decode cL_moved 122 = .ok (.iload 7, 2) := by decide +kernel
theorem dL_moved_124 : decode cL_moved 124 = .ok (.ifCond .eq 98, 3) := by decide +kernel
theorem dL_moved_127 : decode cL_moved 127 = .ok (.aload_n 0, 1) := by decide +kernel
theorem dL_moved_128 : decode cL_moved 128 = .ok (.iload 5, 2) := by decide +kernel
theorem dL_moved_130 : decode cL_moved 130 = .ok (.iload 9, 2) := by decide +kernel
theorem dL_moved_132 : decode cL_moved 132 = .ok (.invokestatic 139, 3) := by decide +kernel
theorem dL_moved_135 : decode cL_moved 135 = .ok (.sipush (-1003), 3) := by decide +kernel
theorem dL_moved_138 : decode cL_moved 138 = .ok (.if_icmp .eq 84, 3) := by decide +kernel
theorem dL_moved_141 : decode cL_moved 141 = .ok (.aload_n 0, 1) := by decide +kernel
theorem dL_moved_142 : decode cL_moved 142 = .ok (.iconst 0, 1) := by decide +kernel
theorem dL_moved_143 : decode cL_moved 143 = .ok (.invokestatic 124, 3) := by decide +kernel
theorem dL_moved_146 : decode cL_moved 146 = .ok (.istore 10, 2) := by decide +kernel
theorem dL_moved_148 : decode cL_moved 148 = .ok (.iload 9, 2) := by decide +kernel
theorem dL_moved_150 : decode cL_moved 150 = .ok (.ifCond .ge 9, 3) := by decide +kernel
theorem dL_moved_153 : decode cL_moved 153 = .ok (.iload 9, 2) := by decide +kernel
theorem dL_moved_155 : decode cL_moved 155 = .ok (.ineg, 1) := by decide +kernel
theorem dL_moved_156 : decode cL_moved 156 = .ok (.goto 5, 3) := by decide +kernel
theorem dL_moved_159 : decode cL_moved 159 = .ok (.iload 9, 2) := by decide +kernel
theorem dL_moved_161 : decode cL_moved 161 = .ok (.istore 11, 2) := by decide +kernel
theorem dL_moved_163 : decode cL_moved 163 = .ok (.iload 6, 2) := by decide +kernel
theorem dL_moved_165 : decode cL_moved 165 = .ok (.ifCond .ge 9, 3) := by decide +kernel
theorem dL_moved_168 : decode cL_moved 168 = .ok (.iload 6, 2) := by decide +kernel
theorem dL_moved_170 : decode cL_moved 170 = .ok (.ineg, 1) := by decide +kernel
theorem dL_moved_171 : decode cL_moved 171 = .ok (.goto 5, 3) := by decide +kernel
theorem dL_moved_174 : decode cL_moved 174 = .ok (.iload 6, 2) := by decide +kernel
theorem dL_moved_176 : decode cL_moved 176 = .ok (.istore 12, 2) := by decide +kernel
theorem dL_moved_178 : decode cL_moved 178 = .ok (.iload 10, 2) := by decide +kernel
theorem dL_moved_180 : decode cL_moved 180 = .ok (.iload 8, 2) := by decide +kernel
theorem dL_moved_182 : decode cL_moved 182 = .ok (.if_icmp .lt 37, 3) := by decide +kernel
theorem dL_moved_185 : decode cL_moved 185 = .ok (.iload 10, 2) := by decide +kernel
theorem dL_moved_187 : decode cL_moved 187 = .ok (.iload 8, 2) := by decide +kernel
theorem dL_moved_189 : decode cL_moved 189 = .ok (.if_icmp .gt 17, 3) := by decide +kernel
theorem dL_moved_192 : decode cL_moved 192 = .ok (.iload 11, 2) := by decide +kernel
theorem dL_moved_194 : decode cL_moved 194 = .ok (.iload 12, 2) := by decide +kernel
theorem dL_moved_196 : decode cL_moved 196 = .ok (.if_icmp .gt 10, 3) := by decide +kernel
theorem dL_moved_199 : decode cL_moved 199 = .ok (.iload 9, 2) := by decide +kernel
theorem dL_moved_201 : decode cL_moved 201 = .ok (.iload 6, 2) := by decide +kernel
theorem dL_moved_203 : decode cL_moved 203 = .ok (.if_icmp .gt 16, 3) := by decide +kernel
theorem dL_moved_206 : decode cL_moved 206 = .ok (.aload_n 0, 1) := by decide +kernel
theorem dL_moved_207 : decode cL_moved 207 = .ok (.iconst 0, 1) := by decide +kernel
theorem dL_moved_208 : decode cL_moved 208 = .ok (.invokestatic 121, 3) := by decide +kernel
theorem dL_moved_211 : decode cL_moved 211 = .ok (.iload_n 3, 1) := by decide +kernel
theorem dL_moved_212 : decode cL_moved 212 = .ok (.if_icmp .ne 7, 3) := by decide +kernel
theorem dL_moved_215 : decode cL_moved 215 = .ok (.iconst 1, 1) := by decide +kernel
theorem dL_moved_216 : decode cL_moved 216 = .ok (.goto 4, 3) := by decide +kernel
theorem dL_moved_219 : decode cL_moved 219 = .ok (.iconst 0, 1) := by decide +kernel
theorem dL_moved_220 : decode cL_moved 220 = .ok (.istore 7, 2) := by decide +kernel
theorem dL_moved_222 : decode cL_moved 222 = .ok (.aload_n 0, 1) := by decide +kernel
theorem dL_moved_223 : decode cL_moved 223 = .ok (.invokevirtual 194, 3) := by decide +kernel
theorem dL_moved_226 : decode cL_moved 226 = .ok (.istore 10, 2) := by decide +kernel
theorem dL_moved_228 : decode cL_moved 228 = .ok (.iconst 0, 1) := by decide +kernel
theorem dL_moved_229 : decode cL_moved 229 = .ok (.istore 11, 2) := by decide +kernel
theorem dL_moved_231 : decode cL_moved 231 = .ok (.iconst 0, 1) := by decide +kernel
theorem dL_moved_232 : decode cL_moved 232 = .ok (.istore 12, 2) := by decide +kernel
theorem dL_moved_234 : decode cL_moved 234 = .ok (.iload 12, 2) := by decide +kernel
theorem dL_moved_236 : decode cL_moved 236 = .ok (.iload 4, 2) := by decide +kernel
theorem dL_moved_238 : decode cL_moved 238 = .ok (.if_icmp .ge 149, 3) := by decide +kernel
theorem dL_moved_241 : decode cL_moved 241 = .ok (.iload 7, 2) := by decide +kernel
theorem dL_moved_243 : decode cL_moved 243 = .ok (.ifCond .eq 144, 3) := by decide +kernel
theorem dL_moved_246 : decode cL_moved 246 = .ok (.iload 12, 2) := by decide +kernel
theorem dL_moved_248 : decode cL_moved 248 = .ok (.ifCond .ne 8, 3) := by decide +kernel
theorem dL_moved_251 : decode cL_moved 251 = .ok (.iload 10, 2) := by decide +kernel
theorem dL_moved_253 : decode cL_moved 253 = .ok (.goto 19, 3) := by decide +kernel
theorem dL_moved_256 : decode cL_moved 256 = .ok (.iload 12, 2) := by decide +kernel
theorem dL_moved_258 : decode cL_moved 258 = .ok (.iload 10, 2) := by decide +kernel
theorem dL_moved_260 : decode cL_moved 260 = .ok (.if_icmp .gt 10, 3) := by decide +kernel
theorem dL_moved_263 : decode cL_moved 263 = .ok (.iload 12, 2) := by decide +kernel
theorem dL_moved_265 : decode cL_moved 265 = .ok (.iconst 1, 1) := by decide +kernel
theorem dL_moved_266 : decode cL_moved 266 = .ok (.isub, 1) := by decide +kernel
theorem dL_moved_267 : decode cL_moved 267 = .ok (.goto 5, 3) := by decide +kernel
theorem dL_moved_270 : decode cL_moved 270 = .ok (.iload 12, 2) := by decide +kernel
theorem dL_moved_272 : decode cL_moved 272 = .ok (.istore 13, 2) := by decide +kernel
theorem dL_moved_274 : decode cL_moved 274 = .ok (.iconst 0, 1) := by decide +kernel
theorem dL_moved_275 : decode cL_moved 275 = .ok (.istore 14, 2) := by decide +kernel
theorem dL_moved_277 : decode cL_moved 277 = .ok (.iload 14, 2) := by decide +kernel
theorem dL_moved_279 : decode cL_moved 279 = .ok (.iload_n 3, 1) := by decide +kernel
theorem dL_moved_280 : decode cL_moved 280 = .ok (.if_icmp .ge 35, 3) := by decide +kernel
theorem dL_moved_283 : decode cL_moved 283 = .ok (.iload 7, 2) := by decide +kernel
theorem dL_moved_285 : decode cL_moved 285 = .ok (.ifCond .eq 21, 3) := by decide +kernel
theorem dL_moved_288 : decode cL_moved 288 = .ok (.aload_n 0, 1) := by decide +kernel
theorem dL_moved_289 : decode cL_moved 289 = .ok (.iload 13, 2) := by decide +kernel
theorem dL_moved_291 : decode cL_moved 291 = .ok (.iload 14, 2) := by decide +kernel
theorem dL_moved_293 : decode cL_moved 293 = .ok (.iconst (-1), 1) := by decide +kernel
theorem dL_moved_294 : decode cL_moved 294 = .ok (.invokestatic 135, 3) := by decide +kernel
theorem dL_moved_297 : decode cL_moved 297 = .ok (.bipush (-9), 2) := by decide +kernel
theorem dL_moved_299 : decode cL_moved 299 = .ok (.if_icmp .lt 7, 3) := by decide +kernel
theorem dL_moved_302 : decode cL_moved 302 = .ok (.iconst 1, 1) := by decide +kernel
theorem dL_moved_303 : decode cL_moved 303 = .ok (.goto 4, 3) := by decide +kernel
theorem dL_moved_306 : decode cL_moved 306 = .ok (.iconst 0, 1) := by decide +kernel
theorem dL_moved_307 : decode cL_moved 307 = .ok (.istore 7, 2) := by decide +kernel
theorem dL_moved_309 : decode cL_moved 309 = .ok (.iinc 14 1, 3) := by decide +kernel
theorem dL_moved_312 : decode cL_moved 312 = .ok (.goto (-35), 3) := by decide +kernel
theorem dL_moved_315 : decode cL_moved 315 = .ok (.aload_n 0, 1) := by decide +kernel
theorem dL_moved_316 : decode cL_moved 316 = .ok (.iconst 0, 1) := by decide +kernel
theorem dL_moved_317 : decode cL_moved 317 = .ok (.invokestatic 124, 3) := by decide +kernel
theorem dL_moved_320 : decode cL_moved 320 = .ok (.istore 14, 2) := by decide +kernel
theorem dL_moved_322 : decode cL_moved 322 = .ok (.iload 12, 2) := by decide +kernel
theorem dL_moved_324 : decode cL_moved 324 = .ok (.ifCond .ne 8, 3) := by decide +kernel
theorem dL_moved_327 : decode cL_moved 327 = .ok (.iload 14, 2) := by decide +kernel
theorem dL_moved_329 : decode cL_moved 329 = .ok (.goto 5, 3) := by decide +kernel
theorem dL_moved_332 : decode cL_moved 332 = .ok (.iload 11, 2) := by decide +kernel
theorem dL_moved_334 : decode cL_moved 334 = .ok (.istore 11, 2) := by decide +kernel
theorem dL_moved_336 : decode cL_moved 336 = .ok (.iload 7, 2) := by decide +kernel
theorem dL_moved_338 : decode cL_moved 338 = .ok (.ifCond .eq 40, 3) := by decide +kernel
theorem dL_moved_341 : decode cL_moved 341 = .ok (.iload 13, 2) := by decide +kernel
theorem dL_moved_343 : decode cL_moved 343 = .ok (.iload 10, 2) := by decide +kernel
theorem dL_moved_345 : decode cL_moved 345 = .ok (.if_icmp .ge 13, 3) := by decide +kernel
theorem dL_moved_348 : decode cL_moved 348 = .ok (.iload 14, 2) := by decide +kernel
theorem dL_moved_350 : decode cL_moved 350 = .ok (.iload 11, 2) := by decide +kernel
theorem dL_moved_352 : decode cL_moved 352 = .ok (.if_icmp .le 26, 3) := by decide +kernel
theorem dL_moved_355 : decode cL_moved 355 = .ok (.goto 10, 3) := by decide +kernel
theorem dL_moved_358 : decode cL_moved 358 = .ok (.iload 14, 2) := by decide +kernel
theorem dL_moved_360 : decode cL_moved 360 = .ok (.iload 11, 2) := by decide +kernel
theorem dL_moved_362 : decode cL_moved 362 = .ok (.if_icmp .lt 16, 3) := by decide +kernel
theorem dL_moved_365 : decode cL_moved 365 = .ok (.aload_n 0, 1) := by decide +kernel
theorem dL_moved_366 : decode cL_moved 366 = .ok (.iconst 0, 1) := by decide +kernel
theorem dL_moved_367 : decode cL_moved 367 = .ok (.invokestatic 121, 3) := by decide +kernel
theorem dL_moved_370 : decode cL_moved 370 = .ok (.iload_n 3, 1) := by decide +kernel
theorem dL_moved_371 : decode cL_moved 371 = .ok (.if_icmp .ne 7, 3) := by decide +kernel
theorem dL_moved_374 : decode cL_moved 374 = .ok (.iconst 1, 1) := by decide +kernel
theorem dL_moved_375 : decode cL_moved 375 = .ok (.goto 4, 3) := by decide +kernel
theorem dL_moved_378 : decode cL_moved 378 = .ok (.iconst 0, 1) := by decide +kernel
theorem dL_moved_379 : decode cL_moved 379 = .ok (.istore 7, 2) := by decide +kernel
theorem dL_moved_381 : decode cL_moved 381 = .ok (.iinc 12 1, 3) := by decide +kernel
theorem dL_moved_384 : decode cL_moved 384 = .ok (.goto (-150), 3) := by decide +kernel
theorem dL_moved_387 : decode cL_moved 387 = .ok (.iload 7, 2) := by decide +kernel
theorem dL_moved_389 : decode cL_moved 389 = .ok (.ifCond .eq 28, 3) := by decide +kernel
theorem dL_moved_392 : decode cL_moved 392 = .ok (.iload 10, 2) := by decide +kernel
theorem dL_moved_394 : decode cL_moved 394 = .ok (.ifCond .lt 23, 3) := by decide +kernel
theorem dL_moved_397 : decode cL_moved 397 = .ok (.iload 10, 2) := by decide +kernel
theorem dL_moved_399 : decode cL_moved 399 = .ok (.iload 4, 2) := by decide +kernel
theorem dL_moved_401 : decode cL_moved 401 = .ok (.if_icmp .ge 16, 3) := by decide +kernel
theorem dL_moved_404 : decode cL_moved 404 = .ok (.aload_n 0, 1) := by decide +kernel
theorem dL_moved_405 : decode cL_moved 405 = .ok (.iconst 0, 1) := by decide +kernel
theorem dL_moved_406 : decode cL_moved 406 = .ok (.invokestatic 124, 3) := by decide +kernel
theorem dL_moved_409 : decode cL_moved 409 = .ok (.iload_n 2, 1) := by decide +kernel
theorem dL_moved_410 : decode cL_moved 410 = .ok (.if_icmp .ne 7, 3) := by decide +kernel
theorem dL_moved_413 : decode cL_moved 413 = .ok (.iconst 1, 1) := by decide +kernel
theorem dL_moved_414 : decode cL_moved 414 = .ok (.goto 4, 3) := by decide +kernel
theorem dL_moved_417 : decode cL_moved 417 = .ok (.iconst 0, 1) := by decide +kernel
theorem dL_moved_418 : decode cL_moved 418 = .ok (.ireturn, 1) := by decide +kernel
theorem dL_scripts_0 : decode cL_scripts 0 = .ok (.aload_n 0, 1) := by decide +kernel
theorem dL_scripts_1 : decode cL_scripts 1 = .ok (.bipush 6, 2) := by decide +kernel
theorem dL_scripts_3 : decode cL_scripts 3 = .ok (.invokestatic 115, 3) := by decide +kernel
theorem dL_scripts_6 : decode cL_scripts 6 = .ok (.istore_n 2, 1) := by decide +kernel
theorem dL_scripts_7 : decode cL_scripts 7 = .ok (.aload_n 0, 1) := by decide +kernel
theorem dL_scripts_8 : decode cL_scripts 8 = .ok (.bipush 7, 2) := by decide +kernel
theorem dL_scripts_10 : decode cL_scripts 10 = .ok (.invokestatic 115, 3) := by decide +kernel
theorem dL_scripts_13 : decode cL_scripts 13 = .ok (.istore_n 3, 1) := by decide +kernel
theorem dL_scripts_14 : decode cL_scripts 14 = .ok (.iload_n 1, 1) := by decide +kernel
theorem dL_scripts_15 : decode cL_scripts 15 = .ok (.bipush 8, 2) := by decide +kernel
theorem dL_scripts_17 : decode cL_scripts 17 = .ok (.irem, 1) := by decide +kernel
theorem dL_scripts_18 : decode cL_scripts 18 = .ok (.istore 4, 2) := by decide +kernel
theorem dL_scripts_20 : decode cL_scripts 20 = .ok (.aload_n 0, 1) := by decide +kernel
theorem dL_scripts_21 : decode cL_scripts 21 = .ok (.iload 4, 2) := by decide +kernel
theorem dL_scripts_23 : decode cL_scripts 23 = .ok (.invokestatic 124, 3) := by decide +kernel
theorem dL_scripts_26 : decode cL_scripts 26 = .ok (.istore 5, 2) := by decide +kernel
theorem dL_scripts_28 : decode cL_scripts 28 = .ok (.iload_n 1, 1) := by decide +kernel
theorem dL_scripts_29 : decode cL_scripts 29 = .ok (.bipush 8, 2) := by decide +kernel
theorem dL_scripts_31 : decode cL_scripts 31 = .ok (.idiv, 1) := by decide +kernel
theorem dL_scripts_32 : decode cL_scripts 32 = .ok (.iload_n 2, 1) := by decide +kernel
theorem dL_scripts_33 : decode cL_scripts 33 = .ok (.irem, 1) := by decide +kernel
theorem dL_scripts_34 : decode cL_scripts 34 = .ok (.istore 6, 2) := by decide +kernel
theorem dL_scripts_36 : decode cL_scripts 36 = .ok (.iload_n 1, 1) := by decide +kernel
theorem dL_scripts_37 : decode cL_scripts 37 = .ok (.bipush 64, 2) := by decide +kernel
theorem dL_scripts_39 : decode cL_scripts 39 = .ok (.idiv, 1) := by decide +kernel
theorem dL_scripts_40 : decode cL_scripts 40 = .ok (.iload_n 3, 1) := by decide +kernel
theorem dL_scripts_41 : decode cL_scripts 41 = .ok (.bipush 10, 2) := by decide +kernel
theorem dL_scripts_43 : decode cL_scripts 43 = .ok (.if_icmp .ge 7, 3) := by decide +kernel
theorem dL_scripts_46 : decode cL_scripts 46 = .ok (.iload_n 3, 1) := by decide +kernel
theorem dL_scripts_47 : decode cL_scripts 47 = .ok (.goto 5, 3) := by decide +kernel
theorem dL_scripts_50 : decode cL_scripts 50 = .ok (.bipush 10, 2) := by decide +kernel
theorem dL_scripts_52 : decode cL_scripts 52 = .ok (.irem, 1) := by decide +kernel
theorem dL_scripts_53 : decode cL_scripts 53 = .ok (.istore 7, 2) := by decide +kernel
theorem dL_scripts_55 : decode cL_scripts 55 = .ok (.aload_n 0, 1) := by decide +kernel
theorem dL_scripts_56 : decode cL_scripts 56 = .ok (.iload 6, 2) := by decide +kernel
theorem dL_scripts_58 : decode cL_scripts 58 = .ok (.iload 7, 2) := by decide +kernel
theorem dL_scripts_60 : decode cL_scripts 60 = .ok (.iconst 0, 1) := by decide +kernel
theorem dL_scripts_61 : decode cL_scripts 61 = .ok (.invokestatic 155, 3) := by decide +kernel
theorem dL_scripts_64 : decode cL_scripts 64 = .ok (.istore 8, 2) := by decide +kernel
theorem dL_scripts_66 : decode cL_scripts 66 = .ok (.aload_n 0, 1) := by decide +kernel
theorem dL_scripts_67 : decode cL_scripts 67 = .ok (.iload 6, 2) := by decide +kernel
theorem dL_scripts_69 : decode cL_scripts 69 = .ok (.iload 7, 2) := by decide +kernel
theorem dL_scripts_71 : decode cL_scripts 71 = .ok (.iconst 1, 1) := by decide +kernel
theorem dL_scripts_72 : decode cL_scripts 72 = .ok (.invokestatic 155, 3) := by decide +kernel
theorem dL_scripts_75 : decode cL_scripts 75 = .ok (.istore 9, 2) := by decide +kernel
theorem dL_scripts_77 : decode cL_scripts 77 = .ok (.aload_n 0, 1) := by decide +kernel
theorem dL_scripts_78 : decode cL_scripts 78 = .ok (.iload_n 1, 1) := by decide +kernel
theorem dL_scripts_79 : decode cL_scripts 79 = .ok (.i2l, 1) := by decide +kernel
theorem dL_scripts_80 : decode cL_scripts 80 = .ok (.ldc2_w 197, 3) := by decide +kernel
theorem dL_scripts_83 : decode cL_scripts 83 = .ok (.lmul, 1) := by decide +kernel
theorem dL_scripts_84 : decode cL_scripts 84 = .ok (.bipush 6, 2) := by decide +kernel
theorem dL_scripts_86 : decode cL_scripts 86 = .ok (.invokestatic 176, 3) := by decide +kernel
theorem dL_scripts_89 : decode cL_scripts 89 = .ok (.istore 10, 2) := by decide +kernel
theorem dL_scripts_91 : decode cL_scripts 91 = .ok (.iload 5, 2) := by decide +kernel
theorem dL_scripts_93 : decode cL_scripts 93 = .ok (.sipush 999, 3) := by decide +kernel
theorem dL_scripts_96 : decode cL_scripts 96 = .ok (.if_icmp .gt 28, 3) := by decide +kernel
theorem dL_scripts_99 : decode cL_scripts 99 = .ok (.aload_n 0, 1) := by decide +kernel
theorem dL_scripts_100 : decode cL_scripts 100 = .ok (.iconst 1, 1) := by decide +kernel
theorem dL_scripts_101 : decode cL_scripts 101 = .ok (.ldc2_w 199, 3) := by decide +kernel
theorem dL_scripts_104 : decode cL_scripts 104 = .ok (.ldc2_w 201, 3) := by decide +kernel
theorem dL_scripts_107 : decode cL_scripts 107 = .ok (.iload 4, 2) := by decide +kernel
theorem dL_scripts_109 : decode cL_scripts 109 = .ok (.i2l, 1) := by decide +kernel
theorem dL_scripts_110 : decode cL_scripts 110 = .ok (.lmul, 1) := by decide +kernel
theorem dL_scripts_111 : decode cL_scripts 111 = .ok (.ladd, 1) := by decide +kernel
theorem dL_scripts_112 : decode cL_scripts 112 = .ok (.iload 5, 2) := by decide +kernel
theorem dL_scripts_114 : decode cL_scripts 114 = .ok (.i2l, 1) := by decide +kernel
theorem dL_scripts_115 : decode cL_scripts 115 = .ok (.ladd, 1) := by decide +kernel
theorem dL_scripts_116 : decode cL_scripts 116 = .ok (.invokestatic 170, 3) := by decide +kernel
theorem dL_scripts_119 : decode cL_scripts 119 = .ok (.bipush (-9), 2) := by decide +kernel
theorem dL_scripts_121 : decode cL_scripts 121 = .ok (.if_icmp .ne 190, 3) := by decide +kernel
theorem dL_scripts_124 : decode cL_scripts 124 = .ok (.iload 5, 2) := by decide +kernel
theorem dL_scripts_126 : decode cL_scripts 126 = .ok (.sipush 998, 3) := by decide +kernel
theorem dL_scripts_129 : decode cL_scripts 129 = .ok (.if_icmp .gt 26, 3) := by decide +kernel
theorem dL_scripts_132 : decode cL_scripts 132 = .ok (.aload_n 0, 1) := by decide +kernel
theorem dL_scripts_133 : decode cL_scripts 133 = .ok (.iconst 1, 1) := by decide +kernel
theorem dL_scripts_134 : decode cL_scripts 134 = .ok (.ldc2_w 203, 3) := by decide +kernel
theorem dL_scripts_137 : decode cL_scripts 137 = .ok (.ldc2_w 201, 3) := by decide +kernel
theorem dL_scripts_140 : decode cL_scripts 140 = .ok (.iload 4, 2) := by decide +kernel
theorem dL_scripts_142 : decode cL_scripts 142 = .ok (.i2l, 1) := by decide +kernel
theorem dL_scripts_143 : decode cL_scripts 143 = .ok (.lmul, 1) := by decide +kernel
theorem dL_scripts_144 : decode cL_scripts 144 = .ok (.ladd, 1) := by decide +kernel
theorem dL_scripts_145 : decode cL_scripts 145 = .ok (.iload 5, 2) := by decide +kernel
theorem dL_scripts_147 : decode cL_scripts 147 = .ok (.i2l, 1) := by decide +kernel
theorem dL_scripts_148 : decode cL_scripts 148 = .ok (.ladd, 1) := by decide +kernel
theorem dL_scripts_149 : decode cL_scripts 149 = .ok (.invokestatic 170, 3) := by decide +kernel
theorem dL_scripts_152 : decode cL_scripts 152 = .ok (.ifCond .ne 159, 3) := by decide +kernel
theorem dL_scripts_155 : decode cL_scripts 155 = .ok (.iload 8, 2) := by decide +kernel
theorem dL_scripts_157 : decode cL_scripts 157 = .ok (.bipush (-9), 2) := by decide +kernel
theorem dL_scripts_159 : decode cL_scripts 159 = .ok (.if_icmp .ne 33, 3) := by decide +kernel
theorem dL_scripts_162 : decode cL_scripts 162 = .ok (.aload_n 0, 1) := by decide +kernel
theorem dL_scripts_163 : decode cL_scripts 163 = .ok (.iconst 1, 1) := by decide +kernel
theorem dL_scripts_164 : decode cL_scripts 164 = .ok (.ldc2_w 205, 3) := by decide +kernel
theorem dL_scripts_167 : decode cL_scripts 167 = .ok (.ldc2_w 201, 3) := by decide +kernel
theorem dL_scripts_170 : decode cL_scripts 170 = .ok (.iload 6, 2) := by decide +kernel
theorem dL_scripts_172 : decode cL_scripts 172 = .ok (.i2l, 1) := by decide +kernel
theorem dL_scripts_173 : decode cL_scripts 173 = .ok (.lmul, 1) := by decide +kernel
theorem dL_scripts_174 : decode cL_scripts 174 = .ok (.ladd, 1) := by decide +kernel
theorem dL_scripts_175 : decode cL_scripts 175 = .ok (.ldc2_w 207, 3) := by decide +kernel
theorem dL_scripts_178 : decode cL_scripts 178 = .ok (.iload 7, 2) := by decide +kernel
theorem dL_scripts_180 : decode cL_scripts 180 = .ok (.i2l, 1) := by decide +kernel
theorem dL_scripts_181 : decode cL_scripts 181 = .ok (.lmul, 1) := by decide +kernel
theorem dL_scripts_182 : decode cL_scripts 182 = .ok (.ladd, 1) := by decide +kernel
theorem dL_scripts_183 : decode cL_scripts 183 = .ok (.invokestatic 170, 3) := by decide +kernel
theorem dL_scripts_186 : decode cL_scripts 186 = .ok (.ifCond .ne 125, 3) := by decide +kernel
theorem dL_scripts_189 : decode cL_scripts 189 = .ok (.goto 36, 3) := by decide +kernel
theorem dL_scripts_192 : decode cL_scripts 192 = .ok (.aload_n 0, 1) := by decide +kernel
theorem dL_scripts_193 : decode cL_scripts 193 = .ok (.iconst 1, 1) := by decide +kernel
theorem dL_scripts_194 : decode cL_scripts 194 = .ok (.ldc2_w 205, 3) := by decide +kernel
theorem dL_scripts_197 : decode cL_scripts 197 = .ok (.ldc2_w 201, 3) := by decide +kernel
theorem dL_scripts_200 : decode cL_scripts 200 = .ok (.iload 6, 2) := by decide +kernel
theorem dL_scripts_202 : decode cL_scripts 202 = .ok (.i2l, 1) := by decide +kernel
theorem dL_scripts_203 : decode cL_scripts 203 = .ok (.lmul, 1) := by decide +kernel
theorem dL_scripts_204 : decode cL_scripts 204 = .ok (.ladd, 1) := by decide +kernel
theorem dL_scripts_205 : decode cL_scripts 205 = .ok (.ldc2_w 207, 3) := by decide +kernel
theorem dL_scripts_208 : decode cL_scripts 208 = .ok (.iload 7, 2) := by decide +kernel
theorem dL_scripts_210 : decode cL_scripts 210 = .ok (.i2l, 1) := by decide +kernel
theorem dL_scripts_211 : decode cL_scripts 211 = .ok (.lmul, 1) := by decide +kernel
theorem dL_scripts_212 : decode cL_scripts 212 = .ok (.ladd, 1) := by decide +kernel
theorem dL_scripts_213 : decode cL_scripts 213 = .ok (.iload 8, 2) := by decide +kernel
theorem dL_scripts_215 : decode cL_scripts 215 = .ok (.i2l, 1) := by decide +kernel
theorem dL_scripts_216 : decode cL_scripts 216 = .ok (.ladd, 1) := by decide +kernel
theorem dL_scripts_217 : decode cL_scripts 217 = .ok (.invokestatic 170, 3) := by decide +kernel
theorem dL_scripts_220 : decode cL_scripts 220 = .ok (.bipush (-9), 2) := by decide +kernel
theorem dL_scripts_222 : decode cL_scripts 222 = .ok (.if_icmp .ne 89, 3) := by decide +kernel
theorem dL_scripts_225 : decode cL_scripts 225 = .ok (.aload_n 0, 1) := by decide +kernel
theorem dL_scripts_226 : decode cL_scripts 226 = .ok (.iconst 1, 1) := by decide +kernel
theorem dL_scripts_227 : decode cL_scripts 227 = .ok (.ldc2_w 209, 3) := by decide +kernel
theorem dL_scripts_230 : decode cL_scripts 230 = .ok (.ldc2_w 201, 3) := by decide +kernel
theorem dL_scripts_233 : decode cL_scripts 233 = .ok (.iload 6, 2) := by decide +kernel
theorem dL_scripts_235 : decode cL_scripts 235 = .ok (.i2l, 1) := by decide +kernel
theorem dL_scripts_236 : decode cL_scripts 236 = .ok (.lmul, 1) := by decide +kernel
theorem dL_scripts_237 : decode cL_scripts 237 = .ok (.ladd, 1) := by decide +kernel
theorem dL_scripts_238 : decode cL_scripts 238 = .ok (.ldc2_w 207, 3) := by decide +kernel
theorem dL_scripts_241 : decode cL_scripts 241 = .ok (.iload 7, 2) := by decide +kernel
theorem dL_scripts_243 : decode cL_scripts 243 = .ok (.i2l, 1) := by decide +kernel
theorem dL_scripts_244 : decode cL_scripts 244 = .ok (.lmul, 1) := by decide +kernel
theorem dL_scripts_245 : decode cL_scripts 245 = .ok (.ladd, 1) := by decide +kernel
theorem dL_scripts_246 : decode cL_scripts 246 = .ok (.iload 9, 2) := by decide +kernel
theorem dL_scripts_248 : decode cL_scripts 248 = .ok (.bipush (-9), 2) := by decide +kernel
theorem dL_scripts_250 : decode cL_scripts 250 = .ok (.if_icmp .ne 7, 3) := by decide +kernel
theorem dL_scripts_253 : decode cL_scripts 253 = .ok (.iconst 0, 1) := by decide +kernel
theorem dL_scripts_254 : decode cL_scripts 254 = .ok (.goto 5, 3) := by decide +kernel
theorem dL_scripts_257 : decode cL_scripts 257 = .ok (.iload 9, 2) := by decide +kernel
theorem dL_scripts_259 : decode cL_scripts 259 = .ok (.i2l, 1) := by decide +kernel
theorem dL_scripts_260 : decode cL_scripts 260 = .ok (.ladd, 1) := by decide +kernel
theorem dL_scripts_261 : decode cL_scripts 261 = .ok (.invokestatic 170, 3) := by decide +kernel
theorem dL_scripts_264 : decode cL_scripts 264 = .ok (.iload 9, 2) := by decide +kernel
theorem dL_scripts_266 : decode cL_scripts 266 = .ok (.bipush (-9), 2) := by decide +kernel
theorem dL_scripts_268 : decode cL_scripts 268 = .ok (.if_icmp .ne 7, 3) := by decide +kernel
theorem dL_scripts_271 : decode cL_scripts 271 = .ok (.iconst 0, 1) := by decide +kernel
theorem dL_scripts_272 : decode cL_scripts 272 = .ok (.goto 5, 3) := by decide +kernel
theorem dL_scripts_275 : decode cL_scripts 275 = .ok (.bipush (-9), 2) := by decide +kernel
theorem dL_scripts_277 : decode cL_scripts 277 = .ok (.if_icmp .ne 34, 3) := by decide +kernel
theorem dL_scripts_280 : decode cL_scripts 280 = .ok (.aload_n 0, 1) := by decide +kernel
theorem dL_scripts_281 : decode cL_scripts 281 = .ok (.iconst 1, 1) := by decide +kernel
theorem dL_scripts_282 : decode cL_scripts 282 = .ok (.ldc2_w 211, 3) := by decide +kernel
theorem dL_scripts_285 : decode cL_scripts 285 = .ok (.ldc2_w 201, 3) := by decide +kernel
theorem dL_scripts_288 : decode cL_scripts 288 = .ok (.iload 6, 2) := by decide +kernel
theorem dL_scripts_290 : decode cL_scripts 290 = .ok (.i2l, 1) := by decide +kernel
theorem dL_scripts_291 : decode cL_scripts 291 = .ok (.lmul, 1) := by decide +kernel
theorem dL_scripts_292 : decode cL_scripts 292 = .ok (.ladd, 1) := by decide +kernel
theorem dL_scripts_293 : decode cL_scripts 293 = .ok (.ldc2_w 207, 3) := by decide +kernel
theorem dL_scripts_296 : decode cL_scripts 296 = .ok (.iload 7, 2) := by decide +kernel
theorem dL_scripts_298 : decode cL_scripts 298 = .ok (.i2l, 1) := by decide +kernel
theorem dL_scripts_299 : decode cL_scripts 299 = .ok (.lmul, 1) := by decide +kernel
theorem dL_scripts_300 : decode cL_scripts 300 = .ok (.ladd, 1) := by decide +kernel
theorem dL_scripts_301 : decode cL_scripts 301 = .ok (.invokestatic 170, 3) := by decide +kernel
theorem dL_scripts_304 : decode cL_scripts 304 = .ok (.ifCond .ne 7, 3) := by decide +kernel
theorem dL_scripts_307 : decode cL_scripts 307 = .ok (.iconst 1, 1) := by decide +kernel
theorem dL_scripts_308 : decode cL_scripts 308 = .ok (.goto 4, 3) := by decide +kernel
theorem dL_scripts_311 : decode cL_scripts 311 = .ok (.iconst 0, 1) := by decide +kernel
theorem dL_scripts_312 : decode cL_scripts 312 = .ok (.istore 11, 2) := by decide +kernel
theorem dL_scripts_314 : decode cL_scripts 314 = .ok (.iload 11, 2) := by decide +kernel
theorem dL_scripts_316 : decode cL_scripts 316 = .ok (.ifCond .eq 162, 3) := by decide +kernel
theorem dL_scripts_319 : decode cL_scripts 319 = .ok (.aload_n 0, 1) := by decide +kernel
theorem dL_scripts_320 : decode cL_scripts 320 = .ok (.iconst 1, 1) := by decide +kernel
theorem dL_scripts_321 : decode cL_scripts 321 = .ok (.ldc2_w 213, 3) := by decide +kernel
theorem dL_scripts_324 : decode cL_scripts 324 = .ok (.invokestatic 170, 3) := by decide +kernel
theorem dL_scripts_327 : decode cL_scripts 327 = .ok (.ifCond .ne 151, 3) := by decide +kernel
theorem dL_scripts_330 : decode cL_scripts 330 = .ok (.aload_n 0, 1) := by decide +kernel
theorem dL_scripts_331 : decode cL_scripts 331 = .ok (.iconst 2, 1) := by decide +kernel
theorem dL_scripts_332 : decode cL_scripts 332 = .ok (.ldc2_w 215, 3) := by decide +kernel
theorem dL_scripts_335 : decode cL_scripts 335 = .ok (.invokestatic 170, 3) := by decide +kernel
theorem dL_scripts_338 : decode cL_scripts 338 = .ok (.iconst 1, 1) := by decide +kernel
theorem dL_scripts_339 : decode cL_scripts 339 = .ok (.if_icmp .ne 139, 3) := by decide +kernel
theorem dL_scripts_342 : decode cL_scripts 342 = .ok (.aload_n 0, 1) := by decide +kernel
theorem dL_scripts_343 : decode cL_scripts 343 = .ok (.iconst 1, 1) := by decide +kernel
theorem dL_scripts_344 : decode cL_scripts 344 = .ok (.ldc2_w 217, 3) := by decide +kernel
theorem dL_scripts_347 : decode cL_scripts 347 = .ok (.invokestatic 170, 3) := by decide +kernel
theorem dL_scripts_350 : decode cL_scripts 350 = .ok (.ifCond .ne 128, 3) := by decide +kernel
theorem dL_scripts_353 : decode cL_scripts 353 = .ok (.aload_n 0, 1) := by decide +kernel
theorem dL_scripts_354 : decode cL_scripts 354 = .ok (.iconst 1, 1) := by decide +kernel
theorem dL_scripts_355 : decode cL_scripts 355 = .ok (.ldc2_w 219, 3) := by decide +kernel
theorem dL_scripts_358 : decode cL_scripts 358 = .ok (.invokestatic 170, 3) := by decide +kernel
theorem dL_scripts_361 : decode cL_scripts 361 = .ok (.bipush (-9), 2) := by decide +kernel
theorem dL_scripts_363 : decode cL_scripts 363 = .ok (.if_icmp .ne 115, 3) := by decide +kernel
theorem dL_scripts_366 : decode cL_scripts 366 = .ok (.aload_n 0, 1) := by decide +kernel
theorem dL_scripts_367 : decode cL_scripts 367 = .ok (.iconst 1, 1) := by decide +kernel
theorem dL_scripts_368 : decode cL_scripts 368 = .ok (.ldc2_w 221, 3) := by decide +kernel
theorem dL_scripts_371 : decode cL_scripts 371 = .ok (.invokestatic 170, 3) := by decide +kernel
theorem dL_scripts_374 : decode cL_scripts 374 = .ok (.ifCond .ne 104, 3) := by decide +kernel
theorem dL_scripts_377 : decode cL_scripts 377 = .ok (.aload_n 0, 1) := by decide +kernel
theorem dL_scripts_378 : decode cL_scripts 378 = .ok (.iconst 1, 1) := by decide +kernel
theorem dL_scripts_379 : decode cL_scripts 379 = .ok (.ldc2_w 223, 3) := by decide +kernel
theorem dL_scripts_382 : decode cL_scripts 382 = .ok (.ldc2_w 201, 3) := by decide +kernel
theorem dL_scripts_385 : decode cL_scripts 385 = .ok (.iload_n 2, 1) := by decide +kernel
theorem dL_scripts_386 : decode cL_scripts 386 = .ok (.i2l, 1) := by decide +kernel
theorem dL_scripts_387 : decode cL_scripts 387 = .ok (.lmul, 1) := by decide +kernel
theorem dL_scripts_388 : decode cL_scripts 388 = .ok (.ladd, 1) := by decide +kernel
theorem dL_scripts_389 : decode cL_scripts 389 = .ok (.invokestatic 170, 3) := by decide +kernel
theorem dL_scripts_392 : decode cL_scripts 392 = .ok (.ifCond .ne 86, 3) := by decide +kernel
theorem dL_scripts_395 : decode cL_scripts 395 = .ok (.aload_n 0, 1) := by decide +kernel
theorem dL_scripts_396 : decode cL_scripts 396 = .ok (.iconst 1, 1) := by decide +kernel
theorem dL_scripts_397 : decode cL_scripts 397 = .ok (.ldc2_w 225, 3) := by decide +kernel
theorem dL_scripts_400 : decode cL_scripts 400 = .ok (.ldc2_w 207, 3) := by decide +kernel
theorem dL_scripts_403 : decode cL_scripts 403 = .ok (.iload_n 2, 1) := by decide +kernel
theorem dL_scripts_404 : decode cL_scripts 404 = .ok (.i2l, 1) := by decide +kernel
theorem dL_scripts_405 : decode cL_scripts 405 = .ok (.lmul, 1) := by decide +kernel
theorem dL_scripts_406 : decode cL_scripts 406 = .ok (.ladd, 1) := by decide +kernel
theorem dL_scripts_407 : decode cL_scripts 407 = .ok (.invokestatic 170, 3) := by decide +kernel
theorem dL_scripts_410 : decode cL_scripts 410 = .ok (.ifCond .ne 68, 3) := by decide +kernel
theorem dL_scripts_413 : decode cL_scripts 413 = .ok (.aload_n 0, 1) := by decide +kernel
theorem dL_scripts_414 : decode cL_scripts 414 = .ok (.iconst 1, 1) := by decide +kernel
theorem dL_scripts_415 : decode cL_scripts 415 = .ok (.ldc2_w 227, 3) := by decide +kernel
theorem dL_scripts_418 : decode cL_scripts 418 = .ok (.ldc2_w 207, 3) := by decide +kernel
theorem dL_scripts_421 : decode cL_scripts 421 = .ok (.iload_n 3, 1) := by decide +kernel
theorem dL_scripts_422 : decode cL_scripts 422 = .ok (.i2l, 1) := by decide +kernel
theorem dL_scripts_423 : decode cL_scripts 423 = .ok (.lmul, 1) := by decide +kernel
theorem dL_scripts_424 : decode cL_scripts 424 = .ok (.ladd, 1) := by decide +kernel
theorem dL_scripts_425 : decode cL_scripts 425 = .ok (.invokestatic 170, 3) := by decide +kernel
theorem dL_scripts_428 : decode cL_scripts 428 = .ok (.ifCond .ne 50, 3) := by decide +kernel
theorem dL_scripts_431 : decode cL_scripts 431 = .ok (.aload_n 0, 1) := by decide +kernel
theorem dL_scripts_432 : decode cL_scripts 432 = .ok (.iconst 3, 1) := by decide +kernel
theorem dL_scripts_433 : decode cL_scripts 433 = .ok (.ldc2_w 229, 3) := by decide +kernel
theorem dL_scripts_436 : decode cL_scripts 436 = .ok (.invokestatic 170, 3) := by decide +kernel
theorem dL_scripts_439 : decode cL_scripts 439 = .ok (.iconst 2, 1) := by decide +kernel
theorem dL_scripts_440 : decode cL_scripts 440 = .ok (.if_icmp .ne 38, 3) := by decide +kernel
theorem dL_scripts_443 : decode cL_scripts 443 = .ok (.aload_n 0, 1) := by decide +kernel
theorem dL_scripts_444 : decode cL_scripts 444 = .ok (.iconst 1, 1) := by decide +kernel
theorem dL_scripts_445 : decode cL_scripts 445 = .ok (.lconst 0, 1) := by decide +kernel
theorem dL_scripts_446 : decode cL_scripts 446 = .ok (.invokestatic 170, 3) := by decide +kernel
theorem dL_scripts_449 : decode cL_scripts 449 = .ok (.ifCond .ne 29, 3) := by decide +kernel
theorem dL_scripts_452 : decode cL_scripts 452 = .ok (.iload 10, 2) := by decide +kernel
theorem dL_scripts_454 : decode cL_scripts 454 = .ok (.ifCond .lt 24, 3) := by decide +kernel
theorem dL_scripts_457 : decode cL_scripts 457 = .ok (.iload 10, 2) := by decide +kernel
theorem dL_scripts_459 : decode cL_scripts 459 = .ok (.aload_n 0, 1) := by decide +kernel
theorem dL_scripts_460 : decode cL_scripts 460 = .ok (.iload_n 1, 1) := by decide +kernel
theorem dL_scripts_461 : decode cL_scripts 461 = .ok (.i2l, 1) := by decide +kernel
theorem dL_scripts_462 : decode cL_scripts 462 = .ok (.ldc2_w 197, 3) := by decide +kernel
theorem dL_scripts_465 : decode cL_scripts 465 = .ok (.lmul, 1) := by decide +kernel
theorem dL_scripts_466 : decode cL_scripts 466 = .ok (.bipush 6, 2) := by decide +kernel
theorem dL_scripts_468 : decode cL_scripts 468 = .ok (.invokestatic 176, 3) := by decide +kernel
theorem dL_scripts_471 : decode cL_scripts 471 = .ok (.if_icmp .ne 7, 3) := by decide +kernel
theorem dL_scripts_474 : decode cL_scripts 474 = .ok (.iconst 1, 1) := by decide +kernel
theorem dL_scripts_475 : decode cL_scripts 475 = .ok (.goto 4, 3) := by decide +kernel
theorem dL_scripts_478 : decode cL_scripts 478 = .ok (.iconst 0, 1) := by decide +kernel
theorem dL_scripts_479 : decode cL_scripts 479 = .ok (.ireturn, 1) := by decide +kernel
theorem dL_act_0 : decode cL_act 0 = .ok (.aload_n 0, 1) := by decide +kernel
theorem dL_act_1 : decode cL_act 1 = .ok (.bipush 6, 2) := by decide +kernel
theorem dL_act_3 : decode cL_act 3 = .ok (.invokestatic 115, 3) := by decide +kernel
theorem dL_act_6 : decode cL_act 6 = .ok (.istore_n 3, 1) := by decide +kernel
theorem dL_act_7 : decode cL_act 7 = .ok (.aload_n 0, 1) := by decide +kernel
theorem dL_act_8 : decode cL_act 8 = .ok (.bipush 7, 2) := by decide +kernel
theorem dL_act_10 : decode cL_act 10 = .ok (.invokestatic 115, 3) := by decide +kernel
theorem dL_act_13 : decode cL_act 13 = .ok (.istore 4, 2) := by decide +kernel
theorem dL_act_15 : decode cL_act 15 = .ok (.iload_n 2, 1) := by decide +kernel
theorem dL_act_16 : decode cL_act 16 = .ok (.iload_n 3, 1) := by decide +kernel
theorem dL_act_17 : decode cL_act 17 = .ok (.irem, 1) := by decide +kernel
theorem dL_act_18 : decode cL_act 18 = .ok (.istore 5, 2) := by decide +kernel
theorem dL_act_20 : decode cL_act 20 = .ok (.iload_n 2, 1) := by decide +kernel
theorem dL_act_21 : decode cL_act 21 = .ok (.bipush 8, 2) := by decide +kernel
theorem dL_act_23 : decode cL_act 23 = .ok (.idiv, 1) := by decide +kernel
theorem dL_act_24 : decode cL_act 24 = .ok (.iload 4, 2) := by decide +kernel
theorem dL_act_26 : decode cL_act 26 = .ok (.irem, 1) := by decide +kernel
theorem dL_act_27 : decode cL_act 27 = .ok (.istore 6, 2) := by decide +kernel
theorem dL_act_29 : decode cL_act 29 = .ok (.iload_n 1, 1) := by decide +kernel
theorem dL_act_30 : decode cL_act 30 = .ok (.bipush 16, 2) := by decide +kernel
theorem dL_act_32 : decode cL_act 32 = .ok (.irem, 1) := by decide +kernel
theorem dL_act_33 : decode cL_act 33 = .ok (.tableswitch 245 0 14 #[75, 75, 75, 75, 75, 122, 139, 152, 168, 182, 189, 189, 206, 224, 240], 75) := by decide +kernel
theorem dL_act_108 : decode cL_act 108 = .ok (.aload_n 0, 1) := by decide +kernel
theorem dL_act_109 : decode cL_act 109 = .ok (.iload 5, 2) := by decide +kernel
theorem dL_act_111 : decode cL_act 111 = .ok (.iload 6, 2) := by decide +kernel
theorem dL_act_113 : decode cL_act 113 = .ok (.iload_n 2, 1) := by decide +kernel
theorem dL_act_114 : decode cL_act 114 = .ok (.sipush 128, 3) := by decide +kernel
theorem dL_act_117 : decode cL_act 117 = .ok (.idiv, 1) := by decide +kernel
theorem dL_act_118 : decode cL_act 118 = .ok (.iconst 5, 1) := by decide +kernel
theorem dL_act_119 : decode cL_act 119 = .ok (.irem, 1) := by decide +kernel
theorem dL_act_120 : decode cL_act 120 = .ok (.ifCond .ne 8, 3) := by decide +kernel
theorem dL_act_123 : decode cL_act 123 = .ok (.bipush 99, 2) := by decide +kernel
theorem dL_act_125 : decode cL_act 125 = .ok (.goto 26, 3) := by decide +kernel
theorem dL_act_128 : decode cL_act 128 = .ok (.iload_n 2, 1) := by decide +kernel
theorem dL_act_129 : decode cL_act 129 = .ok (.sipush 128, 3) := by decide +kernel
theorem dL_act_132 : decode cL_act 132 = .ok (.idiv, 1) := by decide +kernel
theorem dL_act_133 : decode cL_act 133 = .ok (.iconst 5, 1) := by decide +kernel
theorem dL_act_134 : decode cL_act 134 = .ok (.irem, 1) := by decide +kernel
theorem dL_act_135 : decode cL_act 135 = .ok (.iconst 1, 1) := by decide +kernel
theorem dL_act_136 : decode cL_act 136 = .ok (.if_icmp .ne 7, 3) := by decide +kernel
theorem dL_act_139 : decode cL_act 139 = .ok (.iconst (-1), 1) := by decide +kernel
theorem dL_act_140 : decode cL_act 140 = .ok (.goto 11, 3) := by decide +kernel
theorem dL_act_143 : decode cL_act 143 = .ok (.iload_n 2, 1) := by decide +kernel
theorem dL_act_144 : decode cL_act 144 = .ok (.sipush 1024, 3) := by decide +kernel
theorem dL_act_147 : decode cL_act 147 = .ok (.idiv, 1) := by decide +kernel
theorem dL_act_148 : decode cL_act 148 = .ok (.bipush 61, 2) := by decide +kernel
theorem dL_act_150 : decode cL_act 150 = .ok (.irem, 1) := by decide +kernel
theorem dL_act_151 : decode cL_act 151 = .ok (.invokestatic 135, 3) := by decide +kernel
theorem dL_act_154 : decode cL_act 154 = .ok (.ireturn, 1) := by decide +kernel
theorem dL_act_155 : decode cL_act 155 = .ok (.aload_n 0, 1) := by decide +kernel
theorem dL_act_156 : decode cL_act 156 = .ok (.iload 5, 2) := by decide +kernel
theorem dL_act_158 : decode cL_act 158 = .ok (.iload_n 2, 1) := by decide +kernel
theorem dL_act_159 : decode cL_act 159 = .ok (.bipush 8, 2) := by decide +kernel
theorem dL_act_161 : decode cL_act 161 = .ok (.idiv, 1) := by decide +kernel
theorem dL_act_162 : decode cL_act 162 = .ok (.bipush 25, 2) := by decide +kernel
theorem dL_act_164 : decode cL_act 164 = .ok (.irem, 1) := by decide +kernel
theorem dL_act_165 : decode cL_act 165 = .ok (.bipush 12, 2) := by decide +kernel
theorem dL_act_167 : decode cL_act 167 = .ok (.isub, 1) := by decide +kernel
theorem dL_act_168 : decode cL_act 168 = .ok (.invokestatic 139, 3) := by decide +kernel
theorem dL_act_171 : decode cL_act 171 = .ok (.ireturn, 1) := by decide +kernel
theorem dL_act_172 : decode cL_act 172 = .ok (.aload_n 0, 1) := by decide +kernel
theorem dL_act_173 : decode cL_act 173 = .ok (.iload 5, 2) := by decide +kernel
theorem dL_act_175 : decode cL_act 175 = .ok (.iload_n 2, 1) := by decide +kernel
theorem dL_act_176 : decode cL_act 176 = .ok (.bipush 8, 2) := by decide +kernel
theorem dL_act_178 : decode cL_act 178 = .ok (.idiv, 1) := by decide +kernel
theorem dL_act_179 : decode cL_act 179 = .ok (.iload_n 3, 1) := by decide +kernel
theorem dL_act_180 : decode cL_act 180 = .ok (.irem, 1) := by decide +kernel
theorem dL_act_181 : decode cL_act 181 = .ok (.invokestatic 142, 3) := by decide +kernel
theorem dL_act_184 : decode cL_act 184 = .ok (.ireturn, 1) := by decide +kernel
theorem dL_act_185 : decode cL_act 185 = .ok (.aload_n 0, 1) := by decide +kernel
theorem dL_act_186 : decode cL_act 186 = .ok (.iload_n 2, 1) := by decide +kernel
theorem dL_act_187 : decode cL_act 187 = .ok (.iconst 3, 1) := by decide +kernel
theorem dL_act_188 : decode cL_act 188 = .ok (.irem, 1) := by decide +kernel
theorem dL_act_189 : decode cL_act 189 = .ok (.ifCond .le 7, 3) := by decide +kernel
theorem dL_act_192 : decode cL_act 192 = .ok (.iconst 1, 1) := by decide +kernel
theorem dL_act_193 : decode cL_act 193 = .ok (.goto 4, 3) := by decide +kernel
theorem dL_act_196 : decode cL_act 196 = .ok (.iconst 0, 1) := by decide +kernel
theorem dL_act_197 : decode cL_act 197 = .ok (.invokestatic 145, 3) := by decide +kernel
theorem dL_act_200 : decode cL_act 200 = .ok (.ireturn, 1) := by decide +kernel
theorem dL_act_201 : decode cL_act 201 = .ok (.aload_n 0, 1) := by decide +kernel
theorem dL_act_202 : decode cL_act 202 = .ok (.iload_n 2, 1) := by decide +kernel
theorem dL_act_203 : decode cL_act 203 = .ok (.bipush 8, 2) := by decide +kernel
theorem dL_act_205 : decode cL_act 205 = .ok (.idiv, 1) := by decide +kernel
theorem dL_act_206 : decode cL_act 206 = .ok (.iload 4, 2) := by decide +kernel
theorem dL_act_208 : decode cL_act 208 = .ok (.iconst 1, 1) := by decide +kernel
theorem dL_act_209 : decode cL_act 209 = .ok (.iadd, 1) := by decide +kernel
theorem dL_act_210 : decode cL_act 210 = .ok (.irem, 1) := by decide +kernel
theorem dL_act_211 : decode cL_act 211 = .ok (.invokestatic 149, 3) := by decide +kernel
theorem dL_act_214 : decode cL_act 214 = .ok (.ireturn, 1) := by decide +kernel
theorem dL_act_215 : decode cL_act 215 = .ok (.aload_n 0, 1) := by decide +kernel
theorem dL_act_216 : decode cL_act 216 = .ok (.iload 6, 2) := by decide +kernel
theorem dL_act_218 : decode cL_act 218 = .ok (.invokestatic 152, 3) := by decide +kernel
theorem dL_act_221 : decode cL_act 221 = .ok (.ireturn, 1) := by decide +kernel
theorem dL_act_222 : decode cL_act 222 = .ok (.aload_n 0, 1) := by decide +kernel
theorem dL_act_223 : decode cL_act 223 = .ok (.iload_n 2, 1) := by decide +kernel
theorem dL_act_224 : decode cL_act 224 = .ok (.iconst 2, 1) := by decide +kernel
theorem dL_act_225 : decode cL_act 225 = .ok (.irem, 1) := by decide +kernel
theorem dL_act_226 : decode cL_act 226 = .ok (.iconst 1, 1) := by decide +kernel
theorem dL_act_227 : decode cL_act 227 = .ok (.iload_n 2, 1) := by decide +kernel
theorem dL_act_228 : decode cL_act 228 = .ok (.bipush 8, 2) := by decide +kernel
theorem dL_act_230 : decode cL_act 230 = .ok (.idiv, 1) := by decide +kernel
theorem dL_act_231 : decode cL_act 231 = .ok (.bipush 24, 2) := by decide +kernel
theorem dL_act_233 : decode cL_act 233 = .ok (.irem, 1) := by decide +kernel
theorem dL_act_234 : decode cL_act 234 = .ok (.iadd, 1) := by decide +kernel
theorem dL_act_235 : decode cL_act 235 = .ok (.invokestatic 131, 3) := by decide +kernel
theorem dL_act_238 : decode cL_act 238 = .ok (.ireturn, 1) := by decide +kernel
theorem dL_act_239 : decode cL_act 239 = .ok (.aload_n 0, 1) := by decide +kernel
theorem dL_act_240 : decode cL_act 240 = .ok (.iconst 2, 1) := by decide +kernel
theorem dL_act_241 : decode cL_act 241 = .ok (.iload_n 2, 1) := by decide +kernel
theorem dL_act_242 : decode cL_act 242 = .ok (.iconst 2, 1) := by decide +kernel
theorem dL_act_243 : decode cL_act 243 = .ok (.irem, 1) := by decide +kernel
theorem dL_act_244 : decode cL_act 244 = .ok (.iadd, 1) := by decide +kernel
theorem dL_act_245 : decode cL_act 245 = .ok (.iconst 1, 1) := by decide +kernel
theorem dL_act_246 : decode cL_act 246 = .ok (.iload_n 2, 1) := by decide +kernel
theorem dL_act_247 : decode cL_act 247 = .ok (.bipush 8, 2) := by decide +kernel
theorem dL_act_249 : decode cL_act 249 = .ok (.idiv, 1) := by decide +kernel
theorem dL_act_250 : decode cL_act 250 = .ok (.iconst 5, 1) := by decide +kernel
theorem dL_act_251 : decode cL_act 251 = .ok (.irem, 1) := by decide +kernel
theorem dL_act_252 : decode cL_act 252 = .ok (.iadd, 1) := by decide +kernel
theorem dL_act_253 : decode cL_act 253 = .ok (.invokestatic 131, 3) := by decide +kernel
theorem dL_act_256 : decode cL_act 256 = .ok (.ireturn, 1) := by decide +kernel
theorem dL_act_257 : decode cL_act 257 = .ok (.aload_n 0, 1) := by decide +kernel
theorem dL_act_258 : decode cL_act 258 = .ok (.iconst 4, 1) := by decide +kernel
theorem dL_act_259 : decode cL_act 259 = .ok (.iload_n 2, 1) := by decide +kernel
theorem dL_act_260 : decode cL_act 260 = .ok (.iconst 2, 1) := by decide +kernel
theorem dL_act_261 : decode cL_act 261 = .ok (.irem, 1) := by decide +kernel
theorem dL_act_262 : decode cL_act 262 = .ok (.iadd, 1) := by decide +kernel
theorem dL_act_263 : decode cL_act 263 = .ok (.iload_n 2, 1) := by decide +kernel
theorem dL_act_264 : decode cL_act 264 = .ok (.bipush 8, 2) := by decide +kernel
theorem dL_act_266 : decode cL_act 266 = .ok (.idiv, 1) := by decide +kernel
theorem dL_act_267 : decode cL_act 267 = .ok (.iconst 2, 1) := by decide +kernel
theorem dL_act_268 : decode cL_act 268 = .ok (.irem, 1) := by decide +kernel
theorem dL_act_269 : decode cL_act 269 = .ok (.invokestatic 131, 3) := by decide +kernel
theorem dL_act_272 : decode cL_act 272 = .ok (.ireturn, 1) := by decide +kernel
theorem dL_act_273 : decode cL_act 273 = .ok (.aload_n 0, 1) := by decide +kernel
theorem dL_act_274 : decode cL_act 274 = .ok (.invokestatic 118, 3) := by decide +kernel
theorem dL_act_277 : decode cL_act 277 = .ok (.ireturn, 1) := by decide +kernel
theorem dL_act_278 : decode cL_act 278 = .ok (.iload_n 2, 1) := by decide +kernel
theorem dL_act_279 : decode cL_act 279 = .ok (.iconst 2, 1) := by decide +kernel
theorem dL_act_280 : decode cL_act 280 = .ok (.irem, 1) := by decide +kernel
theorem dL_act_281 : decode cL_act 281 = .ok (.ifCond .ne 11, 3) := by decide +kernel
theorem dL_act_284 : decode cL_act 284 = .ok (.aload_n 0, 1) := by decide +kernel
theorem dL_act_285 : decode cL_act 285 = .ok (.iconst 1, 1) := by decide +kernel
theorem dL_act_286 : decode cL_act 286 = .ok (.invokestatic 180, 3) := by decide +kernel
theorem dL_act_289 : decode cL_act 289 = .ok (.goto 8, 3) := by decide +kernel
theorem dL_act_292 : decode cL_act 292 = .ok (.aload_n 0, 1) := by decide +kernel
theorem dL_act_293 : decode cL_act 293 = .ok (.iconst 1, 1) := by decide +kernel
theorem dL_act_294 : decode cL_act 294 = .ok (.invokestatic 121, 3) := by decide +kernel
theorem dL_act_297 : decode cL_act 297 = .ok (.ireturn, 1) := by decide +kernel
theorem dL_law_0 : decode cL_law 0 = .ok (.new 8, 3) := by decide +kernel
theorem dL_law_3 : decode cL_law 3 = .ok (.dup, 1) := by decide +kernel
theorem dL_law_4 : decode cL_law 4 = .ok (.invokespecial 231, 3) := by decide +kernel
theorem dL_law_7 : decode cL_law 7 = .ok (.astore_n 1, 1) := by decide +kernel
theorem dL_law_8 : decode cL_law 8 = .ok (.new 8, 3) := by decide +kernel
theorem dL_law_11 : decode cL_law 11 = .ok (.dup, 1) := by decide +kernel
theorem dL_law_12 : decode cL_law 12 = .ok (.invokespecial 231, 3) := by decide +kernel
theorem dL_law_15 : decode cL_law 15 = .ok (.astore_n 2, 1) := by decide +kernel
theorem dL_law_16 : decode cL_law 16 = .ok (.aload_n 1, 1) := by decide +kernel
theorem dL_law_17 : decode cL_law 17 = .ok (.invokevirtual 108, 3) := by decide +kernel
theorem dL_law_20 : decode cL_law 20 = .ok (.ifCond .ne 57, 3) := by decide +kernel
theorem dL_law_23 : decode cL_law 23 = .ok (.aload_n 1, 1) := by decide +kernel
theorem dL_law_24 : decode cL_law 24 = .ok (.bipush 6, 2) := by decide +kernel
theorem dL_law_26 : decode cL_law 26 = .ok (.invokestatic 115, 3) := by decide +kernel
theorem dL_law_29 : decode cL_law 29 = .ok (.iconst 1, 1) := by decide +kernel
theorem dL_law_30 : decode cL_law 30 = .ok (.if_icmp .ne 47, 3) := by decide +kernel
theorem dL_law_33 : decode cL_law 33 = .ok (.aload_n 1, 1) := by decide +kernel
theorem dL_law_34 : decode cL_law 34 = .ok (.iconst 0, 1) := by decide +kernel
theorem dL_law_35 : decode cL_law 35 = .ok (.invokestatic 124, 3) := by decide +kernel
theorem dL_law_38 : decode cL_law 38 = .ok (.ifCond .ne 39, 3) := by decide +kernel
theorem dL_law_41 : decode cL_law 41 = .ok (.aload_n 1, 1) := by decide +kernel
theorem dL_law_42 : decode cL_law 42 = .ok (.invokestatic 118, 3) := by decide +kernel
theorem dL_law_45 : decode cL_law 45 = .ok (.sipush (-1003), 3) := by decide +kernel
theorem dL_law_48 : decode cL_law 48 = .ok (.if_icmp .ne 29, 3) := by decide +kernel
theorem dL_law_51 : decode cL_law 51 = .ok (.aload_n 2, 1) := by decide +kernel
theorem dL_law_52 : decode cL_law 52 = .ok (.invokestatic 232, 3) := by decide +kernel
theorem dL_law_55 : decode cL_law 55 = .ok (.ifCond .eq 22, 3) := by decide +kernel
theorem dL_law_58 : decode cL_law 58 = .ok (.aload_n 1, 1) := by decide +kernel
theorem dL_law_59 : decode cL_law 59 = .ok (.aload_n 2, 1) := by decide +kernel
theorem dL_law_60 : decode cL_law 60 = .ok (.invokestatic 235, 3) := by decide +kernel
theorem dL_law_63 : decode cL_law 63 = .ok (.ifCond .eq 14, 3) := by decide +kernel
theorem dL_law_66 : decode cL_law 66 = .ok (.aload_n 1, 1) := by decide +kernel
theorem dL_law_67 : decode cL_law 67 = .ok (.invokestatic 183, 3) := by decide +kernel
theorem dL_law_70 : decode cL_law 70 = .ok (.ifCond .eq 7, 3) := by decide +kernel
theorem dL_law_73 : decode cL_law 73 = .ok (.iconst 1, 1) := by decide +kernel
theorem dL_law_74 : decode cL_law 74 = .ok (.goto 4, 3) := by decide +kernel
theorem dL_law_77 : decode cL_law 77 = .ok (.iconst 0, 1) := by decide +kernel
theorem dL_law_78 : decode cL_law 78 = .ok (.istore_n 3, 1) := by decide +kernel
theorem dL_law_79 : decode cL_law 79 = .ok (.iconst 0, 1) := by decide +kernel
theorem dL_law_80 : decode cL_law 80 = .ok (.istore 4, 2) := by decide +kernel
theorem dL_law_82 : decode cL_law 82 = .ok (.iload 4, 2) := by decide +kernel
theorem dL_law_84 : decode cL_law 84 = .ok (.iconst 2, 1) := by decide +kernel
theorem dL_law_85 : decode cL_law 85 = .ok (.if_icmp .ge 262, 3) := by decide +kernel
theorem dL_law_88 : decode cL_law 88 = .ok (.iload_n 3, 1) := by decide +kernel
theorem dL_law_89 : decode cL_law 89 = .ok (.ifCond .eq 258, 3) := by decide +kernel
theorem dL_law_92 : decode cL_law 92 = .ok (.aload_n 1, 1) := by decide +kernel
theorem dL_law_93 : decode cL_law 93 = .ok (.aload_n 2, 1) := by decide +kernel
theorem dL_law_94 : decode cL_law 94 = .ok (.aload_n 0, 1) := by decide +kernel
theorem dL_law_95 : decode cL_law 95 = .ok (.bipush 50, 2) := by decide +kernel
theorem dL_law_97 : decode cL_law 97 = .ok (.iload 4, 2) := by decide +kernel
theorem dL_law_99 : decode cL_law 99 = .ok (.imul, 1) := by decide +kernel
theorem dL_law_100 : decode cL_law 100 = .ok (.invokestatic 239, 3) := by decide +kernel
theorem dL_law_103 : decode cL_law 103 = .ok (.ifCond .eq 29, 3) := by decide +kernel
theorem dL_law_106 : decode cL_law 106 = .ok (.aload_n 2, 1) := by decide +kernel
theorem dL_law_107 : decode cL_law 107 = .ok (.invokestatic 232, 3) := by decide +kernel
theorem dL_law_110 : decode cL_law 110 = .ok (.ifCond .eq 22, 3) := by decide +kernel
theorem dL_law_113 : decode cL_law 113 = .ok (.aload_n 1, 1) := by decide +kernel
theorem dL_law_114 : decode cL_law 114 = .ok (.aload_n 2, 1) := by decide +kernel
theorem dL_law_115 : decode cL_law 115 = .ok (.invokestatic 235, 3) := by decide +kernel
theorem dL_law_118 : decode cL_law 118 = .ok (.ifCond .eq 14, 3) := by decide +kernel
theorem dL_law_121 : decode cL_law 121 = .ok (.aload_n 1, 1) := by decide +kernel
theorem dL_law_122 : decode cL_law 122 = .ok (.invokestatic 183, 3) := by decide +kernel
theorem dL_law_125 : decode cL_law 125 = .ok (.ifCond .eq 7, 3) := by decide +kernel
theorem dL_law_128 : decode cL_law 128 = .ok (.iconst 1, 1) := by decide +kernel
theorem dL_law_129 : decode cL_law 129 = .ok (.goto 4, 3) := by decide +kernel
theorem dL_law_132 : decode cL_law 132 = .ok (.iconst 0, 1) := by decide +kernel
theorem dL_law_133 : decode cL_law 133 = .ok (.istore_n 3, 1) := by decide +kernel
theorem dL_law_134 : decode cL_law 134 = .ok (.iconst 0, 1) := by decide +kernel
theorem dL_law_135 : decode cL_law 135 = .ok (.istore 5, 2) := by decide +kernel
theorem dL_law_137 : decode cL_law 137 = .ok (.iload 5, 2) := by decide +kernel
theorem dL_law_139 : decode cL_law 139 = .ok (.bipush 12, 2) := by decide +kernel
theorem dL_law_141 : decode cL_law 141 = .ok (.if_icmp .ge 200, 3) := by decide +kernel
theorem dL_law_144 : decode cL_law 144 = .ok (.iload_n 3, 1) := by decide +kernel
theorem dL_law_145 : decode cL_law 145 = .ok (.ifCond .eq 196, 3) := by decide +kernel
theorem dL_law_148 : decode cL_law 148 = .ok (.aload_n 0, 1) := by decide +kernel
theorem dL_law_149 : decode cL_law 149 = .ok (.bipush 50, 2) := by decide +kernel
theorem dL_law_151 : decode cL_law 151 = .ok (.iload 4, 2) := by decide +kernel
theorem dL_law_153 : decode cL_law 153 = .ok (.imul, 1) := by decide +kernel
theorem dL_law_154 : decode cL_law 154 = .ok (.bipush 25, 2) := by decide +kernel
theorem dL_law_156 : decode cL_law 156 = .ok (.iadd, 1) := by decide +kernel
theorem dL_law_157 : decode cL_law 157 = .ok (.iconst 2, 1) := by decide +kernel
theorem dL_law_158 : decode cL_law 158 = .ok (.iload 5, 2) := by decide +kernel
theorem dL_law_160 : decode cL_law 160 = .ok (.imul, 1) := by decide +kernel
theorem dL_law_161 : decode cL_law 161 = .ok (.iadd, 1) := by decide +kernel
theorem dL_law_162 : decode cL_law 162 = .ok (.invokestatic 97, 3) := by decide +kernel
theorem dL_law_165 : decode cL_law 165 = .ok (.istore 6, 2) := by decide +kernel
theorem dL_law_167 : decode cL_law 167 = .ok (.aload_n 0, 1) := by decide +kernel
theorem dL_law_168 : decode cL_law 168 = .ok (.bipush 50, 2) := by decide +kernel
theorem dL_law_170 : decode cL_law 170 = .ok (.iload 4, 2) := by decide +kernel
theorem dL_law_172 : decode cL_law 172 = .ok (.imul, 1) := by decide +kernel
theorem dL_law_173 : decode cL_law 173 = .ok (.bipush 26, 2) := by decide +kernel
theorem dL_law_175 : decode cL_law 175 = .ok (.iadd, 1) := by decide +kernel
theorem dL_law_176 : decode cL_law 176 = .ok (.iconst 2, 1) := by decide +kernel
theorem dL_law_177 : decode cL_law 177 = .ok (.iload 5, 2) := by decide +kernel
theorem dL_law_179 : decode cL_law 179 = .ok (.imul, 1) := by decide +kernel
theorem dL_law_180 : decode cL_law 180 = .ok (.iadd, 1) := by decide +kernel
theorem dL_law_181 : decode cL_law 181 = .ok (.invokestatic 97, 3) := by decide +kernel
theorem dL_law_184 : decode cL_law 184 = .ok (.istore 7, 2) := by decide +kernel
theorem dL_law_186 : decode cL_law 186 = .ok (.aload_n 1, 1) := by decide +kernel
theorem dL_law_187 : decode cL_law 187 = .ok (.iload 6, 2) := by decide +kernel
theorem dL_law_189 : decode cL_law 189 = .ok (.iload 7, 2) := by decide +kernel
theorem dL_law_191 : decode cL_law 191 = .ok (.invokestatic 243, 3) := by decide +kernel
theorem dL_law_194 : decode cL_law 194 = .ok (.aload_n 2, 1) := by decide +kernel
theorem dL_law_195 : decode cL_law 195 = .ok (.iload 6, 2) := by decide +kernel
theorem dL_law_197 : decode cL_law 197 = .ok (.iload 7, 2) := by decide +kernel
theorem dL_law_199 : decode cL_law 199 = .ok (.invokestatic 243, 3) := by decide +kernel
theorem dL_law_202 : decode cL_law 202 = .ok (.if_icmp .ne 22, 3) := by decide +kernel
theorem dL_law_205 : decode cL_law 205 = .ok (.aload_n 2, 1) := by decide +kernel
theorem dL_law_206 : decode cL_law 206 = .ok (.invokestatic 232, 3) := by decide +kernel
theorem dL_law_209 : decode cL_law 209 = .ok (.ifCond .eq 15, 3) := by decide +kernel
theorem dL_law_212 : decode cL_law 212 = .ok (.aload_n 1, 1) := by decide +kernel
theorem dL_law_213 : decode cL_law 213 = .ok (.aload_n 2, 1) := by decide +kernel
theorem dL_law_214 : decode cL_law 214 = .ok (.invokestatic 235, 3) := by decide +kernel
theorem dL_law_217 : decode cL_law 217 = .ok (.ifCond .eq 7, 3) := by decide +kernel
theorem dL_law_220 : decode cL_law 220 = .ok (.iconst 1, 1) := by decide +kernel
theorem dL_law_221 : decode cL_law 221 = .ok (.goto 4, 3) := by decide +kernel
theorem dL_law_224 : decode cL_law 224 = .ok (.iconst 0, 1) := by decide +kernel
theorem dL_law_225 : decode cL_law 225 = .ok (.istore_n 3, 1) := by decide +kernel
theorem dL_law_226 : decode cL_law 226 = .ok (.iload 5, 2) := by decide +kernel
theorem dL_law_228 : decode cL_law 228 = .ok (.iconst 4, 1) := by decide +kernel
theorem dL_law_229 : decode cL_law 229 = .ok (.irem, 1) := by decide +kernel
theorem dL_law_230 : decode cL_law 230 = .ok (.iconst 3, 1) := by decide +kernel
theorem dL_law_231 : decode cL_law 231 = .ok (.if_icmp .ne 104, 3) := by decide +kernel
theorem dL_law_234 : decode cL_law 234 = .ok (.iload_n 3, 1) := by decide +kernel
theorem dL_law_235 : decode cL_law 235 = .ok (.ifCond .eq 100, 3) := by decide +kernel
theorem dL_law_238 : decode cL_law 238 = .ok (.aload_n 1, 1) := by decide +kernel
theorem dL_law_239 : decode cL_law 239 = .ok (.bipush 7, 2) := by decide +kernel
theorem dL_law_241 : decode cL_law 241 = .ok (.invokestatic 115, 3) := by decide +kernel
theorem dL_law_244 : decode cL_law 244 = .ok (.istore 8, 2) := by decide +kernel
theorem dL_law_246 : decode cL_law 246 = .ok (.aload_n 1, 1) := by decide +kernel
theorem dL_law_247 : decode cL_law 247 = .ok (.invokestatic 183, 3) := by decide +kernel
theorem dL_law_250 : decode cL_law 250 = .ok (.ifCond .eq 83, 3) := by decide +kernel
theorem dL_law_253 : decode cL_law 253 = .ok (.aload_n 1, 1) := by decide +kernel
theorem dL_law_254 : decode cL_law 254 = .ok (.iload 6, 2) := by decide +kernel
theorem dL_law_256 : decode cL_law 256 = .ok (.invokestatic 246, 3) := by decide +kernel
theorem dL_law_259 : decode cL_law 259 = .ok (.ifCond .eq 74, 3) := by decide +kernel
theorem dL_law_262 : decode cL_law 262 = .ok (.aload_n 2, 1) := by decide +kernel
theorem dL_law_263 : decode cL_law 263 = .ok (.iconst 0, 1) := by decide +kernel
theorem dL_law_264 : decode cL_law 264 = .ok (.invokestatic 180, 3) := by decide +kernel
theorem dL_law_267 : decode cL_law 267 = .ok (.iload 8, 2) := by decide +kernel
theorem dL_law_269 : decode cL_law 269 = .ok (.if_icmp .ne 64, 3) := by decide +kernel
theorem dL_law_272 : decode cL_law 272 = .ok (.aload_n 1, 1) := by decide +kernel
theorem dL_law_273 : decode cL_law 273 = .ok (.iload 7, 2) := by decide +kernel
theorem dL_law_275 : decode cL_law 275 = .ok (.invokestatic 250, 3) := by decide +kernel
theorem dL_law_278 : decode cL_law 278 = .ok (.ifCond .eq 55, 3) := by decide +kernel
theorem dL_law_281 : decode cL_law 281 = .ok (.aload_n 1, 1) := by decide +kernel
theorem dL_law_282 : decode cL_law 282 = .ok (.iconst 0, 1) := by decide +kernel
theorem dL_law_283 : decode cL_law 283 = .ok (.invokestatic 180, 3) := by decide +kernel
theorem dL_law_286 : decode cL_law 286 = .ok (.iload 8, 2) := by decide +kernel
theorem dL_law_288 : decode cL_law 288 = .ok (.if_icmp .ne 45, 3) := by decide +kernel
theorem dL_law_291 : decode cL_law 291 = .ok (.aload_n 1, 1) := by decide +kernel
theorem dL_law_292 : decode cL_law 292 = .ok (.iconst 0, 1) := by decide +kernel
theorem dL_law_293 : decode cL_law 293 = .ok (.invokestatic 121, 3) := by decide +kernel
theorem dL_law_296 : decode cL_law 296 = .ok (.iload 8, 2) := by decide +kernel
theorem dL_law_298 : decode cL_law 298 = .ok (.if_icmp .ne 35, 3) := by decide +kernel
theorem dL_law_301 : decode cL_law 301 = .ok (.aload_n 2, 1) := by decide +kernel
theorem dL_law_302 : decode cL_law 302 = .ok (.iconst 0, 1) := by decide +kernel
theorem dL_law_303 : decode cL_law 303 = .ok (.invokestatic 121, 3) := by decide +kernel
theorem dL_law_306 : decode cL_law 306 = .ok (.iload 8, 2) := by decide +kernel
theorem dL_law_308 : decode cL_law 308 = .ok (.if_icmp .ne 25, 3) := by decide +kernel
theorem dL_law_311 : decode cL_law 311 = .ok (.aload_n 1, 1) := by decide +kernel
theorem dL_law_312 : decode cL_law 312 = .ok (.invokestatic 118, 3) := by decide +kernel
theorem dL_law_315 : decode cL_law 315 = .ok (.sipush (-1003), 3) := by decide +kernel
theorem dL_law_318 : decode cL_law 318 = .ok (.if_icmp .ne 15, 3) := by decide +kernel
theorem dL_law_321 : decode cL_law 321 = .ok (.aload_n 1, 1) := by decide +kernel
theorem dL_law_322 : decode cL_law 322 = .ok (.aload_n 2, 1) := by decide +kernel
theorem dL_law_323 : decode cL_law 323 = .ok (.invokestatic 235, 3) := by decide +kernel
theorem dL_law_326 : decode cL_law 326 = .ok (.ifCond .eq 7, 3) := by decide +kernel
theorem dL_law_329 : decode cL_law 329 = .ok (.iconst 1, 1) := by decide +kernel
theorem dL_law_330 : decode cL_law 330 = .ok (.goto 4, 3) := by decide +kernel
theorem dL_law_333 : decode cL_law 333 = .ok (.iconst 0, 1) := by decide +kernel
theorem dL_law_334 : decode cL_law 334 = .ok (.istore_n 3, 1) := by decide +kernel
theorem dL_law_335 : decode cL_law 335 = .ok (.iinc 5 1, 3) := by decide +kernel
theorem dL_law_338 : decode cL_law 338 = .ok (.goto (-201), 3) := by decide +kernel
theorem dL_law_341 : decode cL_law 341 = .ok (.iinc 4 1, 3) := by decide +kernel
theorem dL_law_344 : decode cL_law 344 = .ok (.goto (-262), 3) := by decide +kernel
theorem dL_law_347 : decode cL_law 347 = .ok (.iload_n 3, 1) := by decide +kernel
theorem dL_law_348 : decode cL_law 348 = .ok (.ireturn, 1) := by decide +kernel
