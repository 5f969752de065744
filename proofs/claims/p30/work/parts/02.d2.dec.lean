theorem dL_tryReport_0 : decode cL_tryReport 0 = .ok (.aload_n 0, 1) := by decide +kernel
theorem dL_tryReport_1 : decode cL_tryReport 1 = .ok (.iload_n 1, 1) := by decide +kernel
theorem dL_tryReport_2 : decode cL_tryReport 2 = .ok (.iload_n 2, 1) := by decide +kernel
theorem dL_tryReport_3 : decode cL_tryReport 3 = .ok (.iload_n 3, 1) := by decide +kernel
theorem dL_tryReport_4 : decode cL_tryReport 4 = .ok (.invokevirtual 7, 3) := by decide +kernel
theorem dL_tryReport_7 : decode cL_tryReport 7 = .ok (.ireturn, 1) := by decide +kernel
theorem dL_tryReport_8 : decode cL_tryReport 8 = .ok (.astore 4, 2) := by decide +kernel
theorem dL_tryReport_10 : decode cL_tryReport 10 = .ok (.ldc 15, 2) := by decide +kernel
theorem dL_tryReport_12 : decode cL_tryReport 12 = .ok (.ireturn, 1) := by decide +kernel
theorem dL_tryReport_13 : decode cL_tryReport 13 = .ok (.astore 4, 2) := by decide +kernel
theorem dL_tryReport_15 : decode cL_tryReport 15 = .ok (.ldc 18, 2) := by decide +kernel
theorem dL_tryReport_17 : decode cL_tryReport 17 = .ok (.ireturn, 1) := by decide +kernel
theorem dL_trySee_0 : decode cL_trySee 0 = .ok (.aload_n 0, 1) := by decide +kernel
theorem dL_trySee_1 : decode cL_trySee 1 = .ok (.iload_n 1, 1) := by decide +kernel
theorem dL_trySee_2 : decode cL_trySee 2 = .ok (.iload_n 2, 1) := by decide +kernel
theorem dL_trySee_3 : decode cL_trySee 3 = .ok (.iload_n 3, 1) := by decide +kernel
theorem dL_trySee_4 : decode cL_trySee 4 = .ok (.iload 4, 2) := by decide +kernel
theorem dL_trySee_6 : decode cL_trySee 6 = .ok (.invokevirtual 19, 3) := by decide +kernel
theorem dL_trySee_9 : decode cL_trySee 9 = .ok (.ireturn, 1) := by decide +kernel
theorem dL_trySee_10 : decode cL_trySee 10 = .ok (.astore 5, 2) := by decide +kernel
theorem dL_trySee_12 : decode cL_trySee 12 = .ok (.ldc 15, 2) := by decide +kernel
theorem dL_trySee_14 : decode cL_trySee 14 = .ok (.ireturn, 1) := by decide +kernel
theorem dL_trySee_15 : decode cL_trySee 15 = .ok (.astore 5, 2) := by decide +kernel
theorem dL_trySee_17 : decode cL_trySee 17 = .ok (.ldc 18, 2) := by decide +kernel
theorem dL_trySee_19 : decode cL_trySee 19 = .ok (.ireturn, 1) := by decide +kernel
theorem dL_tryScript_0 : decode cL_tryScript 0 = .ok (.aload_n 0, 1) := by decide +kernel
theorem dL_tryScript_1 : decode cL_tryScript 1 = .ok (.iload_n 1, 1) := by decide +kernel
theorem dL_tryScript_2 : decode cL_tryScript 2 = .ok (.lload_n 2, 1) := by decide +kernel
theorem dL_tryScript_3 : decode cL_tryScript 3 = .ok (.invokevirtual 23, 3) := by decide +kernel
theorem dL_tryScript_6 : decode cL_tryScript 6 = .ok (.ireturn, 1) := by decide +kernel
theorem dL_tryScript_7 : decode cL_tryScript 7 = .ok (.astore 4, 2) := by decide +kernel
theorem dL_tryScript_9 : decode cL_tryScript 9 = .ok (.ldc 18, 2) := by decide +kernel
theorem dL_tryScript_11 : decode cL_tryScript 11 = .ok (.ireturn, 1) := by decide +kernel
theorem dL_trySimulate_0 : decode cL_trySimulate 0 = .ok (.aload_n 0, 1) := by decide +kernel
theorem dL_trySimulate_1 : decode cL_trySimulate 1 = .ok (.lload_n 1, 1) := by decide +kernel
theorem dL_trySimulate_2 : decode cL_trySimulate 2 = .ok (.iload_n 3, 1) := by decide +kernel
theorem dL_trySimulate_3 : decode cL_trySimulate 3 = .ok (.invokevirtual 27, 3) := by decide +kernel
theorem dL_trySimulate_6 : decode cL_trySimulate 6 = .ok (.ireturn, 1) := by decide +kernel
theorem dL_trySimulate_7 : decode cL_trySimulate 7 = .ok (.astore 4, 2) := by decide +kernel
theorem dL_trySimulate_9 : decode cL_trySimulate 9 = .ok (.ldc 18, 2) := by decide +kernel
theorem dL_trySimulate_11 : decode cL_trySimulate 11 = .ok (.ireturn, 1) := by decide +kernel
theorem dL_tryAppend_0 : decode cL_tryAppend 0 = .ok (.aload_n 0, 1) := by decide +kernel
theorem dL_tryAppend_1 : decode cL_tryAppend 1 = .ok (.iload_n 1, 1) := by decide +kernel
theorem dL_tryAppend_2 : decode cL_tryAppend 2 = .ok (.invokevirtual 31, 3) := by decide +kernel
theorem dL_tryAppend_5 : decode cL_tryAppend 5 = .ok (.ireturn, 1) := by decide +kernel
theorem dL_tryAppend_6 : decode cL_tryAppend 6 = .ok (.astore_n 2, 1) := by decide +kernel
theorem dL_tryAppend_7 : decode cL_tryAppend 7 = .ok (.ldc 18, 2) := by decide +kernel
theorem dL_tryAppend_9 : decode cL_tryAppend 9 = .ok (.ireturn, 1) := by decide +kernel
theorem dL_tryAppend_10 : decode cL_tryAppend 10 = .ok (.astore_n 2, 1) := by decide +kernel
theorem dL_tryAppend_11 : decode cL_tryAppend 11 = .ok (.ldc 37, 2) := by decide +kernel
theorem dL_tryAppend_13 : decode cL_tryAppend 13 = .ok (.ireturn, 1) := by decide +kernel
theorem dL_tryAbout_0 : decode cL_tryAbout 0 = .ok (.aload_n 0, 1) := by decide +kernel
theorem dL_tryAbout_1 : decode cL_tryAbout 1 = .ok (.iload_n 1, 1) := by decide +kernel
theorem dL_tryAbout_2 : decode cL_tryAbout 2 = .ok (.invokevirtual 38, 3) := by decide +kernel
theorem dL_tryAbout_5 : decode cL_tryAbout 5 = .ok (.ireturn, 1) := by decide +kernel
theorem dL_tryAbout_6 : decode cL_tryAbout 6 = .ok (.astore_n 2, 1) := by decide +kernel
theorem dL_tryAbout_7 : decode cL_tryAbout 7 = .ok (.ldc 18, 2) := by decide +kernel
theorem dL_tryAbout_9 : decode cL_tryAbout 9 = .ok (.ireturn, 1) := by decide +kernel
theorem dL_tryRoad_0 : decode cL_tryRoad 0 = .ok (.aload_n 0, 1) := by decide +kernel
theorem dL_tryRoad_1 : decode cL_tryRoad 1 = .ok (.iload_n 1, 1) := by decide +kernel
theorem dL_tryRoad_2 : decode cL_tryRoad 2 = .ok (.iload_n 2, 1) := by decide +kernel
theorem dL_tryRoad_3 : decode cL_tryRoad 3 = .ok (.invokevirtual 41, 3) := by decide +kernel
theorem dL_tryRoad_6 : decode cL_tryRoad 6 = .ok (.ireturn, 1) := by decide +kernel
theorem dL_tryRoad_7 : decode cL_tryRoad 7 = .ok (.astore_n 3, 1) := by decide +kernel
theorem dL_tryRoad_8 : decode cL_tryRoad 8 = .ok (.ldc 15, 2) := by decide +kernel
theorem dL_tryRoad_10 : decode cL_tryRoad 10 = .ok (.ireturn, 1) := by decide +kernel
theorem dL_tryNeighbor_0 : decode cL_tryNeighbor 0 = .ok (.aload_n 0, 1) := by decide +kernel
theorem dL_tryNeighbor_1 : decode cL_tryNeighbor 1 = .ok (.iload_n 1, 1) := by decide +kernel
theorem dL_tryNeighbor_2 : decode cL_tryNeighbor 2 = .ok (.iload_n 2, 1) := by decide +kernel
theorem dL_tryNeighbor_3 : decode cL_tryNeighbor 3 = .ok (.invokevirtual 45, 3) := by decide +kernel
theorem dL_tryNeighbor_6 : decode cL_tryNeighbor 6 = .ok (.ireturn, 1) := by decide +kernel
theorem dL_tryNeighbor_7 : decode cL_tryNeighbor 7 = .ok (.astore_n 3, 1) := by decide +kernel
theorem dL_tryNeighbor_8 : decode cL_tryNeighbor 8 = .ok (.ldc 15, 2) := by decide +kernel
theorem dL_tryNeighbor_10 : decode cL_tryNeighbor 10 = .ok (.ireturn, 1) := by decide +kernel
theorem dL_tryNeighbor_11 : decode cL_tryNeighbor 11 = .ok (.astore_n 3, 1) := by decide +kernel
theorem dL_tryNeighbor_12 : decode cL_tryNeighbor 12 = .ok (.ldc 18, 2) := by decide +kernel
theorem dL_tryNeighbor_14 : decode cL_tryNeighbor 14 = .ok (.ireturn, 1) := by decide +kernel
theorem dL_tryFound_0 : decode cL_tryFound 0 = .ok (.aload_n 0, 1) := by decide +kernel
theorem dL_tryFound_1 : decode cL_tryFound 1 = .ok (.invokevirtual 48, 3) := by decide +kernel
theorem dL_tryFound_4 : decode cL_tryFound 4 = .ok (.ireturn, 1) := by decide +kernel
theorem dL_tryFound_5 : decode cL_tryFound 5 = .ok (.astore_n 1, 1) := by decide +kernel
theorem dL_tryFound_6 : decode cL_tryFound 6 = .ok (.ldc 37, 2) := by decide +kernel
theorem dL_tryFound_8 : decode cL_tryFound 8 = .ok (.ireturn, 1) := by decide +kernel
theorem dL_tryLay_0 : decode cL_tryLay 0 = .ok (.aload_n 0, 1) := by decide +kernel
theorem dL_tryLay_1 : decode cL_tryLay 1 = .ok (.iload_n 1, 1) := by decide +kernel
theorem dL_tryLay_2 : decode cL_tryLay 2 = .ok (.iload_n 2, 1) := by decide +kernel
theorem dL_tryLay_3 : decode cL_tryLay 3 = .ok (.iload_n 3, 1) := by decide +kernel
theorem dL_tryLay_4 : decode cL_tryLay 4 = .ok (.invokevirtual 52, 3) := by decide +kernel
theorem dL_tryLay_7 : decode cL_tryLay 7 = .ok (.ireturn, 1) := by decide +kernel
theorem dL_tryLay_8 : decode cL_tryLay 8 = .ok (.astore 4, 2) := by decide +kernel
theorem dL_tryLay_10 : decode cL_tryLay 10 = .ok (.ldc 15, 2) := by decide +kernel
theorem dL_tryLay_12 : decode cL_tryLay 12 = .ok (.ireturn, 1) := by decide +kernel
theorem dL_tryLay_13 : decode cL_tryLay 13 = .ok (.astore 4, 2) := by decide +kernel
theorem dL_tryLay_15 : decode cL_tryLay 15 = .ok (.ldc 18, 2) := by decide +kernel
theorem dL_tryLay_17 : decode cL_tryLay 17 = .ok (.ireturn, 1) := by decide +kernel
theorem dL_tryLay_18 : decode cL_tryLay 18 = .ok (.astore 4, 2) := by decide +kernel
theorem dL_tryLay_20 : decode cL_tryLay 20 = .ok (.ldc 37, 2) := by decide +kernel
theorem dL_tryLay_22 : decode cL_tryLay 22 = .ok (.ireturn, 1) := by decide +kernel
theorem dL_tryTear_0 : decode cL_tryTear 0 = .ok (.aload_n 0, 1) := by decide +kernel
theorem dL_tryTear_1 : decode cL_tryTear 1 = .ok (.iload_n 1, 1) := by decide +kernel
theorem dL_tryTear_2 : decode cL_tryTear 2 = .ok (.iload_n 2, 1) := by decide +kernel
theorem dL_tryTear_3 : decode cL_tryTear 3 = .ok (.invokevirtual 56, 3) := by decide +kernel
theorem dL_tryTear_6 : decode cL_tryTear 6 = .ok (.ireturn, 1) := by decide +kernel
theorem dL_tryTear_7 : decode cL_tryTear 7 = .ok (.astore_n 3, 1) := by decide +kernel
theorem dL_tryTear_8 : decode cL_tryTear 8 = .ok (.ldc 15, 2) := by decide +kernel
theorem dL_tryTear_10 : decode cL_tryTear 10 = .ok (.ireturn, 1) := by decide +kernel
theorem dL_tryTear_11 : decode cL_tryTear 11 = .ok (.astore_n 3, 1) := by decide +kernel
theorem dL_tryTear_12 : decode cL_tryTear 12 = .ok (.ldc 37, 2) := by decide +kernel
theorem dL_tryTear_14 : decode cL_tryTear 14 = .ok (.ireturn, 1) := by decide +kernel
theorem dL_trySeeAll_0 : decode cL_trySeeAll 0 = .ok (.aload_n 0, 1) := by decide +kernel
theorem dL_trySeeAll_1 : decode cL_trySeeAll 1 = .ok (.invokevirtual 59, 3) := by decide +kernel
theorem dL_trySeeAll_4 : decode cL_trySeeAll 4 = .ok (.ireturn, 1) := by decide +kernel
theorem dL_trySeeAll_5 : decode cL_trySeeAll 5 = .ok (.astore_n 1, 1) := by decide +kernel
theorem dL_trySeeAll_6 : decode cL_trySeeAll 6 = .ok (.ldc 37, 2) := by decide +kernel
theorem dL_trySeeAll_8 : decode cL_trySeeAll 8 = .ok (.ireturn, 1) := by decide +kernel
theorem dL_tryForget_0 : decode cL_tryForget 0 = .ok (.aload_n 0, 1) := by decide +kernel
theorem dL_tryForget_1 : decode cL_tryForget 1 = .ok (.iload_n 1, 1) := by decide +kernel
theorem dL_tryForget_2 : decode cL_tryForget 2 = .ok (.iload_n 2, 1) := by decide +kernel
theorem dL_tryForget_3 : decode cL_tryForget 3 = .ok (.invokevirtual 62, 3) := by decide +kernel
theorem dL_tryForget_6 : decode cL_tryForget 6 = .ok (.ireturn, 1) := by decide +kernel
theorem dL_tryForget_7 : decode cL_tryForget 7 = .ok (.astore_n 3, 1) := by decide +kernel
theorem dL_tryForget_8 : decode cL_tryForget 8 = .ok (.ldc 15, 2) := by decide +kernel
theorem dL_tryForget_10 : decode cL_tryForget 10 = .ok (.ireturn, 1) := by decide +kernel
theorem dL_tryForget_11 : decode cL_tryForget 11 = .ok (.astore_n 3, 1) := by decide +kernel
theorem dL_tryForget_12 : decode cL_tryForget 12 = .ok (.ldc 18, 2) := by decide +kernel
theorem dL_tryForget_14 : decode cL_tryForget 14 = .ok (.ireturn, 1) := by decide +kernel
theorem dL_tryUndo_0 : decode cL_tryUndo 0 = .ok (.aload_n 0, 1) := by decide +kernel
theorem dL_tryUndo_1 : decode cL_tryUndo 1 = .ok (.invokevirtual 65, 3) := by decide +kernel
theorem dL_tryUndo_4 : decode cL_tryUndo 4 = .ok (.ireturn, 1) := by decide +kernel
theorem dL_tryUndo_5 : decode cL_tryUndo 5 = .ok (.astore_n 1, 1) := by decide +kernel
theorem dL_tryUndo_6 : decode cL_tryUndo 6 = .ok (.ldc 37, 2) := by decide +kernel
theorem dL_tryUndo_8 : decode cL_tryUndo 8 = .ok (.ireturn, 1) := by decide +kernel
theorem dL_tryInventions_0 : decode cL_tryInventions 0 = .ok (.aload_n 0, 1) := by decide +kernel
theorem dL_tryInventions_1 : decode cL_tryInventions 1 = .ok (.iload_n 1, 1) := by decide +kernel
theorem dL_tryInventions_2 : decode cL_tryInventions 2 = .ok (.invokevirtual 68, 3) := by decide +kernel
theorem dL_tryInventions_5 : decode cL_tryInventions 5 = .ok (.ireturn, 1) := by decide +kernel
theorem dL_tryInventions_6 : decode cL_tryInventions 6 = .ok (.astore_n 2, 1) := by decide +kernel
theorem dL_tryInventions_7 : decode cL_tryInventions 7 = .ok (.ldc 18, 2) := by decide +kernel
theorem dL_tryInventions_9 : decode cL_tryInventions 9 = .ok (.ireturn, 1) := by decide +kernel
theorem dL_tryInvented_0 : decode cL_tryInvented 0 = .ok (.aload_n 0, 1) := by decide +kernel
theorem dL_tryInvented_1 : decode cL_tryInvented 1 = .ok (.iload_n 1, 1) := by decide +kernel
theorem dL_tryInvented_2 : decode cL_tryInvented 2 = .ok (.iload_n 2, 1) := by decide +kernel
theorem dL_tryInvented_3 : decode cL_tryInvented 3 = .ok (.invokevirtual 71, 3) := by decide +kernel
theorem dL_tryInvented_6 : decode cL_tryInvented 6 = .ok (.ireturn, 1) := by decide +kernel
theorem dL_tryInvented_7 : decode cL_tryInvented 7 = .ok (.astore_n 3, 1) := by decide +kernel
theorem dL_tryInvented_8 : decode cL_tryInvented 8 = .ok (.ldc 18, 2) := by decide +kernel
theorem dL_tryInvented_10 : decode cL_tryInvented 10 = .ok (.ireturn, 1) := by decide +kernel
theorem dL_tryChoices_0 : decode cL_tryChoices 0 = .ok (.aload_n 0, 1) := by decide +kernel
theorem dL_tryChoices_1 : decode cL_tryChoices 1 = .ok (.iload_n 1, 1) := by decide +kernel
theorem dL_tryChoices_2 : decode cL_tryChoices 2 = .ok (.invokevirtual 74, 3) := by decide +kernel
theorem dL_tryChoices_5 : decode cL_tryChoices 5 = .ok (.ireturn, 1) := by decide +kernel
theorem dL_tryChoices_6 : decode cL_tryChoices 6 = .ok (.astore_n 2, 1) := by decide +kernel
theorem dL_tryChoices_7 : decode cL_tryChoices 7 = .ok (.ldc 18, 2) := by decide +kernel
theorem dL_tryChoices_9 : decode cL_tryChoices 9 = .ok (.ireturn, 1) := by decide +kernel
theorem dL_trySince_0 : decode cL_trySince 0 = .ok (.aload_n 0, 1) := by decide +kernel
theorem dL_trySince_1 : decode cL_trySince 1 = .ok (.iload_n 1, 1) := by decide +kernel
theorem dL_trySince_2 : decode cL_trySince 2 = .ok (.iload_n 2, 1) := by decide +kernel
theorem dL_trySince_3 : decode cL_trySince 3 = .ok (.invokevirtual 77, 3) := by decide +kernel
theorem dL_trySince_6 : decode cL_trySince 6 = .ok (.ireturn, 1) := by decide +kernel
theorem dL_trySince_7 : decode cL_trySince 7 = .ok (.astore_n 3, 1) := by decide +kernel
theorem dL_trySince_8 : decode cL_trySince 8 = .ok (.ldc 15, 2) := by decide +kernel
theorem dL_trySince_10 : decode cL_trySince 10 = .ok (.ireturn, 1) := by decide +kernel
theorem dL_trySince_11 : decode cL_trySince 11 = .ok (.astore_n 3, 1) := by decide +kernel
theorem dL_trySince_12 : decode cL_trySince 12 = .ok (.ldc 18, 2) := by decide +kernel
theorem dL_trySince_14 : decode cL_trySince 14 = .ok (.ireturn, 1) := by decide +kernel
theorem dL_tryReached_0 : decode cL_tryReached 0 = .ok (.aload_n 0, 1) := by decide +kernel
theorem dL_tryReached_1 : decode cL_tryReached 1 = .ok (.iload_n 1, 1) := by decide +kernel
theorem dL_tryReached_2 : decode cL_tryReached 2 = .ok (.iload_n 2, 1) := by decide +kernel
theorem dL_tryReached_3 : decode cL_tryReached 3 = .ok (.invokevirtual 80, 3) := by decide +kernel
theorem dL_tryReached_6 : decode cL_tryReached 6 = .ok (.ireturn, 1) := by decide +kernel
theorem dL_tryReached_7 : decode cL_tryReached 7 = .ok (.astore_n 3, 1) := by decide +kernel
theorem dL_tryReached_8 : decode cL_tryReached 8 = .ok (.ldc 18, 2) := by decide +kernel
theorem dL_tryReached_10 : decode cL_tryReached 10 = .ok (.ireturn, 1) := by decide +kernel
theorem dL_tryPassed_0 : decode cL_tryPassed 0 = .ok (.aload_n 0, 1) := by decide +kernel
theorem dL_tryPassed_1 : decode cL_tryPassed 1 = .ok (.iload_n 1, 1) := by decide +kernel
theorem dL_tryPassed_2 : decode cL_tryPassed 2 = .ok (.iload_n 2, 1) := by decide +kernel
theorem dL_tryPassed_3 : decode cL_tryPassed 3 = .ok (.iload_n 3, 1) := by decide +kernel
theorem dL_tryPassed_4 : decode cL_tryPassed 4 = .ok (.invokevirtual 83, 3) := by decide +kernel
theorem dL_tryPassed_7 : decode cL_tryPassed 7 = .ok (.ireturn, 1) := by decide +kernel
theorem dL_tryPassed_8 : decode cL_tryPassed 8 = .ok (.astore 4, 2) := by decide +kernel
theorem dL_tryPassed_10 : decode cL_tryPassed 10 = .ok (.ldc 15, 2) := by decide +kernel
theorem dL_tryPassed_12 : decode cL_tryPassed 12 = .ok (.ireturn, 1) := by decide +kernel
theorem dL_tryPassed_13 : decode cL_tryPassed 13 = .ok (.astore 4, 2) := by decide +kernel
theorem dL_tryPassed_15 : decode cL_tryPassed 15 = .ok (.ldc 18, 2) := by decide +kernel
theorem dL_tryPassed_17 : decode cL_tryPassed 17 = .ok (.ireturn, 1) := by decide +kernel
theorem dL_tryIfLaid_0 : decode cL_tryIfLaid 0 = .ok (.aload_n 0, 1) := by decide +kernel
theorem dL_tryIfLaid_1 : decode cL_tryIfLaid 1 = .ok (.iload_n 1, 1) := by decide +kernel
theorem dL_tryIfLaid_2 : decode cL_tryIfLaid 2 = .ok (.iload_n 2, 1) := by decide +kernel
theorem dL_tryIfLaid_3 : decode cL_tryIfLaid 3 = .ok (.iload_n 3, 1) := by decide +kernel
theorem dL_tryIfLaid_4 : decode cL_tryIfLaid 4 = .ok (.invokevirtual 86, 3) := by decide +kernel
theorem dL_tryIfLaid_7 : decode cL_tryIfLaid 7 = .ok (.ireturn, 1) := by decide +kernel
theorem dL_tryIfLaid_8 : decode cL_tryIfLaid 8 = .ok (.astore 4, 2) := by decide +kernel
theorem dL_tryIfLaid_10 : decode cL_tryIfLaid 10 = .ok (.ldc 15, 2) := by decide +kernel
theorem dL_tryIfLaid_12 : decode cL_tryIfLaid 12 = .ok (.ireturn, 1) := by decide +kernel
theorem dL_tryIfLaid_13 : decode cL_tryIfLaid 13 = .ok (.astore 4, 2) := by decide +kernel
theorem dL_tryIfLaid_15 : decode cL_tryIfLaid 15 = .ok (.ldc 18, 2) := by decide +kernel
theorem dL_tryIfLaid_17 : decode cL_tryIfLaid 17 = .ok (.ireturn, 1) := by decide +kernel
theorem dL_tryIfLaid_18 : decode cL_tryIfLaid 18 = .ok (.astore 4, 2) := by decide +kernel
theorem dL_tryIfLaid_20 : decode cL_tryIfLaid 20 = .ok (.ldc 37, 2) := by decide +kernel
theorem dL_tryIfLaid_22 : decode cL_tryIfLaid 22 = .ok (.ireturn, 1) := by decide +kernel
theorem dL_tryBestRoad_0 : decode cL_tryBestRoad 0 = .ok (.aload_n 0, 1) := by decide +kernel
theorem dL_tryBestRoad_1 : decode cL_tryBestRoad 1 = .ok (.iload_n 1, 1) := by decide +kernel
theorem dL_tryBestRoad_2 : decode cL_tryBestRoad 2 = .ok (.invokevirtual 89, 3) := by decide +kernel
theorem dL_tryBestRoad_5 : decode cL_tryBestRoad 5 = .ok (.ireturn, 1) := by decide +kernel
theorem dL_tryBestRoad_6 : decode cL_tryBestRoad 6 = .ok (.astore_n 2, 1) := by decide +kernel
theorem dL_tryBestRoad_7 : decode cL_tryBestRoad 7 = .ok (.ldc 18, 2) := by decide +kernel
theorem dL_tryBestRoad_9 : decode cL_tryBestRoad 9 = .ok (.ireturn, 1) := by decide +kernel
theorem dL_tryKeep_0 : decode cL_tryKeep 0 = .ok (.aload_n 0, 1) := by decide +kernel
theorem dL_tryKeep_1 : decode cL_tryKeep 1 = .ok (.iload_n 1, 1) := by decide +kernel
theorem dL_tryKeep_2 : decode cL_tryKeep 2 = .ok (.invokevirtual 92, 3) := by decide +kernel
theorem dL_tryKeep_5 : decode cL_tryKeep 5 = .ok (.ireturn, 1) := by decide +kernel
theorem dL_tryKeep_6 : decode cL_tryKeep 6 = .ok (.astore_n 2, 1) := by decide +kernel
theorem dL_tryKeep_7 : decode cL_tryKeep 7 = .ok (.ldc 15, 2) := by decide +kernel
theorem dL_tryKeep_9 : decode cL_tryKeep 9 = .ok (.ireturn, 1) := by decide +kernel
theorem dL_tryBack_0 : decode cL_tryBack 0 = .ok (.aload_n 0, 1) := by decide +kernel
theorem dL_tryBack_1 : decode cL_tryBack 1 = .ok (.iload_n 1, 1) := by decide +kernel
theorem dL_tryBack_2 : decode cL_tryBack 2 = .ok (.invokevirtual 95, 3) := by decide +kernel
theorem dL_tryBack_5 : decode cL_tryBack 5 = .ok (.ireturn, 1) := by decide +kernel
theorem dL_tryBack_6 : decode cL_tryBack 6 = .ok (.astore_n 2, 1) := by decide +kernel
theorem dL_tryBack_7 : decode cL_tryBack 7 = .ok (.ldc 15, 2) := by decide +kernel
theorem dL_tryBack_9 : decode cL_tryBack 9 = .ok (.ireturn, 1) := by decide +kernel
theorem dL_tryBack_10 : decode cL_tryBack 10 = .ok (.astore_n 2, 1) := by decide +kernel
theorem dL_tryBack_11 : decode cL_tryBack 11 = .ok (.ldc 37, 2) := by decide +kernel
theorem dL_tryBack_13 : decode cL_tryBack 13 = .ok (.ireturn, 1) := by decide +kernel
theorem dL_call_0 : decode cL_call 0 = .ok (.iload_n 1, 1) := by decide +kernel
theorem dL_call_1 : decode cL_call 1 = .ok (.tableswitch 218 0 18 #[91, 97, 103, 110, 117, 122, 131, 138, 143, 150, 155, 161, 168, 174, 181, 188, 197, 206, 212], 91) := by decide +kernel
theorem dL_call_92 : decode cL_call 92 = .ok (.aload_n 0, 1) := by decide +kernel
theorem dL_call_93 : decode cL_call 93 = .ok (.iload_n 2, 1) := by decide +kernel
theorem dL_call_94 : decode cL_call 94 = .ok (.invokestatic 98, 3) := by decide +kernel
theorem dL_call_97 : decode cL_call 97 = .ok (.ireturn, 1) := by decide +kernel
theorem dL_call_98 : decode cL_call 98 = .ok (.aload_n 0, 1) := by decide +kernel
theorem dL_call_99 : decode cL_call 99 = .ok (.iload_n 2, 1) := by decide +kernel
theorem dL_call_100 : decode cL_call 100 = .ok (.invokestatic 104, 3) := by decide +kernel
theorem dL_call_103 : decode cL_call 103 = .ok (.ireturn, 1) := by decide +kernel
theorem dL_call_104 : decode cL_call 104 = .ok (.aload_n 0, 1) := by decide +kernel
theorem dL_call_105 : decode cL_call 105 = .ok (.iload_n 2, 1) := by decide +kernel
theorem dL_call_106 : decode cL_call 106 = .ok (.iload_n 3, 1) := by decide +kernel
theorem dL_call_107 : decode cL_call 107 = .ok (.invokestatic 107, 3) := by decide +kernel
theorem dL_call_110 : decode cL_call 110 = .ok (.ireturn, 1) := by decide +kernel
theorem dL_call_111 : decode cL_call 111 = .ok (.aload_n 0, 1) := by decide +kernel
theorem dL_call_112 : decode cL_call 112 = .ok (.iload_n 2, 1) := by decide +kernel
theorem dL_call_113 : decode cL_call 113 = .ok (.iload_n 3, 1) := by decide +kernel
theorem dL_call_114 : decode cL_call 114 = .ok (.invokestatic 111, 3) := by decide +kernel
theorem dL_call_117 : decode cL_call 117 = .ok (.ireturn, 1) := by decide +kernel
theorem dL_call_118 : decode cL_call 118 = .ok (.aload_n 0, 1) := by decide +kernel
theorem dL_call_119 : decode cL_call 119 = .ok (.invokestatic 114, 3) := by decide +kernel
theorem dL_call_122 : decode cL_call 122 = .ok (.ireturn, 1) := by decide +kernel
theorem dL_call_123 : decode cL_call 123 = .ok (.aload_n 0, 1) := by decide +kernel
theorem dL_call_124 : decode cL_call 124 = .ok (.iload_n 2, 1) := by decide +kernel
theorem dL_call_125 : decode cL_call 125 = .ok (.iload_n 3, 1) := by decide +kernel
theorem dL_call_126 : decode cL_call 126 = .ok (.iload 4, 2) := by decide +kernel
theorem dL_call_128 : decode cL_call 128 = .ok (.invokestatic 118, 3) := by decide +kernel
theorem dL_call_131 : decode cL_call 131 = .ok (.ireturn, 1) := by decide +kernel
theorem dL_call_132 : decode cL_call 132 = .ok (.aload_n 0, 1) := by decide +kernel
theorem dL_call_133 : decode cL_call 133 = .ok (.iload_n 2, 1) := by decide +kernel
theorem dL_call_134 : decode cL_call 134 = .ok (.iload_n 3, 1) := by decide +kernel
theorem dL_call_135 : decode cL_call 135 = .ok (.invokestatic 122, 3) := by decide +kernel
theorem dL_call_138 : decode cL_call 138 = .ok (.ireturn, 1) := by decide +kernel
theorem dL_call_139 : decode cL_call 139 = .ok (.aload_n 0, 1) := by decide +kernel
theorem dL_call_140 : decode cL_call 140 = .ok (.invokestatic 125, 3) := by decide +kernel
theorem dL_call_143 : decode cL_call 143 = .ok (.ireturn, 1) := by decide +kernel
theorem dL_call_144 : decode cL_call 144 = .ok (.aload_n 0, 1) := by decide +kernel
theorem dL_call_145 : decode cL_call 145 = .ok (.iload_n 2, 1) := by decide +kernel
theorem dL_call_146 : decode cL_call 146 = .ok (.iload_n 3, 1) := by decide +kernel
theorem dL_call_147 : decode cL_call 147 = .ok (.invokestatic 128, 3) := by decide +kernel
theorem dL_call_150 : decode cL_call 150 = .ok (.ireturn, 1) := by decide +kernel
theorem dL_call_151 : decode cL_call 151 = .ok (.aload_n 0, 1) := by decide +kernel
theorem dL_call_152 : decode cL_call 152 = .ok (.invokestatic 131, 3) := by decide +kernel
theorem dL_call_155 : decode cL_call 155 = .ok (.ireturn, 1) := by decide +kernel
theorem dL_call_156 : decode cL_call 156 = .ok (.aload_n 0, 1) := by decide +kernel
theorem dL_call_157 : decode cL_call 157 = .ok (.iload_n 2, 1) := by decide +kernel
theorem dL_call_158 : decode cL_call 158 = .ok (.invokestatic 134, 3) := by decide +kernel
theorem dL_call_161 : decode cL_call 161 = .ok (.ireturn, 1) := by decide +kernel
theorem dL_call_162 : decode cL_call 162 = .ok (.aload_n 0, 1) := by decide +kernel
theorem dL_call_163 : decode cL_call 163 = .ok (.iload_n 2, 1) := by decide +kernel
theorem dL_call_164 : decode cL_call 164 = .ok (.iload_n 3, 1) := by decide +kernel
theorem dL_call_165 : decode cL_call 165 = .ok (.invokestatic 137, 3) := by decide +kernel
theorem dL_call_168 : decode cL_call 168 = .ok (.ireturn, 1) := by decide +kernel
theorem dL_call_169 : decode cL_call 169 = .ok (.aload_n 0, 1) := by decide +kernel
theorem dL_call_170 : decode cL_call 170 = .ok (.iload_n 2, 1) := by decide +kernel
theorem dL_call_171 : decode cL_call 171 = .ok (.invokestatic 140, 3) := by decide +kernel
theorem dL_call_174 : decode cL_call 174 = .ok (.ireturn, 1) := by decide +kernel
theorem dL_call_175 : decode cL_call 175 = .ok (.aload_n 0, 1) := by decide +kernel
theorem dL_call_176 : decode cL_call 176 = .ok (.iload_n 2, 1) := by decide +kernel
theorem dL_call_177 : decode cL_call 177 = .ok (.iload_n 3, 1) := by decide +kernel
theorem dL_call_178 : decode cL_call 178 = .ok (.invokestatic 143, 3) := by decide +kernel
theorem dL_call_181 : decode cL_call 181 = .ok (.ireturn, 1) := by decide +kernel
theorem dL_call_182 : decode cL_call 182 = .ok (.aload_n 0, 1) := by decide +kernel
theorem dL_call_183 : decode cL_call 183 = .ok (.iload_n 2, 1) := by decide +kernel
theorem dL_call_184 : decode cL_call 184 = .ok (.iload_n 3, 1) := by decide +kernel
theorem dL_call_185 : decode cL_call 185 = .ok (.invokestatic 146, 3) := by decide +kernel
theorem dL_call_188 : decode cL_call 188 = .ok (.ireturn, 1) := by decide +kernel
theorem dL_call_189 : decode cL_call 189 = .ok (.aload_n 0, 1) := by decide +kernel
theorem dL_call_190 : decode cL_call 190 = .ok (.iload_n 2, 1) := by decide +kernel
theorem dL_call_191 : decode cL_call 191 = .ok (.iload_n 3, 1) := by decide +kernel
theorem dL_call_192 : decode cL_call 192 = .ok (.iload 4, 2) := by decide +kernel
theorem dL_call_194 : decode cL_call 194 = .ok (.invokestatic 149, 3) := by decide +kernel
theorem dL_call_197 : decode cL_call 197 = .ok (.ireturn, 1) := by decide +kernel
theorem dL_call_198 : decode cL_call 198 = .ok (.aload_n 0, 1) := by decide +kernel
theorem dL_call_199 : decode cL_call 199 = .ok (.iload_n 2, 1) := by decide +kernel
theorem dL_call_200 : decode cL_call 200 = .ok (.iload_n 3, 1) := by decide +kernel
theorem dL_call_201 : decode cL_call 201 = .ok (.iload 4, 2) := by decide +kernel
theorem dL_call_203 : decode cL_call 203 = .ok (.invokestatic 152, 3) := by decide +kernel
theorem dL_call_206 : decode cL_call 206 = .ok (.ireturn, 1) := by decide +kernel
theorem dL_call_207 : decode cL_call 207 = .ok (.aload_n 0, 1) := by decide +kernel
theorem dL_call_208 : decode cL_call 208 = .ok (.iload_n 2, 1) := by decide +kernel
theorem dL_call_209 : decode cL_call 209 = .ok (.invokestatic 155, 3) := by decide +kernel
theorem dL_call_212 : decode cL_call 212 = .ok (.ireturn, 1) := by decide +kernel
theorem dL_call_213 : decode cL_call 213 = .ok (.aload_n 0, 1) := by decide +kernel
theorem dL_call_214 : decode cL_call 214 = .ok (.iload_n 2, 1) := by decide +kernel
theorem dL_call_215 : decode cL_call 215 = .ok (.invokestatic 158, 3) := by decide +kernel
theorem dL_call_218 : decode cL_call 218 = .ok (.ireturn, 1) := by decide +kernel
theorem dL_call_219 : decode cL_call 219 = .ok (.aload_n 0, 1) := by decide +kernel
theorem dL_call_220 : decode cL_call 220 = .ok (.iload_n 2, 1) := by decide +kernel
theorem dL_call_221 : decode cL_call 221 = .ok (.invokestatic 161, 3) := by decide +kernel
theorem dL_call_224 : decode cL_call 224 = .ok (.ireturn, 1) := by decide +kernel
theorem dL_cell_0 : decode cL_cell 0 = .ok (.iload_n 1, 1) := by decide +kernel
theorem dL_cell_1 : decode cL_cell 1 = .ok (.aload_n 0, 1) := by decide +kernel
theorem dL_cell_2 : decode cL_cell 2 = .ok (.arraylength, 1) := by decide +kernel
theorem dL_cell_3 : decode cL_cell 3 = .ok (.if_icmp .ge 9, 3) := by decide +kernel
theorem dL_cell_6 : decode cL_cell 6 = .ok (.aload_n 0, 1) := by decide +kernel
theorem dL_cell_7 : decode cL_cell 7 = .ok (.iload_n 1, 1) := by decide +kernel
theorem dL_cell_8 : decode cL_cell 8 = .ok (.iaload, 1) := by decide +kernel
theorem dL_cell_9 : decode cL_cell 9 = .ok (.goto 13, 3) := by decide +kernel
theorem dL_cell_12 : decode cL_cell 12 = .ok (.ldc 164, 2) := by decide +kernel
theorem dL_cell_14 : decode cL_cell 14 = .ok (.iload_n 1, 1) := by decide +kernel
theorem dL_cell_15 : decode cL_cell 15 = .ok (.iconst 3, 1) := by decide +kernel
theorem dL_cell_16 : decode cL_cell 16 = .ok (.iadd, 1) := by decide +kernel
theorem dL_cell_17 : decode cL_cell 17 = .ok (.imul, 1) := by decide +kernel
theorem dL_cell_18 : decode cL_cell 18 = .ok (.sipush 10687, 3) := by decide +kernel
theorem dL_cell_21 : decode cL_cell 21 = .ok (.iadd, 1) := by decide +kernel
theorem dL_cell_22 : decode cL_cell 22 = .ok (.ldc 165, 2) := by decide +kernel
theorem dL_cell_24 : decode cL_cell 24 = .ok (.iand, 1) := by decide +kernel
theorem dL_cell_25 : decode cL_cell 25 = .ok (.ireturn, 1) := by decide +kernel
