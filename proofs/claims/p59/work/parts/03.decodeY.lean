theorem dL_cell_0 : decode cL_cell 0 = .ok (.aload_n 0, 1) := by decide +kernel
theorem dL_cell_1 : decode cL_cell 1 = .ok (.arraylength, 1) := by decide +kernel
theorem dL_cell_2 : decode cL_cell 2 = .ok (.ifCond .ne 11, 3) := by decide +kernel
theorem dL_cell_5 : decode cL_cell 5 = .ok (.sipush 577, 3) := by decide +kernel
theorem dL_cell_8 : decode cL_cell 8 = .ok (.iload_n 1, 1) := by decide +kernel
theorem dL_cell_9 : decode cL_cell 9 = .ok (.imul, 1) := by decide +kernel
theorem dL_cell_10 : decode cL_cell 10 = .ok (.goto 12, 3) := by decide +kernel
theorem dL_cell_13 : decode cL_cell 13 = .ok (.aload_n 0, 1) := by decide +kernel
theorem dL_cell_14 : decode cL_cell 14 = .ok (.iload_n 1, 1) := by decide +kernel
theorem dL_cell_15 : decode cL_cell 15 = .ok (.ldc 7, 2) := by decide +kernel
theorem dL_cell_17 : decode cL_cell 17 = .ok (.iand, 1) := by decide +kernel
theorem dL_cell_18 : decode cL_cell 18 = .ok (.aload_n 0, 1) := by decide +kernel
theorem dL_cell_19 : decode cL_cell 19 = .ok (.arraylength, 1) := by decide +kernel
theorem dL_cell_20 : decode cL_cell 20 = .ok (.irem, 1) := by decide +kernel
theorem dL_cell_21 : decode cL_cell 21 = .ok (.iaload, 1) := by decide +kernel
theorem dL_cell_22 : decode cL_cell 22 = .ok (.ireturn, 1) := by decide +kernel
theorem dL_addShelf_0 : decode cL_addShelf 0 = .ok (.ldc 10, 2) := by decide +kernel
theorem dL_addShelf_2 : decode cL_addShelf 2 = .ok (.istore_n 3, 1) := by decide +kernel
theorem dL_addShelf_3 : decode cL_addShelf 3 = .ok (.aload_n 0, 1) := by decide +kernel
theorem dL_addShelf_4 : decode cL_addShelf 4 = .ok (.iload_n 1, 1) := by decide +kernel
theorem dL_addShelf_5 : decode cL_addShelf 5 = .ok (.iload_n 2, 1) := by decide +kernel
theorem dL_addShelf_6 : decode cL_addShelf 6 = .ok (.invokevirtual 11, 3) := by decide +kernel
theorem dL_addShelf_9 : decode cL_addShelf 9 = .ok (.istore_n 3, 1) := by decide +kernel
theorem dL_addShelf_10 : decode cL_addShelf 10 = .ok (.goto 13, 3) := by decide +kernel
theorem dL_addShelf_13 : decode cL_addShelf 13 = .ok (.astore 4, 2) := by decide +kernel
theorem dL_addShelf_15 : decode cL_addShelf 15 = .ok (.ldc 10, 2) := by decide +kernel
theorem dL_addShelf_17 : decode cL_addShelf 17 = .ok (.ireturn, 1) := by decide +kernel
theorem dL_addShelf_18 : decode cL_addShelf 18 = .ok (.astore 4, 2) := by decide +kernel
theorem dL_addShelf_20 : decode cL_addShelf 20 = .ok (.ldc 10, 2) := by decide +kernel
theorem dL_addShelf_22 : decode cL_addShelf 22 = .ok (.ireturn, 1) := by decide +kernel
theorem dL_addShelf_23 : decode cL_addShelf 23 = .ok (.iload_n 3, 1) := by decide +kernel
theorem dL_addShelf_24 : decode cL_addShelf 24 = .ok (.ireturn, 1) := by decide +kernel
theorem dL_count_0 : decode cL_count 0 = .ok (.ldc 10, 2) := by decide +kernel
theorem dL_count_2 : decode cL_count 2 = .ok (.istore_n 2, 1) := by decide +kernel
theorem dL_count_3 : decode cL_count 3 = .ok (.aload_n 0, 1) := by decide +kernel
theorem dL_count_4 : decode cL_count 4 = .ok (.iload_n 1, 1) := by decide +kernel
theorem dL_count_5 : decode cL_count 5 = .ok (.invokevirtual 21, 3) := by decide +kernel
theorem dL_count_8 : decode cL_count 8 = .ok (.istore_n 2, 1) := by decide +kernel
theorem dL_count_9 : decode cL_count 9 = .ok (.goto 7, 3) := by decide +kernel
theorem dL_count_12 : decode cL_count 12 = .ok (.astore_n 3, 1) := by decide +kernel
theorem dL_count_13 : decode cL_count 13 = .ok (.ldc 10, 2) := by decide +kernel
theorem dL_count_15 : decode cL_count 15 = .ok (.ireturn, 1) := by decide +kernel
theorem dL_count_16 : decode cL_count 16 = .ok (.iload_n 2, 1) := by decide +kernel
theorem dL_count_17 : decode cL_count 17 = .ok (.ireturn, 1) := by decide +kernel
theorem dL_shelfFor_0 : decode cL_shelfFor 0 = .ok (.sipush (-1000), 3) := by decide +kernel
theorem dL_shelfFor_3 : decode cL_shelfFor 3 = .ok (.istore_n 3, 1) := by decide +kernel
theorem dL_shelfFor_4 : decode cL_shelfFor 4 = .ok (.aload_n 0, 1) := by decide +kernel
theorem dL_shelfFor_5 : decode cL_shelfFor 5 = .ok (.iload_n 1, 1) := by decide +kernel
theorem dL_shelfFor_6 : decode cL_shelfFor 6 = .ok (.iload_n 2, 1) := by decide +kernel
theorem dL_shelfFor_7 : decode cL_shelfFor 7 = .ok (.invokevirtual 27, 3) := by decide +kernel
theorem dL_shelfFor_10 : decode cL_shelfFor 10 = .ok (.istore_n 3, 1) := by decide +kernel
theorem dL_shelfFor_11 : decode cL_shelfFor 11 = .ok (.goto 15, 3) := by decide +kernel
theorem dL_shelfFor_14 : decode cL_shelfFor 14 = .ok (.astore 4, 2) := by decide +kernel
theorem dL_shelfFor_16 : decode cL_shelfFor 16 = .ok (.sipush (-1000), 3) := by decide +kernel
theorem dL_shelfFor_19 : decode cL_shelfFor 19 = .ok (.ireturn, 1) := by decide +kernel
theorem dL_shelfFor_20 : decode cL_shelfFor 20 = .ok (.astore 4, 2) := by decide +kernel
theorem dL_shelfFor_22 : decode cL_shelfFor 22 = .ok (.sipush (-1000), 3) := by decide +kernel
theorem dL_shelfFor_25 : decode cL_shelfFor 25 = .ok (.ireturn, 1) := by decide +kernel
theorem dL_shelfFor_26 : decode cL_shelfFor 26 = .ok (.iload_n 3, 1) := by decide +kernel
theorem dL_shelfFor_27 : decode cL_shelfFor 27 = .ok (.ireturn, 1) := by decide +kernel
theorem dL_countedDay_0 : decode cL_countedDay 0 = .ok (.sipush (-1000), 3) := by decide +kernel
theorem dL_countedDay_3 : decode cL_countedDay 3 = .ok (.istore_n 2, 1) := by decide +kernel
theorem dL_countedDay_4 : decode cL_countedDay 4 = .ok (.aload_n 0, 1) := by decide +kernel
theorem dL_countedDay_5 : decode cL_countedDay 5 = .ok (.iload_n 1, 1) := by decide +kernel
theorem dL_countedDay_6 : decode cL_countedDay 6 = .ok (.invokevirtual 32, 3) := by decide +kernel
theorem dL_countedDay_9 : decode cL_countedDay 9 = .ok (.istore_n 2, 1) := by decide +kernel
theorem dL_countedDay_10 : decode cL_countedDay 10 = .ok (.goto 13, 3) := by decide +kernel
theorem dL_countedDay_13 : decode cL_countedDay 13 = .ok (.astore_n 3, 1) := by decide +kernel
theorem dL_countedDay_14 : decode cL_countedDay 14 = .ok (.sipush (-1000), 3) := by decide +kernel
theorem dL_countedDay_17 : decode cL_countedDay 17 = .ok (.ireturn, 1) := by decide +kernel
theorem dL_countedDay_18 : decode cL_countedDay 18 = .ok (.astore_n 3, 1) := by decide +kernel
theorem dL_countedDay_19 : decode cL_countedDay 19 = .ok (.sipush (-1000), 3) := by decide +kernel
theorem dL_countedDay_22 : decode cL_countedDay 22 = .ok (.ireturn, 1) := by decide +kernel
theorem dL_countedDay_23 : decode cL_countedDay 23 = .ok (.iload_n 2, 1) := by decide +kernel
theorem dL_countedDay_24 : decode cL_countedDay 24 = .ok (.ireturn, 1) := by decide +kernel
theorem dL_shelfToCount_0 : decode cL_shelfToCount 0 = .ok (.sipush (-1000), 3) := by decide +kernel
theorem dL_shelfToCount_3 : decode cL_shelfToCount 3 = .ok (.istore_n 2, 1) := by decide +kernel
theorem dL_shelfToCount_4 : decode cL_shelfToCount 4 = .ok (.aload_n 0, 1) := by decide +kernel
theorem dL_shelfToCount_5 : decode cL_shelfToCount 5 = .ok (.iload_n 1, 1) := by decide +kernel
theorem dL_shelfToCount_6 : decode cL_shelfToCount 6 = .ok (.invokevirtual 35, 3) := by decide +kernel
theorem dL_shelfToCount_9 : decode cL_shelfToCount 9 = .ok (.istore_n 2, 1) := by decide +kernel
theorem dL_shelfToCount_10 : decode cL_shelfToCount 10 = .ok (.goto 8, 3) := by decide +kernel
theorem dL_shelfToCount_13 : decode cL_shelfToCount 13 = .ok (.astore_n 3, 1) := by decide +kernel
theorem dL_shelfToCount_14 : decode cL_shelfToCount 14 = .ok (.sipush (-1000), 3) := by decide +kernel
theorem dL_shelfToCount_17 : decode cL_shelfToCount 17 = .ok (.ireturn, 1) := by decide +kernel
theorem dL_shelfToCount_18 : decode cL_shelfToCount 18 = .ok (.iload_n 2, 1) := by decide +kernel
theorem dL_shelfToCount_19 : decode cL_shelfToCount 19 = .ok (.ireturn, 1) := by decide +kernel
theorem dL_receive_0 : decode cL_receive 0 = .ok (.ldc 10, 2) := by decide +kernel
theorem dL_receive_2 : decode cL_receive 2 = .ok (.istore 5, 2) := by decide +kernel
theorem dL_receive_4 : decode cL_receive 4 = .ok (.aload_n 0, 1) := by decide +kernel
theorem dL_receive_5 : decode cL_receive 5 = .ok (.iload_n 1, 1) := by decide +kernel
theorem dL_receive_6 : decode cL_receive 6 = .ok (.iload_n 2, 1) := by decide +kernel
theorem dL_receive_7 : decode cL_receive 7 = .ok (.iload_n 3, 1) := by decide +kernel
theorem dL_receive_8 : decode cL_receive 8 = .ok (.iload 4, 2) := by decide +kernel
theorem dL_receive_10 : decode cL_receive 10 = .ok (.invokevirtual 38, 3) := by decide +kernel
theorem dL_receive_13 : decode cL_receive 13 = .ok (.istore 5, 2) := by decide +kernel
theorem dL_receive_15 : decode cL_receive 15 = .ok (.goto 13, 3) := by decide +kernel
theorem dL_receive_18 : decode cL_receive 18 = .ok (.astore 6, 2) := by decide +kernel
theorem dL_receive_20 : decode cL_receive 20 = .ok (.ldc 10, 2) := by decide +kernel
theorem dL_receive_22 : decode cL_receive 22 = .ok (.ireturn, 1) := by decide +kernel
theorem dL_receive_23 : decode cL_receive 23 = .ok (.astore 6, 2) := by decide +kernel
theorem dL_receive_25 : decode cL_receive 25 = .ok (.ldc 10, 2) := by decide +kernel
theorem dL_receive_27 : decode cL_receive 27 = .ok (.ireturn, 1) := by decide +kernel
theorem dL_receive_28 : decode cL_receive 28 = .ok (.iload 5, 2) := by decide +kernel
theorem dL_receive_30 : decode cL_receive 30 = .ok (.ireturn, 1) := by decide +kernel
theorem dL_split_0 : decode cL_split 0 = .ok (.ldc 10, 2) := by decide +kernel
theorem dL_split_2 : decode cL_split 2 = .ok (.istore_n 3, 1) := by decide +kernel
theorem dL_split_3 : decode cL_split 3 = .ok (.aload_n 0, 1) := by decide +kernel
theorem dL_split_4 : decode cL_split 4 = .ok (.iload_n 1, 1) := by decide +kernel
theorem dL_split_5 : decode cL_split 5 = .ok (.iload_n 2, 1) := by decide +kernel
theorem dL_split_6 : decode cL_split 6 = .ok (.invokevirtual 42, 3) := by decide +kernel
theorem dL_split_9 : decode cL_split 9 = .ok (.istore_n 3, 1) := by decide +kernel
theorem dL_split_10 : decode cL_split 10 = .ok (.goto 18, 3) := by decide +kernel
theorem dL_split_13 : decode cL_split 13 = .ok (.astore 4, 2) := by decide +kernel
theorem dL_split_15 : decode cL_split 15 = .ok (.ldc 10, 2) := by decide +kernel
theorem dL_split_17 : decode cL_split 17 = .ok (.ireturn, 1) := by decide +kernel
theorem dL_split_18 : decode cL_split 18 = .ok (.astore 4, 2) := by decide +kernel
theorem dL_split_20 : decode cL_split 20 = .ok (.ldc 10, 2) := by decide +kernel
theorem dL_split_22 : decode cL_split 22 = .ok (.ireturn, 1) := by decide +kernel
theorem dL_split_23 : decode cL_split 23 = .ok (.astore 4, 2) := by decide +kernel
theorem dL_split_25 : decode cL_split 25 = .ok (.ldc 10, 2) := by decide +kernel
theorem dL_split_27 : decode cL_split 27 = .ok (.ireturn, 1) := by decide +kernel
theorem dL_split_28 : decode cL_split 28 = .ok (.iload_n 3, 1) := by decide +kernel
theorem dL_split_29 : decode cL_split 29 = .ok (.ireturn, 1) := by decide +kernel
theorem dL_mix_0 : decode cL_mix 0 = .ok (.ldc 10, 2) := by decide +kernel
theorem dL_mix_2 : decode cL_mix 2 = .ok (.istore_n 3, 1) := by decide +kernel
theorem dL_mix_3 : decode cL_mix 3 = .ok (.aload_n 0, 1) := by decide +kernel
theorem dL_mix_4 : decode cL_mix 4 = .ok (.iload_n 1, 1) := by decide +kernel
theorem dL_mix_5 : decode cL_mix 5 = .ok (.iload_n 2, 1) := by decide +kernel
theorem dL_mix_6 : decode cL_mix 6 = .ok (.invokevirtual 45, 3) := by decide +kernel
theorem dL_mix_9 : decode cL_mix 9 = .ok (.istore_n 3, 1) := by decide +kernel
theorem dL_mix_10 : decode cL_mix 10 = .ok (.goto 18, 3) := by decide +kernel
theorem dL_mix_13 : decode cL_mix 13 = .ok (.astore 4, 2) := by decide +kernel
theorem dL_mix_15 : decode cL_mix 15 = .ok (.ldc 10, 2) := by decide +kernel
theorem dL_mix_17 : decode cL_mix 17 = .ok (.ireturn, 1) := by decide +kernel
theorem dL_mix_18 : decode cL_mix 18 = .ok (.astore 4, 2) := by decide +kernel
theorem dL_mix_20 : decode cL_mix 20 = .ok (.ldc 10, 2) := by decide +kernel
theorem dL_mix_22 : decode cL_mix 22 = .ok (.ireturn, 1) := by decide +kernel
theorem dL_mix_23 : decode cL_mix 23 = .ok (.astore 4, 2) := by decide +kernel
theorem dL_mix_25 : decode cL_mix 25 = .ok (.ldc 10, 2) := by decide +kernel
theorem dL_mix_27 : decode cL_mix 27 = .ok (.ireturn, 1) := by decide +kernel
theorem dL_mix_28 : decode cL_mix 28 = .ok (.iload_n 3, 1) := by decide +kernel
theorem dL_mix_29 : decode cL_mix 29 = .ok (.ireturn, 1) := by decide +kernel
theorem dL_move_0 : decode cL_move 0 = .ok (.ldc 10, 2) := by decide +kernel
theorem dL_move_2 : decode cL_move 2 = .ok (.istore_n 3, 1) := by decide +kernel
theorem dL_move_3 : decode cL_move 3 = .ok (.aload_n 0, 1) := by decide +kernel
theorem dL_move_4 : decode cL_move 4 = .ok (.iload_n 1, 1) := by decide +kernel
theorem dL_move_5 : decode cL_move 5 = .ok (.iload_n 2, 1) := by decide +kernel
theorem dL_move_6 : decode cL_move 6 = .ok (.invokevirtual 48, 3) := by decide +kernel
theorem dL_move_9 : decode cL_move 9 = .ok (.istore_n 3, 1) := by decide +kernel
theorem dL_move_10 : decode cL_move 10 = .ok (.goto 18, 3) := by decide +kernel
theorem dL_move_13 : decode cL_move 13 = .ok (.astore 4, 2) := by decide +kernel
theorem dL_move_15 : decode cL_move 15 = .ok (.ldc 10, 2) := by decide +kernel
theorem dL_move_17 : decode cL_move 17 = .ok (.ireturn, 1) := by decide +kernel
theorem dL_move_18 : decode cL_move 18 = .ok (.astore 4, 2) := by decide +kernel
theorem dL_move_20 : decode cL_move 20 = .ok (.ldc 10, 2) := by decide +kernel
theorem dL_move_22 : decode cL_move 22 = .ok (.ireturn, 1) := by decide +kernel
theorem dL_move_23 : decode cL_move 23 = .ok (.astore 4, 2) := by decide +kernel
theorem dL_move_25 : decode cL_move 25 = .ok (.ldc 10, 2) := by decide +kernel
theorem dL_move_27 : decode cL_move 27 = .ok (.ireturn, 1) := by decide +kernel
theorem dL_move_28 : decode cL_move 28 = .ok (.iload_n 3, 1) := by decide +kernel
theorem dL_move_29 : decode cL_move 29 = .ok (.ireturn, 1) := by decide +kernel
theorem dL_ship_0 : decode cL_ship 0 = .ok (.ldc 10, 2) := by decide +kernel
theorem dL_ship_2 : decode cL_ship 2 = .ok (.istore_n 3, 1) := by decide +kernel
theorem dL_ship_3 : decode cL_ship 3 = .ok (.aload_n 0, 1) := by decide +kernel
theorem dL_ship_4 : decode cL_ship 4 = .ok (.iload_n 1, 1) := by decide +kernel
theorem dL_ship_5 : decode cL_ship 5 = .ok (.iload_n 2, 1) := by decide +kernel
theorem dL_ship_6 : decode cL_ship 6 = .ok (.invokevirtual 51, 3) := by decide +kernel
theorem dL_ship_9 : decode cL_ship 9 = .ok (.istore_n 3, 1) := by decide +kernel
theorem dL_ship_10 : decode cL_ship 10 = .ok (.goto 13, 3) := by decide +kernel
theorem dL_ship_13 : decode cL_ship 13 = .ok (.astore 4, 2) := by decide +kernel
theorem dL_ship_15 : decode cL_ship 15 = .ok (.ldc 10, 2) := by decide +kernel
theorem dL_ship_17 : decode cL_ship 17 = .ok (.ireturn, 1) := by decide +kernel
theorem dL_ship_18 : decode cL_ship 18 = .ok (.astore 4, 2) := by decide +kernel
theorem dL_ship_20 : decode cL_ship 20 = .ok (.ldc 10, 2) := by decide +kernel
theorem dL_ship_22 : decode cL_ship 22 = .ok (.ireturn, 1) := by decide +kernel
theorem dL_ship_23 : decode cL_ship 23 = .ok (.iload_n 3, 1) := by decide +kernel
theorem dL_ship_24 : decode cL_ship 24 = .ok (.ireturn, 1) := by decide +kernel
theorem dL_recall_0 : decode cL_recall 0 = .ok (.ldc 10, 2) := by decide +kernel
theorem dL_recall_2 : decode cL_recall 2 = .ok (.istore_n 2, 1) := by decide +kernel
theorem dL_recall_3 : decode cL_recall 3 = .ok (.aload_n 0, 1) := by decide +kernel
theorem dL_recall_4 : decode cL_recall 4 = .ok (.iload_n 1, 1) := by decide +kernel
theorem dL_recall_5 : decode cL_recall 5 = .ok (.invokevirtual 54, 3) := by decide +kernel
theorem dL_recall_8 : decode cL_recall 8 = .ok (.istore_n 2, 1) := by decide +kernel
theorem dL_recall_9 : decode cL_recall 9 = .ok (.goto 7, 3) := by decide +kernel
theorem dL_recall_12 : decode cL_recall 12 = .ok (.astore_n 3, 1) := by decide +kernel
theorem dL_recall_13 : decode cL_recall 13 = .ok (.ldc 10, 2) := by decide +kernel
theorem dL_recall_15 : decode cL_recall 15 = .ok (.ireturn, 1) := by decide +kernel
theorem dL_recall_16 : decode cL_recall 16 = .ok (.iload_n 2, 1) := by decide +kernel
theorem dL_recall_17 : decode cL_recall 17 = .ok (.ireturn, 1) := by decide +kernel
theorem dL_shelfOf_0 : decode cL_shelfOf 0 = .ok (.sipush (-1000), 3) := by decide +kernel
theorem dL_shelfOf_3 : decode cL_shelfOf 3 = .ok (.istore_n 2, 1) := by decide +kernel
theorem dL_shelfOf_4 : decode cL_shelfOf 4 = .ok (.aload_n 0, 1) := by decide +kernel
theorem dL_shelfOf_5 : decode cL_shelfOf 5 = .ok (.iload_n 1, 1) := by decide +kernel
theorem dL_shelfOf_6 : decode cL_shelfOf 6 = .ok (.invokevirtual 57, 3) := by decide +kernel
theorem dL_shelfOf_9 : decode cL_shelfOf 9 = .ok (.istore_n 2, 1) := by decide +kernel
theorem dL_shelfOf_10 : decode cL_shelfOf 10 = .ok (.goto 8, 3) := by decide +kernel
theorem dL_shelfOf_13 : decode cL_shelfOf 13 = .ok (.astore_n 3, 1) := by decide +kernel
theorem dL_shelfOf_14 : decode cL_shelfOf 14 = .ok (.sipush (-1000), 3) := by decide +kernel
theorem dL_shelfOf_17 : decode cL_shelfOf 17 = .ok (.ireturn, 1) := by decide +kernel
theorem dL_shelfOf_18 : decode cL_shelfOf 18 = .ok (.iload_n 2, 1) := by decide +kernel
theorem dL_shelfOf_19 : decode cL_shelfOf 19 = .ok (.ireturn, 1) := by decide +kernel
theorem dL_firstToShip_0 : decode cL_firstToShip 0 = .ok (.sipush (-1000), 3) := by decide +kernel
theorem dL_firstToShip_3 : decode cL_firstToShip 3 = .ok (.istore_n 2, 1) := by decide +kernel
theorem dL_firstToShip_4 : decode cL_firstToShip 4 = .ok (.aload_n 0, 1) := by decide +kernel
theorem dL_firstToShip_5 : decode cL_firstToShip 5 = .ok (.iload_n 1, 1) := by decide +kernel
theorem dL_firstToShip_6 : decode cL_firstToShip 6 = .ok (.invokevirtual 60, 3) := by decide +kernel
theorem dL_firstToShip_9 : decode cL_firstToShip 9 = .ok (.istore_n 2, 1) := by decide +kernel
theorem dL_firstToShip_10 : decode cL_firstToShip 10 = .ok (.goto 13, 3) := by decide +kernel
theorem dL_firstToShip_13 : decode cL_firstToShip 13 = .ok (.astore_n 3, 1) := by decide +kernel
theorem dL_firstToShip_14 : decode cL_firstToShip 14 = .ok (.sipush (-1000), 3) := by decide +kernel
theorem dL_firstToShip_17 : decode cL_firstToShip 17 = .ok (.ireturn, 1) := by decide +kernel
theorem dL_firstToShip_18 : decode cL_firstToShip 18 = .ok (.astore_n 3, 1) := by decide +kernel
theorem dL_firstToShip_19 : decode cL_firstToShip 19 = .ok (.sipush (-1000), 3) := by decide +kernel
theorem dL_firstToShip_22 : decode cL_firstToShip 22 = .ok (.ireturn, 1) := by decide +kernel
theorem dL_firstToShip_23 : decode cL_firstToShip 23 = .ok (.iload_n 2, 1) := by decide +kernel
theorem dL_firstToShip_24 : decode cL_firstToShip 24 = .ok (.ireturn, 1) := by decide +kernel
theorem dL_lotByExpiry_0 : decode cL_lotByExpiry 0 = .ok (.sipush (-1000), 3) := by decide +kernel
theorem dL_lotByExpiry_3 : decode cL_lotByExpiry 3 = .ok (.istore_n 2, 1) := by decide +kernel
theorem dL_lotByExpiry_4 : decode cL_lotByExpiry 4 = .ok (.aload_n 0, 1) := by decide +kernel
theorem dL_lotByExpiry_5 : decode cL_lotByExpiry 5 = .ok (.iload_n 1, 1) := by decide +kernel
theorem dL_lotByExpiry_6 : decode cL_lotByExpiry 6 = .ok (.invokevirtual 63, 3) := by decide +kernel
theorem dL_lotByExpiry_9 : decode cL_lotByExpiry 9 = .ok (.istore_n 2, 1) := by decide +kernel
theorem dL_lotByExpiry_10 : decode cL_lotByExpiry 10 = .ok (.goto 8, 3) := by decide +kernel
theorem dL_lotByExpiry_13 : decode cL_lotByExpiry 13 = .ok (.astore_n 3, 1) := by decide +kernel
theorem dL_lotByExpiry_14 : decode cL_lotByExpiry 14 = .ok (.sipush (-1000), 3) := by decide +kernel
theorem dL_lotByExpiry_17 : decode cL_lotByExpiry 17 = .ok (.ireturn, 1) := by decide +kernel
theorem dL_lotByExpiry_18 : decode cL_lotByExpiry 18 = .ok (.iload_n 2, 1) := by decide +kernel
theorem dL_lotByExpiry_19 : decode cL_lotByExpiry 19 = .ok (.ireturn, 1) := by decide +kernel
theorem dL_compost_0 : decode cL_compost 0 = .ok (.ldc 10, 2) := by decide +kernel
theorem dL_compost_2 : decode cL_compost 2 = .ok (.istore_n 1, 1) := by decide +kernel
theorem dL_compost_3 : decode cL_compost 3 = .ok (.aload_n 0, 1) := by decide +kernel
theorem dL_compost_4 : decode cL_compost 4 = .ok (.invokevirtual 66, 3) := by decide +kernel
theorem dL_compost_7 : decode cL_compost 7 = .ok (.istore_n 1, 1) := by decide +kernel
theorem dL_compost_8 : decode cL_compost 8 = .ok (.goto 7, 3) := by decide +kernel
theorem dL_compost_11 : decode cL_compost 11 = .ok (.astore_n 2, 1) := by decide +kernel
theorem dL_compost_12 : decode cL_compost 12 = .ok (.ldc 10, 2) := by decide +kernel
theorem dL_compost_14 : decode cL_compost 14 = .ok (.ireturn, 1) := by decide +kernel
theorem dL_compost_15 : decode cL_compost 15 = .ok (.iload_n 1, 1) := by decide +kernel
theorem dL_compost_16 : decode cL_compost 16 = .ok (.ireturn, 1) := by decide +kernel
theorem dL_nextCompost_0 : decode cL_nextCompost 0 = .ok (.sipush (-1000), 3) := by decide +kernel
theorem dL_nextCompost_3 : decode cL_nextCompost 3 = .ok (.istore_n 1, 1) := by decide +kernel
theorem dL_nextCompost_4 : decode cL_nextCompost 4 = .ok (.aload_n 0, 1) := by decide +kernel
theorem dL_nextCompost_5 : decode cL_nextCompost 5 = .ok (.invokevirtual 70, 3) := by decide +kernel
theorem dL_nextCompost_8 : decode cL_nextCompost 8 = .ok (.istore_n 1, 1) := by decide +kernel
theorem dL_nextCompost_9 : decode cL_nextCompost 9 = .ok (.goto 8, 3) := by decide +kernel
theorem dL_nextCompost_12 : decode cL_nextCompost 12 = .ok (.astore_n 2, 1) := by decide +kernel
theorem dL_nextCompost_13 : decode cL_nextCompost 13 = .ok (.sipush (-1000), 3) := by decide +kernel
theorem dL_nextCompost_16 : decode cL_nextCompost 16 = .ok (.ireturn, 1) := by decide +kernel
theorem dL_nextCompost_17 : decode cL_nextCompost 17 = .ok (.iload_n 1, 1) := by decide +kernel
theorem dL_nextCompost_18 : decode cL_nextCompost 18 = .ok (.ireturn, 1) := by decide +kernel
theorem dL_nextCompostByScan_0 : decode cL_nextCompostByScan 0 = .ok (.sipush (-1000), 3) := by decide +kernel
theorem dL_nextCompostByScan_3 : decode cL_nextCompostByScan 3 = .ok (.istore_n 1, 1) := by decide +kernel
theorem dL_nextCompostByScan_4 : decode cL_nextCompostByScan 4 = .ok (.aload_n 0, 1) := by decide +kernel
theorem dL_nextCompostByScan_5 : decode cL_nextCompostByScan 5 = .ok (.invokevirtual 73, 3) := by decide +kernel
theorem dL_nextCompostByScan_8 : decode cL_nextCompostByScan 8 = .ok (.istore_n 1, 1) := by decide +kernel
theorem dL_nextCompostByScan_9 : decode cL_nextCompostByScan 9 = .ok (.goto 8, 3) := by decide +kernel
theorem dL_nextCompostByScan_12 : decode cL_nextCompostByScan 12 = .ok (.astore_n 2, 1) := by decide +kernel
theorem dL_nextCompostByScan_13 : decode cL_nextCompostByScan 13 = .ok (.sipush (-1000), 3) := by decide +kernel
theorem dL_nextCompostByScan_16 : decode cL_nextCompostByScan 16 = .ok (.ireturn, 1) := by decide +kernel
theorem dL_nextCompostByScan_17 : decode cL_nextCompostByScan 17 = .ok (.iload_n 1, 1) := by decide +kernel
theorem dL_nextCompostByScan_18 : decode cL_nextCompostByScan 18 = .ok (.ireturn, 1) := by decide +kernel
theorem dL_pass_0 : decode cL_pass 0 = .ok (.ldc 10, 2) := by decide +kernel
theorem dL_pass_2 : decode cL_pass 2 = .ok (.istore_n 2, 1) := by decide +kernel
theorem dL_pass_3 : decode cL_pass 3 = .ok (.aload_n 0, 1) := by decide +kernel
theorem dL_pass_4 : decode cL_pass 4 = .ok (.iload_n 1, 1) := by decide +kernel
theorem dL_pass_5 : decode cL_pass 5 = .ok (.invokevirtual 76, 3) := by decide +kernel
theorem dL_pass_8 : decode cL_pass 8 = .ok (.istore_n 2, 1) := by decide +kernel
theorem dL_pass_9 : decode cL_pass 9 = .ok (.goto 7, 3) := by decide +kernel
theorem dL_pass_12 : decode cL_pass 12 = .ok (.astore_n 3, 1) := by decide +kernel
theorem dL_pass_13 : decode cL_pass 13 = .ok (.ldc 10, 2) := by decide +kernel
theorem dL_pass_15 : decode cL_pass 15 = .ok (.ireturn, 1) := by decide +kernel
theorem dL_pass_16 : decode cL_pass 16 = .ok (.iload_n 2, 1) := by decide +kernel
theorem dL_pass_17 : decode cL_pass 17 = .ok (.ireturn, 1) := by decide +kernel
theorem dL_meanVolume_0 : decode cL_meanVolume 0 = .ok (.ldc2_w 79, 3) := by decide +kernel
theorem dL_meanVolume_3 : decode cL_meanVolume 3 = .ok (.dstore_n 1, 1) := by decide +kernel
theorem dL_meanVolume_4 : decode cL_meanVolume 4 = .ok (.aload_n 0, 1) := by decide +kernel
theorem dL_meanVolume_5 : decode cL_meanVolume 5 = .ok (.invokevirtual 81, 3) := by decide +kernel
theorem dL_meanVolume_8 : decode cL_meanVolume 8 = .ok (.dstore_n 1, 1) := by decide +kernel
theorem dL_meanVolume_9 : decode cL_meanVolume 9 = .ok (.goto 8, 3) := by decide +kernel
theorem dL_meanVolume_12 : decode cL_meanVolume 12 = .ok (.astore_n 3, 1) := by decide +kernel
theorem dL_meanVolume_13 : decode cL_meanVolume 13 = .ok (.ldc2_w 79, 3) := by decide +kernel
theorem dL_meanVolume_16 : decode cL_meanVolume 16 = .ok (.dreturn, 1) := by decide +kernel
theorem dL_meanVolume_17 : decode cL_meanVolume 17 = .ok (.dload_n 1, 1) := by decide +kernel
theorem dL_meanVolume_18 : decode cL_meanVolume 18 = .ok (.dreturn, 1) := by decide +kernel
theorem dL_expiredShare_0 : decode cL_expiredShare 0 = .ok (.ldc 87, 2) := by decide +kernel
theorem dL_expiredShare_2 : decode cL_expiredShare 2 = .ok (.fstore_n 1, 1) := by decide +kernel
theorem dL_expiredShare_3 : decode cL_expiredShare 3 = .ok (.aload_n 0, 1) := by decide +kernel
theorem dL_expiredShare_4 : decode cL_expiredShare 4 = .ok (.invokevirtual 88, 3) := by decide +kernel
theorem dL_expiredShare_7 : decode cL_expiredShare 7 = .ok (.fstore_n 1, 1) := by decide +kernel
theorem dL_expiredShare_8 : decode cL_expiredShare 8 = .ok (.goto 7, 3) := by decide +kernel
theorem dL_expiredShare_11 : decode cL_expiredShare 11 = .ok (.astore_n 2, 1) := by decide +kernel
theorem dL_expiredShare_12 : decode cL_expiredShare 12 = .ok (.ldc 87, 2) := by decide +kernel
theorem dL_expiredShare_14 : decode cL_expiredShare 14 = .ok (.freturn, 1) := by decide +kernel
theorem dL_expiredShare_15 : decode cL_expiredShare 15 = .ok (.fload_n 1, 1) := by decide +kernel
theorem dL_expiredShare_16 : decode cL_expiredShare 16 = .ok (.freturn, 1) := by decide +kernel
theorem dL_execute_0 : decode cL_execute 0 = .ok (.ldc 10, 2) := by decide +kernel
theorem dL_execute_2 : decode cL_execute 2 = .ok (.istore_n 1, 1) := by decide +kernel
theorem dL_execute_3 : decode cL_execute 3 = .ok (.aload_n 0, 1) := by decide +kernel
theorem dL_execute_4 : decode cL_execute 4 = .ok (.invokevirtual 92, 3) := by decide +kernel
theorem dL_execute_7 : decode cL_execute 7 = .ok (.istore_n 1, 1) := by decide +kernel
theorem dL_execute_8 : decode cL_execute 8 = .ok (.goto 11, 3) := by decide +kernel
theorem dL_execute_11 : decode cL_execute 11 = .ok (.astore_n 2, 1) := by decide +kernel
theorem dL_execute_12 : decode cL_execute 12 = .ok (.ldc 10, 2) := by decide +kernel
theorem dL_execute_14 : decode cL_execute 14 = .ok (.ireturn, 1) := by decide +kernel
theorem dL_execute_15 : decode cL_execute 15 = .ok (.astore_n 2, 1) := by decide +kernel
theorem dL_execute_16 : decode cL_execute 16 = .ok (.ldc 10, 2) := by decide +kernel
theorem dL_execute_18 : decode cL_execute 18 = .ok (.ireturn, 1) := by decide +kernel
theorem dL_execute_19 : decode cL_execute 19 = .ok (.iload_n 1, 1) := by decide +kernel
theorem dL_execute_20 : decode cL_execute 20 = .ok (.ireturn, 1) := by decide +kernel
theorem dL_denial_0 : decode cL_denial 0 = .ok (.sipush (-1000), 3) := by decide +kernel
theorem dL_denial_3 : decode cL_denial 3 = .ok (.istore_n 1, 1) := by decide +kernel
theorem dL_denial_4 : decode cL_denial 4 = .ok (.aload_n 0, 1) := by decide +kernel
theorem dL_denial_5 : decode cL_denial 5 = .ok (.invokevirtual 95, 3) := by decide +kernel
theorem dL_denial_8 : decode cL_denial 8 = .ok (.istore_n 1, 1) := by decide +kernel
theorem dL_denial_9 : decode cL_denial 9 = .ok (.goto 8, 3) := by decide +kernel
theorem dL_denial_12 : decode cL_denial 12 = .ok (.astore_n 2, 1) := by decide +kernel
theorem dL_denial_13 : decode cL_denial 13 = .ok (.sipush (-1000), 3) := by decide +kernel
theorem dL_denial_16 : decode cL_denial 16 = .ok (.ireturn, 1) := by decide +kernel
theorem dL_denial_17 : decode cL_denial 17 = .ok (.iload_n 1, 1) := by decide +kernel
theorem dL_denial_18 : decode cL_denial 18 = .ok (.ireturn, 1) := by decide +kernel
theorem dL_denialCause_0 : decode cL_denialCause 0 = .ok (.sipush (-1000), 3) := by decide +kernel
theorem dL_denialCause_3 : decode cL_denialCause 3 = .ok (.istore_n 1, 1) := by decide +kernel
theorem dL_denialCause_4 : decode cL_denialCause 4 = .ok (.aload_n 0, 1) := by decide +kernel
theorem dL_denialCause_5 : decode cL_denialCause 5 = .ok (.invokevirtual 98, 3) := by decide +kernel
theorem dL_denialCause_8 : decode cL_denialCause 8 = .ok (.istore_n 1, 1) := by decide +kernel
theorem dL_denialCause_9 : decode cL_denialCause 9 = .ok (.goto 8, 3) := by decide +kernel
theorem dL_denialCause_12 : decode cL_denialCause 12 = .ok (.astore_n 2, 1) := by decide +kernel
theorem dL_denialCause_13 : decode cL_denialCause 13 = .ok (.sipush (-1000), 3) := by decide +kernel
theorem dL_denialCause_16 : decode cL_denialCause 16 = .ok (.ireturn, 1) := by decide +kernel
theorem dL_denialCause_17 : decode cL_denialCause 17 = .ok (.iload_n 1, 1) := by decide +kernel
theorem dL_denialCause_18 : decode cL_denialCause 18 = .ok (.ireturn, 1) := by decide +kernel
theorem dL_undo_0 : decode cL_undo 0 = .ok (.ldc 10, 2) := by decide +kernel
theorem dL_undo_2 : decode cL_undo 2 = .ok (.istore_n 1, 1) := by decide +kernel
theorem dL_undo_3 : decode cL_undo 3 = .ok (.aload_n 0, 1) := by decide +kernel
theorem dL_undo_4 : decode cL_undo 4 = .ok (.invokevirtual 101, 3) := by decide +kernel
theorem dL_undo_7 : decode cL_undo 7 = .ok (.istore_n 1, 1) := by decide +kernel
theorem dL_undo_8 : decode cL_undo 8 = .ok (.goto 7, 3) := by decide +kernel
theorem dL_undo_11 : decode cL_undo 11 = .ok (.astore_n 2, 1) := by decide +kernel
theorem dL_undo_12 : decode cL_undo 12 = .ok (.ldc 10, 2) := by decide +kernel
theorem dL_undo_14 : decode cL_undo 14 = .ok (.ireturn, 1) := by decide +kernel
theorem dL_undo_15 : decode cL_undo 15 = .ok (.iload_n 1, 1) := by decide +kernel
theorem dL_undo_16 : decode cL_undo 16 = .ok (.ireturn, 1) := by decide +kernel
theorem dL_restore_0 : decode cL_restore 0 = .ok (.ldc 10, 2) := by decide +kernel
theorem dL_restore_2 : decode cL_restore 2 = .ok (.istore_n 1, 1) := by decide +kernel
theorem dL_restore_3 : decode cL_restore 3 = .ok (.aload_n 0, 1) := by decide +kernel
theorem dL_restore_4 : decode cL_restore 4 = .ok (.invokevirtual 106, 3) := by decide +kernel
theorem dL_restore_7 : decode cL_restore 7 = .ok (.istore_n 1, 1) := by decide +kernel
theorem dL_restore_8 : decode cL_restore 8 = .ok (.goto 7, 3) := by decide +kernel
theorem dL_restore_11 : decode cL_restore 11 = .ok (.astore_n 2, 1) := by decide +kernel
theorem dL_restore_12 : decode cL_restore 12 = .ok (.ldc 10, 2) := by decide +kernel
theorem dL_restore_14 : decode cL_restore 14 = .ok (.ireturn, 1) := by decide +kernel
theorem dL_restore_15 : decode cL_restore 15 = .ok (.iload_n 1, 1) := by decide +kernel
theorem dL_restore_16 : decode cL_restore 16 = .ok (.ireturn, 1) := by decide +kernel
theorem dL_put_0 : decode cL_put 0 = .ok (.aload_n 0, 1) := by decide +kernel
theorem dL_put_1 : decode cL_put 1 = .ok (.iload_n 1, 1) := by decide +kernel
theorem dL_put_2 : decode cL_put 2 = .ok (.invokevirtual 109, 3) := by decide +kernel
theorem dL_put_5 : decode cL_put 5 = .ok (.pop, 1) := by decide +kernel
theorem dL_put_6 : decode cL_put 6 = .ok (.goto 6, 3) := by decide +kernel
theorem dL_put_9 : decode cL_put 9 = .ok (.astore_n 2, 1) := by decide +kernel
theorem dL_put_10 : decode cL_put 10 = .ok (.iconst 0, 1) := by decide +kernel
theorem dL_put_11 : decode cL_put 11 = .ok (.ireturn, 1) := by decide +kernel
theorem dL_put_12 : decode cL_put 12 = .ok (.iconst 1, 1) := by decide +kernel
theorem dL_put_13 : decode cL_put 13 = .ok (.ireturn, 1) := by decide +kernel
theorem dL_typed_0 : decode cL_typed 0 = .ok (.iconst 0, 1) := by decide +kernel
theorem dL_typed_1 : decode cL_typed 1 = .ok (.istore_n 2, 1) := by decide +kernel
theorem dL_typed_2 : decode cL_typed 2 = .ok (.iload_n 2, 1) := by decide +kernel
theorem dL_typed_3 : decode cL_typed 3 = .ok (.aload_n 1, 1) := by decide +kernel
theorem dL_typed_4 : decode cL_typed 4 = .ok (.invokevirtual 113, 3) := by decide +kernel
theorem dL_typed_7 : decode cL_typed 7 = .ok (.if_icmp .ge 19, 3) := by decide +kernel
theorem dL_typed_10 : decode cL_typed 10 = .ok (.aload_n 0, 1) := by decide +kernel
theorem dL_typed_11 : decode cL_typed 11 = .ok (.aload_n 1, 1) := by decide +kernel
theorem dL_typed_12 : decode cL_typed 12 = .ok (.iload_n 2, 1) := by decide +kernel
theorem dL_typed_13 : decode cL_typed 13 = .ok (.invokevirtual 118, 3) := by decide +kernel
theorem dL_typed_16 : decode cL_typed 16 = .ok (.invokestatic 122, 3) := by decide +kernel
theorem dL_typed_19 : decode cL_typed 19 = .ok (.pop, 1) := by decide +kernel
theorem dL_typed_20 : decode cL_typed 20 = .ok (.iinc 2 1, 3) := by decide +kernel
theorem dL_typed_23 : decode cL_typed 23 = .ok (.goto (-21), 3) := by decide +kernel
theorem dL_typed_26 : decode cL_typed 26 = .ok (.aload_n 0, 1) := by decide +kernel
theorem dL_typed_27 : decode cL_typed 27 = .ok (.areturn, 1) := by decide +kernel
theorem dL_act_0 : decode cL_act 0 = .ok (.iload_n 1, 1) := by decide +kernel
theorem dL_act_1 : decode cL_act 1 = .ok (.iconst 4, 1) := by decide +kernel
theorem dL_act_2 : decode cL_act 2 = .ok (.ishr, 1) := by decide +kernel
theorem dL_act_3 : decode cL_act 3 = .ok (.ldc 7, 2) := by decide +kernel
theorem dL_act_5 : decode cL_act 5 = .ok (.iand, 1) := by decide +kernel
theorem dL_act_6 : decode cL_act 6 = .ok (.istore_n 2, 1) := by decide +kernel
theorem dL_act_7 : decode cL_act 7 = .ok (.iload_n 2, 1) := by decide +kernel
theorem dL_act_8 : decode cL_act 8 = .ok (.bipush 12, 2) := by decide +kernel
theorem dL_act_10 : decode cL_act 10 = .ok (.irem, 1) := by decide +kernel
theorem dL_act_11 : decode cL_act 11 = .ok (.istore_n 3, 1) := by decide +kernel
theorem dL_act_12 : decode cL_act 12 = .ok (.iload_n 2, 1) := by decide +kernel
theorem dL_act_13 : decode cL_act 13 = .ok (.iconst 4, 1) := by decide +kernel
theorem dL_act_14 : decode cL_act 14 = .ok (.ishr, 1) := by decide +kernel
theorem dL_act_15 : decode cL_act 15 = .ok (.bipush 12, 2) := by decide +kernel
theorem dL_act_17 : decode cL_act 17 = .ok (.irem, 1) := by decide +kernel
theorem dL_act_18 : decode cL_act 18 = .ok (.istore 4, 2) := by decide +kernel
theorem dL_act_20 : decode cL_act 20 = .ok (.iload_n 1, 1) := by decide +kernel
theorem dL_act_21 : decode cL_act 21 = .ok (.bipush 15, 2) := by decide +kernel
theorem dL_act_23 : decode cL_act 23 = .ok (.iand, 1) := by decide +kernel
theorem dL_act_24 : decode cL_act 24 = .ok (.tableswitch 229 0 14 #[76, 108, 108, 108, 134, 134, 146, 146, 154, 166, 180, 200, 211, 211, 211], 76) := by decide +kernel
theorem dL_act_100 : decode cL_act 100 = .ok (.iload_n 2, 1) := by decide +kernel
theorem dL_act_101 : decode cL_act 101 = .ok (.bipush 64, 2) := by decide +kernel
theorem dL_act_103 : decode cL_act 103 = .ok (.iand, 1) := by decide +kernel
theorem dL_act_104 : decode cL_act 104 = .ok (.ifCond .ne 19, 3) := by decide +kernel
theorem dL_act_107 : decode cL_act 107 = .ok (.aload_n 0, 1) := by decide +kernel
theorem dL_act_108 : decode cL_act 108 = .ok (.iload_n 2, 1) := by decide +kernel
theorem dL_act_109 : decode cL_act 109 = .ok (.iconst 4, 1) := by decide +kernel
theorem dL_act_110 : decode cL_act 110 = .ok (.irem, 1) := by decide +kernel
theorem dL_act_111 : decode cL_act 111 = .ok (.iload_n 2, 1) := by decide +kernel
theorem dL_act_112 : decode cL_act 112 = .ok (.iconst 2, 1) := by decide +kernel
theorem dL_act_113 : decode cL_act 113 = .ok (.ishr, 1) := by decide +kernel
theorem dL_act_114 : decode cL_act 114 = .ok (.bipush 42, 2) := by decide +kernel
theorem dL_act_116 : decode cL_act 116 = .ok (.irem, 1) := by decide +kernel
theorem dL_act_117 : decode cL_act 117 = .ok (.invokestatic 126, 3) := by decide +kernel
theorem dL_act_120 : decode cL_act 120 = .ok (.goto 11, 3) := by decide +kernel
theorem dL_act_123 : decode cL_act 123 = .ok (.aload_n 0, 1) := by decide +kernel
theorem dL_act_124 : decode cL_act 124 = .ok (.iload_n 2, 1) := by decide +kernel
theorem dL_act_125 : decode cL_act 125 = .ok (.bipush 9, 2) := by decide +kernel
theorem dL_act_127 : decode cL_act 127 = .ok (.irem, 1) := by decide +kernel
theorem dL_act_128 : decode cL_act 128 = .ok (.invokestatic 129, 3) := by decide +kernel
theorem dL_act_131 : decode cL_act 131 = .ok (.ireturn, 1) := by decide +kernel
theorem dL_act_132 : decode cL_act 132 = .ok (.aload_n 0, 1) := by decide +kernel
theorem dL_act_133 : decode cL_act 133 = .ok (.iload_n 2, 1) := by decide +kernel
theorem dL_act_134 : decode cL_act 134 = .ok (.iconst 4, 1) := by decide +kernel
theorem dL_act_135 : decode cL_act 135 = .ok (.irem, 1) := by decide +kernel
theorem dL_act_136 : decode cL_act 136 = .ok (.iload_n 2, 1) := by decide +kernel
theorem dL_act_137 : decode cL_act 137 = .ok (.iconst 2, 1) := by decide +kernel
theorem dL_act_138 : decode cL_act 138 = .ok (.ishr, 1) := by decide +kernel
theorem dL_act_139 : decode cL_act 139 = .ok (.bipush 15, 2) := by decide +kernel
theorem dL_act_141 : decode cL_act 141 = .ok (.irem, 1) := by decide +kernel
theorem dL_act_142 : decode cL_act 142 = .ok (.iload_n 2, 1) := by decide +kernel
theorem dL_act_143 : decode cL_act 143 = .ok (.iconst 5, 1) := by decide +kernel
theorem dL_act_144 : decode cL_act 144 = .ok (.ishr, 1) := by decide +kernel
theorem dL_act_145 : decode cL_act 145 = .ok (.iconst 3, 1) := by decide +kernel
theorem dL_act_146 : decode cL_act 146 = .ok (.irem, 1) := by decide +kernel
theorem dL_act_147 : decode cL_act 147 = .ok (.iload_n 2, 1) := by decide +kernel
theorem dL_act_148 : decode cL_act 148 = .ok (.bipush 6, 2) := by decide +kernel
theorem dL_act_150 : decode cL_act 150 = .ok (.ishr, 1) := by decide +kernel
theorem dL_act_151 : decode cL_act 151 = .ok (.bipush 12, 2) := by decide +kernel
theorem dL_act_153 : decode cL_act 153 = .ok (.irem, 1) := by decide +kernel
theorem dL_act_154 : decode cL_act 154 = .ok (.invokestatic 132, 3) := by decide +kernel
theorem dL_act_157 : decode cL_act 157 = .ok (.ireturn, 1) := by decide +kernel
theorem dL_act_158 : decode cL_act 158 = .ok (.aload_n 0, 1) := by decide +kernel
theorem dL_act_159 : decode cL_act 159 = .ok (.iload_n 3, 1) := by decide +kernel
theorem dL_act_160 : decode cL_act 160 = .ok (.iload_n 2, 1) := by decide +kernel
theorem dL_act_161 : decode cL_act 161 = .ok (.iconst 4, 1) := by decide +kernel
theorem dL_act_162 : decode cL_act 162 = .ok (.ishr, 1) := by decide +kernel
theorem dL_act_163 : decode cL_act 163 = .ok (.bipush 8, 2) := by decide +kernel
theorem dL_act_165 : decode cL_act 165 = .ok (.irem, 1) := by decide +kernel
theorem dL_act_166 : decode cL_act 166 = .ok (.invokestatic 135, 3) := by decide +kernel
theorem dL_act_169 : decode cL_act 169 = .ok (.ireturn, 1) := by decide +kernel
theorem dL_act_170 : decode cL_act 170 = .ok (.aload_n 0, 1) := by decide +kernel
theorem dL_act_171 : decode cL_act 171 = .ok (.iload_n 3, 1) := by decide +kernel
theorem dL_act_172 : decode cL_act 172 = .ok (.iload 4, 2) := by decide +kernel
theorem dL_act_174 : decode cL_act 174 = .ok (.invokestatic 137, 3) := by decide +kernel
theorem dL_act_177 : decode cL_act 177 = .ok (.ireturn, 1) := by decide +kernel
theorem dL_act_178 : decode cL_act 178 = .ok (.aload_n 0, 1) := by decide +kernel
theorem dL_act_179 : decode cL_act 179 = .ok (.iload_n 3, 1) := by decide +kernel
theorem dL_act_180 : decode cL_act 180 = .ok (.iload_n 2, 1) := by decide +kernel
theorem dL_act_181 : decode cL_act 181 = .ok (.iconst 4, 1) := by decide +kernel
theorem dL_act_182 : decode cL_act 182 = .ok (.ishr, 1) := by decide +kernel
theorem dL_act_183 : decode cL_act 183 = .ok (.bipush 7, 2) := by decide +kernel
theorem dL_act_185 : decode cL_act 185 = .ok (.irem, 1) := by decide +kernel
theorem dL_act_186 : decode cL_act 186 = .ok (.invokestatic 139, 3) := by decide +kernel
theorem dL_act_189 : decode cL_act 189 = .ok (.ireturn, 1) := by decide +kernel
theorem dL_act_190 : decode cL_act 190 = .ok (.aload_n 0, 1) := by decide +kernel
theorem dL_act_191 : decode cL_act 191 = .ok (.iload_n 2, 1) := by decide +kernel
theorem dL_act_192 : decode cL_act 192 = .ok (.iconst 4, 1) := by decide +kernel
theorem dL_act_193 : decode cL_act 193 = .ok (.irem, 1) := by decide +kernel
theorem dL_act_194 : decode cL_act 194 = .ok (.iload_n 2, 1) := by decide +kernel
theorem dL_act_195 : decode cL_act 195 = .ok (.iconst 3, 1) := by decide +kernel
theorem dL_act_196 : decode cL_act 196 = .ok (.ishr, 1) := by decide +kernel
theorem dL_act_197 : decode cL_act 197 = .ok (.bipush 20, 2) := by decide +kernel
theorem dL_act_199 : decode cL_act 199 = .ok (.irem, 1) := by decide +kernel
theorem dL_act_200 : decode cL_act 200 = .ok (.invokestatic 141, 3) := by decide +kernel
theorem dL_act_203 : decode cL_act 203 = .ok (.ireturn, 1) := by decide +kernel
theorem dL_act_204 : decode cL_act 204 = .ok (.iload_n 2, 1) := by decide +kernel
theorem dL_act_205 : decode cL_act 205 = .ok (.bipush 64, 2) := by decide +kernel
theorem dL_act_207 : decode cL_act 207 = .ok (.iand, 1) := by decide +kernel
theorem dL_act_208 : decode cL_act 208 = .ok (.ifCond .ne 11, 3) := by decide +kernel
theorem dL_act_211 : decode cL_act 211 = .ok (.aload_n 0, 1) := by decide +kernel
theorem dL_act_212 : decode cL_act 212 = .ok (.iload_n 3, 1) := by decide +kernel
theorem dL_act_213 : decode cL_act 213 = .ok (.invokestatic 143, 3) := by decide +kernel
theorem dL_act_216 : decode cL_act 216 = .ok (.goto 7, 3) := by decide +kernel
theorem dL_act_219 : decode cL_act 219 = .ok (.aload_n 0, 1) := by decide +kernel
theorem dL_act_220 : decode cL_act 220 = .ok (.invokestatic 145, 3) := by decide +kernel
theorem dL_act_223 : decode cL_act 223 = .ok (.ireturn, 1) := by decide +kernel
theorem dL_act_224 : decode cL_act 224 = .ok (.aload_n 0, 1) := by decide +kernel
theorem dL_act_225 : decode cL_act 225 = .ok (.iload_n 2, 1) := by decide +kernel
theorem dL_act_226 : decode cL_act 226 = .ok (.iconst 3, 1) := by decide +kernel
theorem dL_act_227 : decode cL_act 227 = .ok (.ishr, 1) := by decide +kernel
theorem dL_act_228 : decode cL_act 228 = .ok (.bipush 6, 2) := by decide +kernel
theorem dL_act_230 : decode cL_act 230 = .ok (.irem, 1) := by decide +kernel
theorem dL_act_231 : decode cL_act 231 = .ok (.invokestatic 148, 3) := by decide +kernel
theorem dL_act_234 : decode cL_act 234 = .ok (.ireturn, 1) := by decide +kernel
theorem dL_act_235 : decode cL_act 235 = .ok (.aload_n 0, 1) := by decide +kernel
theorem dL_act_236 : decode cL_act 236 = .ok (.getstatic 150, 3) := by decide +kernel
theorem dL_act_239 : decode cL_act 239 = .ok (.iload_n 2, 1) := by decide +kernel
theorem dL_act_240 : decode cL_act 240 = .ok (.getstatic 150, 3) := by decide +kernel
theorem dL_act_243 : decode cL_act 243 = .ok (.arraylength, 1) := by decide +kernel
theorem dL_act_244 : decode cL_act 244 = .ok (.irem, 1) := by decide +kernel
theorem dL_act_245 : decode cL_act 245 = .ok (.aaload, 1) := by decide +kernel
theorem dL_act_246 : decode cL_act 246 = .ok (.invokestatic 154, 3) := by decide +kernel
theorem dL_act_249 : decode cL_act 249 = .ok (.invokestatic 158, 3) := by decide +kernel
theorem dL_act_252 : decode cL_act 252 = .ok (.ireturn, 1) := by decide +kernel
theorem dL_act_253 : decode cL_act 253 = .ok (.iload_n 2, 1) := by decide +kernel
theorem dL_act_254 : decode cL_act 254 = .ok (.iconst 3, 1) := by decide +kernel
theorem dL_act_255 : decode cL_act 255 = .ok (.iand, 1) := by decide +kernel
theorem dL_act_256 : decode cL_act 256 = .ok (.ifCond .ne 10, 3) := by decide +kernel
theorem dL_act_259 : decode cL_act 259 = .ok (.aload_n 0, 1) := by decide +kernel
theorem dL_act_260 : decode cL_act 260 = .ok (.invokevirtual 160, 3) := by decide +kernel
theorem dL_act_263 : decode cL_act 263 = .ok (.goto 21, 3) := by decide +kernel
theorem dL_act_266 : decode cL_act 266 = .ok (.iload_n 2, 1) := by decide +kernel
theorem dL_act_267 : decode cL_act 267 = .ok (.iconst 3, 1) := by decide +kernel
theorem dL_act_268 : decode cL_act 268 = .ok (.iand, 1) := by decide +kernel
theorem dL_act_269 : decode cL_act 269 = .ok (.iconst 1, 1) := by decide +kernel
theorem dL_act_270 : decode cL_act 270 = .ok (.if_icmp .ne 10, 3) := by decide +kernel
theorem dL_act_273 : decode cL_act 273 = .ok (.aload_n 0, 1) := by decide +kernel
theorem dL_act_274 : decode cL_act 274 = .ok (.invokestatic 163, 3) := by decide +kernel
theorem dL_act_277 : decode cL_act 277 = .ok (.goto 7, 3) := by decide +kernel
theorem dL_act_280 : decode cL_act 280 = .ok (.aload_n 0, 1) := by decide +kernel
theorem dL_act_281 : decode cL_act 281 = .ok (.invokestatic 166, 3) := by decide +kernel
theorem dL_act_284 : decode cL_act 284 = .ok (.ireturn, 1) := by decide +kernel
theorem dL_digest_0 : decode cL_digest 0 = .ok (.ldc2_w 168, 3) := by decide +kernel
theorem dL_digest_3 : decode cL_digest 3 = .ok (.aload_n 0, 1) := by decide +kernel
theorem dL_digest_4 : decode cL_digest 4 = .ok (.invokevirtual 170, 3) := by decide +kernel
theorem dL_digest_7 : decode cL_digest 7 = .ok (.i2l, 1) := by decide +kernel
theorem dL_digest_8 : decode cL_digest 8 = .ok (.lmul, 1) := by decide +kernel
theorem dL_digest_9 : decode cL_digest 9 = .ok (.ldc2_w 173, 3) := by decide +kernel
theorem dL_digest_12 : decode cL_digest 12 = .ok (.aload_n 0, 1) := by decide +kernel
theorem dL_digest_13 : decode cL_digest 13 = .ok (.invokevirtual 175, 3) := by decide +kernel
theorem dL_digest_16 : decode cL_digest 16 = .ok (.i2l, 1) := by decide +kernel
theorem dL_digest_17 : decode cL_digest 17 = .ok (.lmul, 1) := by decide +kernel
theorem dL_digest_18 : decode cL_digest 18 = .ok (.ladd, 1) := by decide +kernel
theorem dL_digest_19 : decode cL_digest 19 = .ok (.ldc2_w 178, 3) := by decide +kernel
theorem dL_digest_22 : decode cL_digest 22 = .ok (.aload_n 0, 1) := by decide +kernel
theorem dL_digest_23 : decode cL_digest 23 = .ok (.invokevirtual 180, 3) := by decide +kernel
theorem dL_digest_26 : decode cL_digest 26 = .ok (.i2l, 1) := by decide +kernel
theorem dL_digest_27 : decode cL_digest 27 = .ok (.lmul, 1) := by decide +kernel
theorem dL_digest_28 : decode cL_digest 28 = .ok (.ladd, 1) := by decide +kernel
theorem dL_digest_29 : decode cL_digest 29 = .ok (.ldc2_w 183, 3) := by decide +kernel
theorem dL_digest_32 : decode cL_digest 32 = .ok (.aload_n 0, 1) := by decide +kernel
theorem dL_digest_33 : decode cL_digest 33 = .ok (.invokevirtual 185, 3) := by decide +kernel
theorem dL_digest_36 : decode cL_digest 36 = .ok (.i2l, 1) := by decide +kernel
theorem dL_digest_37 : decode cL_digest 37 = .ok (.lmul, 1) := by decide +kernel
theorem dL_digest_38 : decode cL_digest 38 = .ok (.ladd, 1) := by decide +kernel
theorem dL_digest_39 : decode cL_digest 39 = .ok (.ldc2_w 188, 3) := by decide +kernel
theorem dL_digest_42 : decode cL_digest 42 = .ok (.aload_n 0, 1) := by decide +kernel
theorem dL_digest_43 : decode cL_digest 43 = .ok (.invokevirtual 190, 3) := by decide +kernel
theorem dL_digest_46 : decode cL_digest 46 = .ok (.i2l, 1) := by decide +kernel
theorem dL_digest_47 : decode cL_digest 47 = .ok (.lmul, 1) := by decide +kernel
theorem dL_digest_48 : decode cL_digest 48 = .ok (.ladd, 1) := by decide +kernel
theorem dL_digest_49 : decode cL_digest 49 = .ok (.aload_n 0, 1) := by decide +kernel
theorem dL_digest_50 : decode cL_digest 50 = .ok (.invokevirtual 193, 3) := by decide +kernel
theorem dL_digest_53 : decode cL_digest 53 = .ok (.i2l, 1) := by decide +kernel
theorem dL_digest_54 : decode cL_digest 54 = .ok (.ladd, 1) := by decide +kernel
theorem dL_digest_55 : decode cL_digest 55 = .ok (.lstore_n 1, 1) := by decide +kernel
theorem dL_digest_56 : decode cL_digest 56 = .ok (.iconst 0, 1) := by decide +kernel
theorem dL_digest_57 : decode cL_digest 57 = .ok (.istore_n 3, 1) := by decide +kernel
theorem dL_digest_58 : decode cL_digest 58 = .ok (.iload_n 3, 1) := by decide +kernel
theorem dL_digest_59 : decode cL_digest 59 = .ok (.aload_n 0, 1) := by decide +kernel
theorem dL_digest_60 : decode cL_digest 60 = .ok (.invokevirtual 193, 3) := by decide +kernel
theorem dL_digest_63 : decode cL_digest 63 = .ok (.if_icmp .ge 44, 3) := by decide +kernel
theorem dL_digest_66 : decode cL_digest 66 = .ok (.ldc2_w 196, 3) := by decide +kernel
theorem dL_digest_69 : decode cL_digest 69 = .ok (.ldc2_w 196, 3) := by decide +kernel
theorem dL_digest_72 : decode cL_digest 72 = .ok (.ldc2_w 196, 3) := by decide +kernel
theorem dL_digest_75 : decode cL_digest 75 = .ok (.lload_n 1, 1) := by decide +kernel
theorem dL_digest_76 : decode cL_digest 76 = .ok (.lmul, 1) := by decide +kernel
theorem dL_digest_77 : decode cL_digest 77 = .ok (.aload_n 0, 1) := by decide +kernel
theorem dL_digest_78 : decode cL_digest 78 = .ok (.iload_n 3, 1) := by decide +kernel
theorem dL_digest_79 : decode cL_digest 79 = .ok (.invokevirtual 198, 3) := by decide +kernel
theorem dL_digest_82 : decode cL_digest 82 = .ok (.i2l, 1) := by decide +kernel
theorem dL_digest_83 : decode cL_digest 83 = .ok (.ladd, 1) := by decide +kernel
theorem dL_digest_84 : decode cL_digest 84 = .ok (.lmul, 1) := by decide +kernel
theorem dL_digest_85 : decode cL_digest 85 = .ok (.aload_n 0, 1) := by decide +kernel
theorem dL_digest_86 : decode cL_digest 86 = .ok (.iload_n 3, 1) := by decide +kernel
theorem dL_digest_87 : decode cL_digest 87 = .ok (.invokevirtual 201, 3) := by decide +kernel
theorem dL_digest_90 : decode cL_digest 90 = .ok (.i2l, 1) := by decide +kernel
theorem dL_digest_91 : decode cL_digest 91 = .ok (.ladd, 1) := by decide +kernel
theorem dL_digest_92 : decode cL_digest 92 = .ok (.lmul, 1) := by decide +kernel
theorem dL_digest_93 : decode cL_digest 93 = .ok (.aload_n 0, 1) := by decide +kernel
theorem dL_digest_94 : decode cL_digest 94 = .ok (.iload_n 3, 1) := by decide +kernel
theorem dL_digest_95 : decode cL_digest 95 = .ok (.invokestatic 204, 3) := by decide +kernel
theorem dL_digest_98 : decode cL_digest 98 = .ok (.i2l, 1) := by decide +kernel
theorem dL_digest_99 : decode cL_digest 99 = .ok (.ladd, 1) := by decide +kernel
theorem dL_digest_100 : decode cL_digest 100 = .ok (.lstore_n 1, 1) := by decide +kernel
theorem dL_digest_101 : decode cL_digest 101 = .ok (.iinc 3 1, 3) := by decide +kernel
theorem dL_digest_104 : decode cL_digest 104 = .ok (.goto (-46), 3) := by decide +kernel
theorem dL_digest_107 : decode cL_digest 107 = .ok (.iconst 0, 1) := by decide +kernel
theorem dL_digest_108 : decode cL_digest 108 = .ok (.istore_n 3, 1) := by decide +kernel
theorem dL_digest_109 : decode cL_digest 109 = .ok (.iload_n 3, 1) := by decide +kernel
theorem dL_digest_110 : decode cL_digest 110 = .ok (.aload_n 0, 1) := by decide +kernel
theorem dL_digest_111 : decode cL_digest 111 = .ok (.invokevirtual 190, 3) := by decide +kernel
theorem dL_digest_114 : decode cL_digest 114 = .ok (.if_icmp .ge 64, 3) := by decide +kernel
theorem dL_digest_117 : decode cL_digest 117 = .ok (.ldc2_w 196, 3) := by decide +kernel
theorem dL_digest_120 : decode cL_digest 120 = .ok (.ldc2_w 196, 3) := by decide +kernel
theorem dL_digest_123 : decode cL_digest 123 = .ok (.ldc2_w 196, 3) := by decide +kernel
theorem dL_digest_126 : decode cL_digest 126 = .ok (.lload_n 1, 1) := by decide +kernel
theorem dL_digest_127 : decode cL_digest 127 = .ok (.lmul, 1) := by decide +kernel
theorem dL_digest_128 : decode cL_digest 128 = .ok (.aload_n 0, 1) := by decide +kernel
theorem dL_digest_129 : decode cL_digest 129 = .ok (.iload_n 3, 1) := by decide +kernel
theorem dL_digest_130 : decode cL_digest 130 = .ok (.invokevirtual 206, 3) := by decide +kernel
theorem dL_digest_133 : decode cL_digest 133 = .ok (.i2l, 1) := by decide +kernel
theorem dL_digest_134 : decode cL_digest 134 = .ok (.ladd, 1) := by decide +kernel
theorem dL_digest_135 : decode cL_digest 135 = .ok (.lmul, 1) := by decide +kernel
theorem dL_digest_136 : decode cL_digest 136 = .ok (.aload_n 0, 1) := by decide +kernel
theorem dL_digest_137 : decode cL_digest 137 = .ok (.iload_n 3, 1) := by decide +kernel
theorem dL_digest_138 : decode cL_digest 138 = .ok (.invokevirtual 209, 3) := by decide +kernel
theorem dL_digest_141 : decode cL_digest 141 = .ok (.i2l, 1) := by decide +kernel
theorem dL_digest_142 : decode cL_digest 142 = .ok (.ladd, 1) := by decide +kernel
theorem dL_digest_143 : decode cL_digest 143 = .ok (.lmul, 1) := by decide +kernel
theorem dL_digest_144 : decode cL_digest 144 = .ok (.aload_n 0, 1) := by decide +kernel
theorem dL_digest_145 : decode cL_digest 145 = .ok (.iload_n 3, 1) := by decide +kernel
theorem dL_digest_146 : decode cL_digest 146 = .ok (.invokestatic 212, 3) := by decide +kernel
theorem dL_digest_149 : decode cL_digest 149 = .ok (.i2l, 1) := by decide +kernel
theorem dL_digest_150 : decode cL_digest 150 = .ok (.ladd, 1) := by decide +kernel
theorem dL_digest_151 : decode cL_digest 151 = .ok (.lstore_n 1, 1) := by decide +kernel
theorem dL_digest_152 : decode cL_digest 152 = .ok (.ldc2_w 196, 3) := by decide +kernel
theorem dL_digest_155 : decode cL_digest 155 = .ok (.lload_n 1, 1) := by decide +kernel
theorem dL_digest_156 : decode cL_digest 156 = .ok (.lmul, 1) := by decide +kernel
theorem dL_digest_157 : decode cL_digest 157 = .ok (.aload_n 0, 1) := by decide +kernel
theorem dL_digest_158 : decode cL_digest 158 = .ok (.iload_n 3, 1) := by decide +kernel
theorem dL_digest_159 : decode cL_digest 159 = .ok (.invokevirtual 214, 3) := by decide +kernel
theorem dL_digest_162 : decode cL_digest 162 = .ok (.i2l, 1) := by decide +kernel
theorem dL_digest_163 : decode cL_digest 163 = .ok (.ladd, 1) := by decide +kernel
theorem dL_digest_164 : decode cL_digest 164 = .ok (.aload_n 0, 1) := by decide +kernel
theorem dL_digest_165 : decode cL_digest 165 = .ok (.iload_n 3, 1) := by decide +kernel
theorem dL_digest_166 : decode cL_digest 166 = .ok (.invokevirtual 217, 3) := by decide +kernel
theorem dL_digest_169 : decode cL_digest 169 = .ok (.i2l, 1) := by decide +kernel
theorem dL_digest_170 : decode cL_digest 170 = .ok (.ladd, 1) := by decide +kernel
theorem dL_digest_171 : decode cL_digest 171 = .ok (.lstore_n 1, 1) := by decide +kernel
theorem dL_digest_172 : decode cL_digest 172 = .ok (.iinc 3 1, 3) := by decide +kernel
theorem dL_digest_175 : decode cL_digest 175 = .ok (.goto (-66), 3) := by decide +kernel
theorem dL_digest_178 : decode cL_digest 178 = .ok (.lload_n 1, 1) := by decide +kernel
theorem dL_digest_179 : decode cL_digest 179 = .ok (.lreturn, 1) := by decide +kernel
theorem dL_areShelves_0 : decode cL_areShelves 0 = .ok (.iconst 0, 1) := by decide +kernel
theorem dL_areShelves_1 : decode cL_areShelves 1 = .ok (.istore_n 1, 1) := by decide +kernel
theorem dL_areShelves_2 : decode cL_areShelves 2 = .ok (.aload_n 0, 1) := by decide +kernel
theorem dL_areShelves_3 : decode cL_areShelves 3 = .ok (.aload_n 0, 1) := by decide +kernel
theorem dL_areShelves_4 : decode cL_areShelves 4 = .ok (.invokevirtual 193, 3) := by decide +kernel
theorem dL_areShelves_7 : decode cL_areShelves 7 = .ok (.invokestatic 220, 3) := by decide +kernel
theorem dL_areShelves_10 : decode cL_areShelves 10 = .ok (.sipush (-1000), 3) := by decide +kernel
theorem dL_areShelves_13 : decode cL_areShelves 13 = .ok (.if_icmp .ne 18, 3) := by decide +kernel
theorem dL_areShelves_16 : decode cL_areShelves 16 = .ok (.aload_n 0, 1) := by decide +kernel
theorem dL_areShelves_17 : decode cL_areShelves 17 = .ok (.iconst (-1), 1) := by decide +kernel
theorem dL_areShelves_18 : decode cL_areShelves 18 = .ok (.invokestatic 220, 3) := by decide +kernel
theorem dL_areShelves_21 : decode cL_areShelves 21 = .ok (.sipush (-1000), 3) := by decide +kernel
theorem dL_areShelves_24 : decode cL_areShelves 24 = .ok (.if_icmp .ne 7, 3) := by decide +kernel
theorem dL_areShelves_27 : decode cL_areShelves 27 = .ok (.iconst 1, 1) := by decide +kernel
theorem dL_areShelves_28 : decode cL_areShelves 28 = .ok (.goto 4, 3) := by decide +kernel
theorem dL_areShelves_31 : decode cL_areShelves 31 = .ok (.iconst 0, 1) := by decide +kernel
theorem dL_areShelves_32 : decode cL_areShelves 32 = .ok (.istore_n 2, 1) := by decide +kernel
theorem dL_areShelves_33 : decode cL_areShelves 33 = .ok (.iconst 0, 1) := by decide +kernel
theorem dL_areShelves_34 : decode cL_areShelves 34 = .ok (.istore_n 3, 1) := by decide +kernel
theorem dL_areShelves_35 : decode cL_areShelves 35 = .ok (.iload_n 2, 1) := by decide +kernel
theorem dL_areShelves_36 : decode cL_areShelves 36 = .ok (.ifCond .eq 147, 3) := by decide +kernel
theorem dL_areShelves_39 : decode cL_areShelves 39 = .ok (.iload_n 3, 1) := by decide +kernel
theorem dL_areShelves_40 : decode cL_areShelves 40 = .ok (.aload_n 0, 1) := by decide +kernel
theorem dL_areShelves_41 : decode cL_areShelves 41 = .ok (.invokevirtual 193, 3) := by decide +kernel
theorem dL_areShelves_44 : decode cL_areShelves 44 = .ok (.if_icmp .ge 139, 3) := by decide +kernel
theorem dL_areShelves_47 : decode cL_areShelves 47 = .ok (.iconst 0, 1) := by decide +kernel
theorem dL_areShelves_48 : decode cL_areShelves 48 = .ok (.istore 4, 2) := by decide +kernel
theorem dL_areShelves_50 : decode cL_areShelves 50 = .ok (.iconst 0, 1) := by decide +kernel
theorem dL_areShelves_51 : decode cL_areShelves 51 = .ok (.istore 5, 2) := by decide +kernel
theorem dL_areShelves_53 : decode cL_areShelves 53 = .ok (.iconst 0, 1) := by decide +kernel
theorem dL_areShelves_54 : decode cL_areShelves 54 = .ok (.istore 6, 2) := by decide +kernel
theorem dL_areShelves_56 : decode cL_areShelves 56 = .ok (.iload 6, 2) := by decide +kernel
theorem dL_areShelves_58 : decode cL_areShelves 58 = .ok (.aload_n 0, 1) := by decide +kernel
theorem dL_areShelves_59 : decode cL_areShelves 59 = .ok (.invokevirtual 190, 3) := by decide +kernel
theorem dL_areShelves_62 : decode cL_areShelves 62 = .ok (.if_icmp .ge 61, 3) := by decide +kernel
theorem dL_areShelves_65 : decode cL_areShelves 65 = .ok (.aload_n 0, 1) := by decide +kernel
theorem dL_areShelves_66 : decode cL_areShelves 66 = .ok (.iload 6, 2) := by decide +kernel
theorem dL_areShelves_68 : decode cL_areShelves 68 = .ok (.invokestatic 212, 3) := by decide +kernel
theorem dL_areShelves_71 : decode cL_areShelves 71 = .ok (.iload_n 3, 1) := by decide +kernel
theorem dL_areShelves_72 : decode cL_areShelves 72 = .ok (.if_icmp .ne 7, 3) := by decide +kernel
theorem dL_areShelves_75 : decode cL_areShelves 75 = .ok (.iconst 1, 1) := by decide +kernel
theorem dL_areShelves_76 : decode cL_areShelves 76 = .ok (.goto 4, 3) := by decide +kernel
theorem dL_areShelves_79 : decode cL_areShelves 79 = .ok (.iconst 0, 1) := by decide +kernel
theorem dL_areShelves_80 : decode cL_areShelves 80 = .ok (.istore 7, 2) := by decide +kernel
theorem dL_areShelves_82 : decode cL_areShelves 82 = .ok (.iload 4, 2) := by decide +kernel
theorem dL_areShelves_84 : decode cL_areShelves 84 = .ok (.iload 7, 2) := by decide +kernel
theorem dL_areShelves_86 : decode cL_areShelves 86 = .ok (.ifCond .eq 7, 3) := by decide +kernel
theorem dL_areShelves_89 : decode cL_areShelves 89 = .ok (.iconst 1, 1) := by decide +kernel
theorem dL_areShelves_90 : decode cL_areShelves 90 = .ok (.goto 4, 3) := by decide +kernel
theorem dL_areShelves_93 : decode cL_areShelves 93 = .ok (.iconst 0, 1) := by decide +kernel
theorem dL_areShelves_94 : decode cL_areShelves 94 = .ok (.iadd, 1) := by decide +kernel
theorem dL_areShelves_95 : decode cL_areShelves 95 = .ok (.istore 4, 2) := by decide +kernel
theorem dL_areShelves_97 : decode cL_areShelves 97 = .ok (.iload 5, 2) := by decide +kernel
theorem dL_areShelves_99 : decode cL_areShelves 99 = .ok (.iload 7, 2) := by decide +kernel
theorem dL_areShelves_101 : decode cL_areShelves 101 = .ok (.ifCond .eq 12, 3) := by decide +kernel
theorem dL_areShelves_104 : decode cL_areShelves 104 = .ok (.aload_n 0, 1) := by decide +kernel
theorem dL_areShelves_105 : decode cL_areShelves 105 = .ok (.iload 6, 2) := by decide +kernel
theorem dL_areShelves_107 : decode cL_areShelves 107 = .ok (.invokevirtual 206, 3) := by decide +kernel
theorem dL_areShelves_110 : decode cL_areShelves 110 = .ok (.goto 4, 3) := by decide +kernel
theorem dL_areShelves_113 : decode cL_areShelves 113 = .ok (.iconst 0, 1) := by decide +kernel
theorem dL_areShelves_114 : decode cL_areShelves 114 = .ok (.iadd, 1) := by decide +kernel
theorem dL_areShelves_115 : decode cL_areShelves 115 = .ok (.istore 5, 2) := by decide +kernel
theorem dL_areShelves_117 : decode cL_areShelves 117 = .ok (.iinc 6 1, 3) := by decide +kernel
theorem dL_areShelves_120 : decode cL_areShelves 120 = .ok (.goto (-64), 3) := by decide +kernel
theorem dL_areShelves_123 : decode cL_areShelves 123 = .ok (.iload_n 1, 1) := by decide +kernel
theorem dL_areShelves_124 : decode cL_areShelves 124 = .ok (.iload 4, 2) := by decide +kernel
theorem dL_areShelves_126 : decode cL_areShelves 126 = .ok (.iadd, 1) := by decide +kernel
theorem dL_areShelves_127 : decode cL_areShelves 127 = .ok (.istore_n 1, 1) := by decide +kernel
theorem dL_areShelves_128 : decode cL_areShelves 128 = .ok (.aload_n 0, 1) := by decide +kernel
theorem dL_areShelves_129 : decode cL_areShelves 129 = .ok (.iload_n 3, 1) := by decide +kernel
theorem dL_areShelves_130 : decode cL_areShelves 130 = .ok (.invokevirtual 222, 3) := by decide +kernel
theorem dL_areShelves_133 : decode cL_areShelves 133 = .ok (.iload 4, 2) := by decide +kernel
theorem dL_areShelves_135 : decode cL_areShelves 135 = .ok (.if_icmp .ne 40, 3) := by decide +kernel
theorem dL_areShelves_138 : decode cL_areShelves 138 = .ok (.aload_n 0, 1) := by decide +kernel
theorem dL_areShelves_139 : decode cL_areShelves 139 = .ok (.iload_n 3, 1) := by decide +kernel
theorem dL_areShelves_140 : decode cL_areShelves 140 = .ok (.invokevirtual 201, 3) := by decide +kernel
theorem dL_areShelves_143 : decode cL_areShelves 143 = .ok (.ifCond .lt 32, 3) := by decide +kernel
theorem dL_areShelves_146 : decode cL_areShelves 146 = .ok (.aload_n 0, 1) := by decide +kernel
theorem dL_areShelves_147 : decode cL_areShelves 147 = .ok (.iload_n 3, 1) := by decide +kernel
theorem dL_areShelves_148 : decode cL_areShelves 148 = .ok (.invokevirtual 201, 3) := by decide +kernel
theorem dL_areShelves_151 : decode cL_areShelves 151 = .ok (.iload 5, 2) := by decide +kernel
theorem dL_areShelves_153 : decode cL_areShelves 153 = .ok (.iadd, 1) := by decide +kernel
theorem dL_areShelves_154 : decode cL_areShelves 154 = .ok (.bipush 40, 2) := by decide +kernel
theorem dL_areShelves_156 : decode cL_areShelves 156 = .ok (.if_icmp .gt 19, 3) := by decide +kernel
theorem dL_areShelves_159 : decode cL_areShelves 159 = .ok (.aload_n 0, 1) := by decide +kernel
theorem dL_areShelves_160 : decode cL_areShelves 160 = .ok (.iload_n 3, 1) := by decide +kernel
theorem dL_areShelves_161 : decode cL_areShelves 161 = .ok (.invokestatic 204, 3) := by decide +kernel
theorem dL_areShelves_164 : decode cL_areShelves 164 = .ok (.aload_n 0, 1) := by decide +kernel
theorem dL_areShelves_165 : decode cL_areShelves 165 = .ok (.invokevirtual 170, 3) := by decide +kernel
theorem dL_areShelves_168 : decode cL_areShelves 168 = .ok (.if_icmp .gt 7, 3) := by decide +kernel
theorem dL_areShelves_171 : decode cL_areShelves 171 = .ok (.iconst 1, 1) := by decide +kernel
theorem dL_areShelves_172 : decode cL_areShelves 172 = .ok (.goto 4, 3) := by decide +kernel
theorem dL_areShelves_175 : decode cL_areShelves 175 = .ok (.iconst 0, 1) := by decide +kernel
theorem dL_areShelves_176 : decode cL_areShelves 176 = .ok (.istore_n 2, 1) := by decide +kernel
theorem dL_areShelves_177 : decode cL_areShelves 177 = .ok (.iinc 3 1, 3) := by decide +kernel
theorem dL_areShelves_180 : decode cL_areShelves 180 = .ok (.goto (-145), 3) := by decide +kernel
theorem dL_areShelves_183 : decode cL_areShelves 183 = .ok (.iconst 1, 1) := by decide +kernel
theorem dL_areShelves_184 : decode cL_areShelves 184 = .ok (.istore_n 3, 1) := by decide +kernel
theorem dL_areShelves_185 : decode cL_areShelves 185 = .ok (.iload_n 2, 1) := by decide +kernel
theorem dL_areShelves_186 : decode cL_areShelves 186 = .ok (.ifCond .eq 96, 3) := by decide +kernel
theorem dL_areShelves_189 : decode cL_areShelves 189 = .ok (.iload_n 3, 1) := by decide +kernel
theorem dL_areShelves_190 : decode cL_areShelves 190 = .ok (.aload_n 0, 1) := by decide +kernel
theorem dL_areShelves_191 : decode cL_areShelves 191 = .ok (.invokevirtual 193, 3) := by decide +kernel
theorem dL_areShelves_194 : decode cL_areShelves 194 = .ok (.if_icmp .ge 88, 3) := by decide +kernel
theorem dL_areShelves_197 : decode cL_areShelves 197 = .ok (.aload_n 0, 1) := by decide +kernel
theorem dL_areShelves_198 : decode cL_areShelves 198 = .ok (.iload_n 3, 1) := by decide +kernel
theorem dL_areShelves_199 : decode cL_areShelves 199 = .ok (.iconst 1, 1) := by decide +kernel
theorem dL_areShelves_200 : decode cL_areShelves 200 = .ok (.isub, 1) := by decide +kernel
theorem dL_areShelves_201 : decode cL_areShelves 201 = .ok (.invokestatic 220, 3) := by decide +kernel
theorem dL_areShelves_204 : decode cL_areShelves 204 = .ok (.istore 4, 2) := by decide +kernel
theorem dL_areShelves_206 : decode cL_areShelves 206 = .ok (.aload_n 0, 1) := by decide +kernel
theorem dL_areShelves_207 : decode cL_areShelves 207 = .ok (.iload_n 3, 1) := by decide +kernel
theorem dL_areShelves_208 : decode cL_areShelves 208 = .ok (.invokestatic 220, 3) := by decide +kernel
theorem dL_areShelves_211 : decode cL_areShelves 211 = .ok (.istore 5, 2) := by decide +kernel
theorem dL_areShelves_213 : decode cL_areShelves 213 = .ok (.aload_n 0, 1) := by decide +kernel
theorem dL_areShelves_214 : decode cL_areShelves 214 = .ok (.iload 5, 2) := by decide +kernel
theorem dL_areShelves_216 : decode cL_areShelves 216 = .ok (.invokestatic 204, 3) := by decide +kernel
theorem dL_areShelves_219 : decode cL_areShelves 219 = .ok (.aload_n 0, 1) := by decide +kernel
theorem dL_areShelves_220 : decode cL_areShelves 220 = .ok (.iload 4, 2) := by decide +kernel
theorem dL_areShelves_222 : decode cL_areShelves 222 = .ok (.invokestatic 204, 3) := by decide +kernel
theorem dL_areShelves_225 : decode cL_areShelves 225 = .ok (.isub, 1) := by decide +kernel
theorem dL_areShelves_226 : decode cL_areShelves 226 = .ok (.istore 6, 2) := by decide +kernel
theorem dL_areShelves_228 : decode cL_areShelves 228 = .ok (.aload_n 0, 1) := by decide +kernel
theorem dL_areShelves_229 : decode cL_areShelves 229 = .ok (.iload 4, 2) := by decide +kernel
theorem dL_areShelves_231 : decode cL_areShelves 231 = .ok (.invokevirtual 222, 3) := by decide +kernel
theorem dL_areShelves_234 : decode cL_areShelves 234 = .ok (.aload_n 0, 1) := by decide +kernel
theorem dL_areShelves_235 : decode cL_areShelves 235 = .ok (.iload 5, 2) := by decide +kernel
theorem dL_areShelves_237 : decode cL_areShelves 237 = .ok (.invokevirtual 222, 3) := by decide +kernel
theorem dL_areShelves_240 : decode cL_areShelves 240 = .ok (.isub, 1) := by decide +kernel
theorem dL_areShelves_241 : decode cL_areShelves 241 = .ok (.istore 7, 2) := by decide +kernel
theorem dL_areShelves_243 : decode cL_areShelves 243 = .ok (.iload 6, 2) := by decide +kernel
theorem dL_areShelves_245 : decode cL_areShelves 245 = .ok (.ifCond .gt 25, 3) := by decide +kernel
theorem dL_areShelves_248 : decode cL_areShelves 248 = .ok (.iload 6, 2) := by decide +kernel
theorem dL_areShelves_250 : decode cL_areShelves 250 = .ok (.ifCond .ne 24, 3) := by decide +kernel
theorem dL_areShelves_253 : decode cL_areShelves 253 = .ok (.iload 7, 2) := by decide +kernel
theorem dL_areShelves_255 : decode cL_areShelves 255 = .ok (.ifCond .gt 15, 3) := by decide +kernel
theorem dL_areShelves_258 : decode cL_areShelves 258 = .ok (.iload 7, 2) := by decide +kernel
theorem dL_areShelves_260 : decode cL_areShelves 260 = .ok (.ifCond .ne 14, 3) := by decide +kernel
theorem dL_areShelves_263 : decode cL_areShelves 263 = .ok (.iload 4, 2) := by decide +kernel
theorem dL_areShelves_265 : decode cL_areShelves 265 = .ok (.iload 5, 2) := by decide +kernel
theorem dL_areShelves_267 : decode cL_areShelves 267 = .ok (.if_icmp .ge 7, 3) := by decide +kernel
theorem dL_areShelves_270 : decode cL_areShelves 270 = .ok (.iconst 1, 1) := by decide +kernel
theorem dL_areShelves_271 : decode cL_areShelves 271 = .ok (.goto 4, 3) := by decide +kernel
theorem dL_areShelves_274 : decode cL_areShelves 274 = .ok (.iconst 0, 1) := by decide +kernel
theorem dL_areShelves_275 : decode cL_areShelves 275 = .ok (.istore_n 2, 1) := by decide +kernel
theorem dL_areShelves_276 : decode cL_areShelves 276 = .ok (.iinc 3 1, 3) := by decide +kernel
theorem dL_areShelves_279 : decode cL_areShelves 279 = .ok (.goto (-94), 3) := by decide +kernel
theorem dL_areShelves_282 : decode cL_areShelves 282 = .ok (.iconst 0, 1) := by decide +kernel
theorem dL_areShelves_283 : decode cL_areShelves 283 = .ok (.istore_n 3, 1) := by decide +kernel
theorem dL_areShelves_284 : decode cL_areShelves 284 = .ok (.iload_n 2, 1) := by decide +kernel
theorem dL_areShelves_285 : decode cL_areShelves 285 = .ok (.ifCond .eq 127, 3) := by decide +kernel
theorem dL_areShelves_288 : decode cL_areShelves 288 = .ok (.iload_n 3, 1) := by decide +kernel
theorem dL_areShelves_289 : decode cL_areShelves 289 = .ok (.iconst 3, 1) := by decide +kernel
theorem dL_areShelves_290 : decode cL_areShelves 290 = .ok (.if_icmp .ge 122, 3) := by decide +kernel
theorem dL_areShelves_293 : decode cL_areShelves 293 = .ok (.iconst 0, 1) := by decide +kernel
theorem dL_areShelves_294 : decode cL_areShelves 294 = .ok (.istore 4, 2) := by decide +kernel
theorem dL_areShelves_296 : decode cL_areShelves 296 = .ok (.iconst 0, 1) := by decide +kernel
theorem dL_areShelves_297 : decode cL_areShelves 297 = .ok (.istore 5, 2) := by decide +kernel
theorem dL_areShelves_299 : decode cL_areShelves 299 = .ok (.iload 5, 2) := by decide +kernel
theorem dL_areShelves_301 : decode cL_areShelves 301 = .ok (.aload_n 0, 1) := by decide +kernel
theorem dL_areShelves_302 : decode cL_areShelves 302 = .ok (.invokevirtual 193, 3) := by decide +kernel
theorem dL_areShelves_305 : decode cL_areShelves 305 = .ok (.if_icmp .ge 38, 3) := by decide +kernel
theorem dL_areShelves_308 : decode cL_areShelves 308 = .ok (.iload 4, 2) := by decide +kernel
theorem dL_areShelves_310 : decode cL_areShelves 310 = .ok (.aload_n 0, 1) := by decide +kernel
theorem dL_areShelves_311 : decode cL_areShelves 311 = .ok (.iload 5, 2) := by decide +kernel
theorem dL_areShelves_313 : decode cL_areShelves 313 = .ok (.invokevirtual 198, 3) := by decide +kernel
theorem dL_areShelves_316 : decode cL_areShelves 316 = .ok (.iload_n 3, 1) := by decide +kernel
theorem dL_areShelves_317 : decode cL_areShelves 317 = .ok (.if_icmp .ne 16, 3) := by decide +kernel
theorem dL_areShelves_320 : decode cL_areShelves 320 = .ok (.aload_n 0, 1) := by decide +kernel
theorem dL_areShelves_321 : decode cL_areShelves 321 = .ok (.iload 5, 2) := by decide +kernel
theorem dL_areShelves_323 : decode cL_areShelves 323 = .ok (.invokevirtual 222, 3) := by decide +kernel
theorem dL_areShelves_326 : decode cL_areShelves 326 = .ok (.ifCond .le 7, 3) := by decide +kernel
theorem dL_areShelves_329 : decode cL_areShelves 329 = .ok (.iconst 1, 1) := by decide +kernel
theorem dL_areShelves_330 : decode cL_areShelves 330 = .ok (.goto 4, 3) := by decide +kernel
theorem dL_areShelves_333 : decode cL_areShelves 333 = .ok (.iconst 0, 1) := by decide +kernel
theorem dL_areShelves_334 : decode cL_areShelves 334 = .ok (.iadd, 1) := by decide +kernel
theorem dL_areShelves_335 : decode cL_areShelves 335 = .ok (.istore 4, 2) := by decide +kernel
theorem dL_areShelves_337 : decode cL_areShelves 337 = .ok (.iinc 5 1, 3) := by decide +kernel
theorem dL_areShelves_340 : decode cL_areShelves 340 = .ok (.goto (-41), 3) := by decide +kernel
theorem dL_areShelves_343 : decode cL_areShelves 343 = .ok (.aload_n 0, 1) := by decide +kernel
theorem dL_areShelves_344 : decode cL_areShelves 344 = .ok (.iload_n 3, 1) := by decide +kernel
theorem dL_areShelves_345 : decode cL_areShelves 345 = .ok (.invokevirtual 225, 3) := by decide +kernel
theorem dL_areShelves_348 : decode cL_areShelves 348 = .ok (.istore 5, 2) := by decide +kernel
theorem dL_areShelves_350 : decode cL_areShelves 350 = .ok (.aload_n 0, 1) := by decide +kernel
theorem dL_areShelves_351 : decode cL_areShelves 351 = .ok (.iload_n 3, 1) := by decide +kernel
theorem dL_areShelves_352 : decode cL_areShelves 352 = .ok (.invokevirtual 228, 3) := by decide +kernel
theorem dL_areShelves_355 : decode cL_areShelves 355 = .ok (.iload 5, 2) := by decide +kernel
theorem dL_areShelves_357 : decode cL_areShelves 357 = .ok (.if_icmp .ne 47, 3) := by decide +kernel
theorem dL_areShelves_360 : decode cL_areShelves 360 = .ok (.iload 5, 2) := by decide +kernel
theorem dL_areShelves_362 : decode cL_areShelves 362 = .ok (.iload 4, 2) := by decide +kernel
theorem dL_areShelves_364 : decode cL_areShelves 364 = .ok (.if_icmp .gt 40, 3) := by decide +kernel
theorem dL_areShelves_367 : decode cL_areShelves 367 = .ok (.iload 5, 2) := by decide +kernel
theorem dL_areShelves_369 : decode cL_areShelves 369 = .ok (.ifCond .le 7, 3) := by decide +kernel
theorem dL_areShelves_372 : decode cL_areShelves 372 = .ok (.iconst 1, 1) := by decide +kernel
theorem dL_areShelves_373 : decode cL_areShelves 373 = .ok (.goto 4, 3) := by decide +kernel
theorem dL_areShelves_376 : decode cL_areShelves 376 = .ok (.iconst 0, 1) := by decide +kernel
theorem dL_areShelves_377 : decode cL_areShelves 377 = .ok (.iload 4, 2) := by decide +kernel
theorem dL_areShelves_379 : decode cL_areShelves 379 = .ok (.ifCond .le 7, 3) := by decide +kernel
theorem dL_areShelves_382 : decode cL_areShelves 382 = .ok (.iconst 1, 1) := by decide +kernel
theorem dL_areShelves_383 : decode cL_areShelves 383 = .ok (.goto 4, 3) := by decide +kernel
theorem dL_areShelves_386 : decode cL_areShelves 386 = .ok (.iconst 0, 1) := by decide +kernel
theorem dL_areShelves_387 : decode cL_areShelves 387 = .ok (.if_icmp .ne 17, 3) := by decide +kernel
theorem dL_areShelves_390 : decode cL_areShelves 390 = .ok (.aload_n 0, 1) := by decide +kernel
theorem dL_areShelves_391 : decode cL_areShelves 391 = .ok (.iload_n 3, 1) := by decide +kernel
theorem dL_areShelves_392 : decode cL_areShelves 392 = .ok (.bipush 7, 2) := by decide +kernel
theorem dL_areShelves_394 : decode cL_areShelves 394 = .ok (.invokestatic 231, 3) := by decide +kernel
theorem dL_areShelves_397 : decode cL_areShelves 397 = .ok (.ifCond .eq 7, 3) := by decide +kernel
theorem dL_areShelves_400 : decode cL_areShelves 400 = .ok (.iconst 1, 1) := by decide +kernel
theorem dL_areShelves_401 : decode cL_areShelves 401 = .ok (.goto 4, 3) := by decide +kernel
theorem dL_areShelves_404 : decode cL_areShelves 404 = .ok (.iconst 0, 1) := by decide +kernel
theorem dL_areShelves_405 : decode cL_areShelves 405 = .ok (.istore_n 2, 1) := by decide +kernel
theorem dL_areShelves_406 : decode cL_areShelves 406 = .ok (.iinc 3 1, 3) := by decide +kernel
theorem dL_areShelves_409 : decode cL_areShelves 409 = .ok (.goto (-125), 3) := by decide +kernel
theorem dL_areShelves_412 : decode cL_areShelves 412 = .ok (.iload_n 2, 1) := by decide +kernel
theorem dL_areShelves_413 : decode cL_areShelves 413 = .ok (.ifCond .eq 13, 3) := by decide +kernel
theorem dL_areShelves_416 : decode cL_areShelves 416 = .ok (.iload_n 1, 1) := by decide +kernel
theorem dL_areShelves_417 : decode cL_areShelves 417 = .ok (.bipush 8, 2) := by decide +kernel
theorem dL_areShelves_419 : decode cL_areShelves 419 = .ok (.if_icmp .gt 7, 3) := by decide +kernel
theorem dL_areShelves_422 : decode cL_areShelves 422 = .ok (.iconst 1, 1) := by decide +kernel
theorem dL_areShelves_423 : decode cL_areShelves 423 = .ok (.goto 4, 3) := by decide +kernel
theorem dL_areShelves_426 : decode cL_areShelves 426 = .ok (.iconst 0, 1) := by decide +kernel
theorem dL_areShelves_427 : decode cL_areShelves 427 = .ok (.ireturn, 1) := by decide +kernel
theorem dL_isPlace_0 : decode cL_isPlace 0 = .ok (.aload_n 0, 1) := by decide +kernel
theorem dL_isPlace_1 : decode cL_isPlace 1 = .ok (.iload_n 1, 1) := by decide +kernel
theorem dL_isPlace_2 : decode cL_isPlace 2 = .ok (.iload_n 2, 1) := by decide +kernel
theorem dL_isPlace_3 : decode cL_isPlace 3 = .ok (.invokestatic 235, 3) := by decide +kernel
theorem dL_isPlace_6 : decode cL_isPlace 6 = .ok (.istore_n 3, 1) := by decide +kernel
theorem dL_isPlace_7 : decode cL_isPlace 7 = .ok (.iload_n 3, 1) := by decide +kernel
theorem dL_isPlace_8 : decode cL_isPlace 8 = .ok (.sipush (-1000), 3) := by decide +kernel
theorem dL_isPlace_11 : decode cL_isPlace 11 = .ok (.if_icmp .eq 21, 3) := by decide +kernel
theorem dL_isPlace_14 : decode cL_isPlace 14 = .ok (.aload_n 0, 1) := by decide +kernel
theorem dL_isPlace_15 : decode cL_isPlace 15 = .ok (.iload_n 3, 1) := by decide +kernel
theorem dL_isPlace_16 : decode cL_isPlace 16 = .ok (.invokevirtual 198, 3) := by decide +kernel
theorem dL_isPlace_19 : decode cL_isPlace 19 = .ok (.iload_n 1, 1) := by decide +kernel
theorem dL_isPlace_20 : decode cL_isPlace 20 = .ok (.if_icmp .ne 16, 3) := by decide +kernel
theorem dL_isPlace_23 : decode cL_isPlace 23 = .ok (.aload_n 0, 1) := by decide +kernel
theorem dL_isPlace_24 : decode cL_isPlace 24 = .ok (.iload_n 3, 1) := by decide +kernel
theorem dL_isPlace_25 : decode cL_isPlace 25 = .ok (.invokevirtual 201, 3) := by decide +kernel
theorem dL_isPlace_28 : decode cL_isPlace 28 = .ok (.iload_n 2, 1) := by decide +kernel
theorem dL_isPlace_29 : decode cL_isPlace 29 = .ok (.if_icmp .lt 7, 3) := by decide +kernel
theorem dL_isPlace_32 : decode cL_isPlace 32 = .ok (.iconst 1, 1) := by decide +kernel
theorem dL_isPlace_33 : decode cL_isPlace 33 = .ok (.goto 4, 3) := by decide +kernel
theorem dL_isPlace_36 : decode cL_isPlace 36 = .ok (.iconst 0, 1) := by decide +kernel
theorem dL_isPlace_37 : decode cL_isPlace 37 = .ok (.istore 4, 2) := by decide +kernel
theorem dL_isPlace_39 : decode cL_isPlace 39 = .ok (.iconst 0, 1) := by decide +kernel
theorem dL_isPlace_40 : decode cL_isPlace 40 = .ok (.istore 5, 2) := by decide +kernel
theorem dL_isPlace_42 : decode cL_isPlace 42 = .ok (.iload 4, 2) := by decide +kernel
theorem dL_isPlace_44 : decode cL_isPlace 44 = .ok (.ifCond .eq 98, 3) := by decide +kernel
theorem dL_isPlace_47 : decode cL_isPlace 47 = .ok (.iload 5, 2) := by decide +kernel
theorem dL_isPlace_49 : decode cL_isPlace 49 = .ok (.aload_n 0, 1) := by decide +kernel
theorem dL_isPlace_50 : decode cL_isPlace 50 = .ok (.invokevirtual 193, 3) := by decide +kernel
theorem dL_isPlace_53 : decode cL_isPlace 53 = .ok (.if_icmp .ge 89, 3) := by decide +kernel
theorem dL_isPlace_56 : decode cL_isPlace 56 = .ok (.aload_n 0, 1) := by decide +kernel
theorem dL_isPlace_57 : decode cL_isPlace 57 = .ok (.iload 5, 2) := by decide +kernel
theorem dL_isPlace_59 : decode cL_isPlace 59 = .ok (.invokevirtual 198, 3) := by decide +kernel
theorem dL_isPlace_62 : decode cL_isPlace 62 = .ok (.iload_n 1, 1) := by decide +kernel
theorem dL_isPlace_63 : decode cL_isPlace 63 = .ok (.if_icmp .ne 17, 3) := by decide +kernel
theorem dL_isPlace_66 : decode cL_isPlace 66 = .ok (.aload_n 0, 1) := by decide +kernel
theorem dL_isPlace_67 : decode cL_isPlace 67 = .ok (.iload 5, 2) := by decide +kernel
theorem dL_isPlace_69 : decode cL_isPlace 69 = .ok (.invokevirtual 201, 3) := by decide +kernel
theorem dL_isPlace_72 : decode cL_isPlace 72 = .ok (.iload_n 2, 1) := by decide +kernel
theorem dL_isPlace_73 : decode cL_isPlace 73 = .ok (.if_icmp .lt 7, 3) := by decide +kernel
theorem dL_isPlace_76 : decode cL_isPlace 76 = .ok (.iconst 1, 1) := by decide +kernel
theorem dL_isPlace_77 : decode cL_isPlace 77 = .ok (.goto 4, 3) := by decide +kernel
theorem dL_isPlace_80 : decode cL_isPlace 80 = .ok (.iconst 0, 1) := by decide +kernel
theorem dL_isPlace_81 : decode cL_isPlace 81 = .ok (.istore 6, 2) := by decide +kernel
theorem dL_isPlace_83 : decode cL_isPlace 83 = .ok (.iload 6, 2) := by decide +kernel
theorem dL_isPlace_85 : decode cL_isPlace 85 = .ok (.ifCond .eq 44, 3) := by decide +kernel
theorem dL_isPlace_88 : decode cL_isPlace 88 = .ok (.iload_n 3, 1) := by decide +kernel
theorem dL_isPlace_89 : decode cL_isPlace 89 = .ok (.sipush (-1000), 3) := by decide +kernel
theorem dL_isPlace_92 : decode cL_isPlace 92 = .ok (.if_icmp .eq 41, 3) := by decide +kernel
theorem dL_isPlace_95 : decode cL_isPlace 95 = .ok (.aload_n 0, 1) := by decide +kernel
theorem dL_isPlace_96 : decode cL_isPlace 96 = .ok (.iload 5, 2) := by decide +kernel
theorem dL_isPlace_98 : decode cL_isPlace 98 = .ok (.invokevirtual 201, 3) := by decide +kernel
theorem dL_isPlace_101 : decode cL_isPlace 101 = .ok (.aload_n 0, 1) := by decide +kernel
theorem dL_isPlace_102 : decode cL_isPlace 102 = .ok (.iload_n 3, 1) := by decide +kernel
theorem dL_isPlace_103 : decode cL_isPlace 103 = .ok (.invokevirtual 201, 3) := by decide +kernel
theorem dL_isPlace_106 : decode cL_isPlace 106 = .ok (.if_icmp .gt 23, 3) := by decide +kernel
theorem dL_isPlace_109 : decode cL_isPlace 109 = .ok (.aload_n 0, 1) := by decide +kernel
theorem dL_isPlace_110 : decode cL_isPlace 110 = .ok (.iload 5, 2) := by decide +kernel
theorem dL_isPlace_112 : decode cL_isPlace 112 = .ok (.invokevirtual 201, 3) := by decide +kernel
theorem dL_isPlace_115 : decode cL_isPlace 115 = .ok (.aload_n 0, 1) := by decide +kernel
theorem dL_isPlace_116 : decode cL_isPlace 116 = .ok (.iload_n 3, 1) := by decide +kernel
theorem dL_isPlace_117 : decode cL_isPlace 117 = .ok (.invokevirtual 201, 3) := by decide +kernel
theorem dL_isPlace_120 : decode cL_isPlace 120 = .ok (.if_icmp .ne 13, 3) := by decide +kernel
theorem dL_isPlace_123 : decode cL_isPlace 123 = .ok (.iload 5, 2) := by decide +kernel
theorem dL_isPlace_125 : decode cL_isPlace 125 = .ok (.iload_n 3, 1) := by decide +kernel
theorem dL_isPlace_126 : decode cL_isPlace 126 = .ok (.if_icmp .lt 7, 3) := by decide +kernel
theorem dL_isPlace_129 : decode cL_isPlace 129 = .ok (.iconst 1, 1) := by decide +kernel
theorem dL_isPlace_130 : decode cL_isPlace 130 = .ok (.goto 4, 3) := by decide +kernel
theorem dL_isPlace_133 : decode cL_isPlace 133 = .ok (.iconst 0, 1) := by decide +kernel
theorem dL_isPlace_134 : decode cL_isPlace 134 = .ok (.istore 4, 2) := by decide +kernel
theorem dL_isPlace_136 : decode cL_isPlace 136 = .ok (.iinc 5 1, 3) := by decide +kernel
theorem dL_isPlace_139 : decode cL_isPlace 139 = .ok (.goto (-97), 3) := by decide +kernel
theorem dL_isPlace_142 : decode cL_isPlace 142 = .ok (.iload 4, 2) := by decide +kernel
theorem dL_isPlace_144 : decode cL_isPlace 144 = .ok (.ireturn, 1) := by decide +kernel
theorem dL_areLots_0 : decode cL_areLots 0 = .ok (.iconst 0, 1) := by decide +kernel
theorem dL_areLots_1 : decode cL_areLots 1 = .ok (.istore_n 1, 1) := by decide +kernel
theorem dL_areLots_2 : decode cL_areLots 2 = .ok (.iconst 0, 1) := by decide +kernel
theorem dL_areLots_3 : decode cL_areLots 3 = .ok (.istore_n 2, 1) := by decide +kernel
theorem dL_areLots_4 : decode cL_areLots 4 = .ok (.iconst 0, 1) := by decide +kernel
theorem dL_areLots_5 : decode cL_areLots 5 = .ok (.istore_n 3, 1) := by decide +kernel
theorem dL_areLots_6 : decode cL_areLots 6 = .ok (.aload_n 0, 1) := by decide +kernel
theorem dL_areLots_7 : decode cL_areLots 7 = .ok (.invokevirtual 190, 3) := by decide +kernel
theorem dL_areLots_10 : decode cL_areLots 10 = .ok (.istore 4, 2) := by decide +kernel
theorem dL_areLots_12 : decode cL_areLots 12 = .ok (.aload_n 0, 1) := by decide +kernel
theorem dL_areLots_13 : decode cL_areLots 13 = .ok (.invokevirtual 175, 3) := by decide +kernel
theorem dL_areLots_16 : decode cL_areLots 16 = .ok (.aload_n 0, 1) := by decide +kernel
theorem dL_areLots_17 : decode cL_areLots 17 = .ok (.invokevirtual 237, 3) := by decide +kernel
theorem dL_areLots_20 : decode cL_areLots 20 = .ok (.aload_n 0, 1) := by decide +kernel
theorem dL_areLots_21 : decode cL_areLots 21 = .ok (.invokevirtual 240, 3) := by decide +kernel
theorem dL_areLots_24 : decode cL_areLots 24 = .ok (.iadd, 1) := by decide +kernel
theorem dL_areLots_25 : decode cL_areLots 25 = .ok (.aload_n 0, 1) := by decide +kernel
theorem dL_areLots_26 : decode cL_areLots 26 = .ok (.invokevirtual 180, 3) := by decide +kernel
theorem dL_areLots_29 : decode cL_areLots 29 = .ok (.iadd, 1) := by decide +kernel
theorem dL_areLots_30 : decode cL_areLots 30 = .ok (.aload_n 0, 1) := by decide +kernel
theorem dL_areLots_31 : decode cL_areLots 31 = .ok (.invokevirtual 185, 3) := by decide +kernel
theorem dL_areLots_34 : decode cL_areLots 34 = .ok (.iadd, 1) := by decide +kernel
theorem dL_areLots_35 : decode cL_areLots 35 = .ok (.if_icmp .ne 48, 3) := by decide +kernel
theorem dL_areLots_38 : decode cL_areLots 38 = .ok (.aload_n 0, 1) := by decide +kernel
theorem dL_areLots_39 : decode cL_areLots 39 = .ok (.invokestatic 243, 3) := by decide +kernel
theorem dL_areLots_42 : decode cL_areLots 42 = .ok (.aload_n 0, 1) := by decide +kernel
theorem dL_areLots_43 : decode cL_areLots 43 = .ok (.invokestatic 245, 3) := by decide +kernel
theorem dL_areLots_46 : decode cL_areLots 46 = .ok (.if_icmp .ne 37, 3) := by decide +kernel
theorem dL_areLots_49 : decode cL_areLots 49 = .ok (.aload_n 0, 1) := by decide +kernel
theorem dL_areLots_50 : decode cL_areLots 50 = .ok (.invokestatic 243, 3) := by decide +kernel
theorem dL_areLots_53 : decode cL_areLots 53 = .ok (.sipush (-1000), 3) := by decide +kernel
theorem dL_areLots_56 : decode cL_areLots 56 = .ok (.if_icmp .ne 7, 3) := by decide +kernel
theorem dL_areLots_59 : decode cL_areLots 59 = .ok (.iconst 1, 1) := by decide +kernel
theorem dL_areLots_60 : decode cL_areLots 60 = .ok (.goto 4, 3) := by decide +kernel
theorem dL_areLots_63 : decode cL_areLots 63 = .ok (.iconst 0, 1) := by decide +kernel
theorem dL_areLots_64 : decode cL_areLots 64 = .ok (.aload_n 0, 1) := by decide +kernel
theorem dL_areLots_65 : decode cL_areLots 65 = .ok (.invokevirtual 247, 3) := by decide +kernel
theorem dL_areLots_68 : decode cL_areLots 68 = .ok (.ifCond .ne 7, 3) := by decide +kernel
theorem dL_areLots_71 : decode cL_areLots 71 = .ok (.iconst 1, 1) := by decide +kernel
theorem dL_areLots_72 : decode cL_areLots 72 = .ok (.goto 4, 3) := by decide +kernel
theorem dL_areLots_75 : decode cL_areLots 75 = .ok (.iconst 0, 1) := by decide +kernel
theorem dL_areLots_76 : decode cL_areLots 76 = .ok (.if_icmp .ne 7, 3) := by decide +kernel
theorem dL_areLots_79 : decode cL_areLots 79 = .ok (.iconst 1, 1) := by decide +kernel
theorem dL_areLots_80 : decode cL_areLots 80 = .ok (.goto 4, 3) := by decide +kernel
theorem dL_areLots_83 : decode cL_areLots 83 = .ok (.iconst 0, 1) := by decide +kernel
theorem dL_areLots_84 : decode cL_areLots 84 = .ok (.istore 5, 2) := by decide +kernel
theorem dL_areLots_86 : decode cL_areLots 86 = .ok (.iconst 0, 1) := by decide +kernel
theorem dL_areLots_87 : decode cL_areLots 87 = .ok (.istore 6, 2) := by decide +kernel
theorem dL_areLots_89 : decode cL_areLots 89 = .ok (.iload 5, 2) := by decide +kernel
theorem dL_areLots_91 : decode cL_areLots 91 = .ok (.ifCond .eq 277, 3) := by decide +kernel
theorem dL_areLots_94 : decode cL_areLots 94 = .ok (.iload 6, 2) := by decide +kernel
theorem dL_areLots_96 : decode cL_areLots 96 = .ok (.iload 4, 2) := by decide +kernel
theorem dL_areLots_98 : decode cL_areLots 98 = .ok (.if_icmp .ge 270, 3) := by decide +kernel
theorem dL_areLots_101 : decode cL_areLots 101 = .ok (.iconst 0, 1) := by decide +kernel
theorem dL_areLots_102 : decode cL_areLots 102 = .ok (.istore 7, 2) := by decide +kernel
theorem dL_areLots_104 : decode cL_areLots 104 = .ok (.iconst 0, 1) := by decide +kernel
theorem dL_areLots_105 : decode cL_areLots 105 = .ok (.istore 8, 2) := by decide +kernel
theorem dL_areLots_107 : decode cL_areLots 107 = .ok (.iload 8, 2) := by decide +kernel
theorem dL_areLots_109 : decode cL_areLots 109 = .ok (.iload 4, 2) := by decide +kernel
theorem dL_areLots_111 : decode cL_areLots 111 = .ok (.if_icmp .ge 80, 3) := by decide +kernel
theorem dL_areLots_114 : decode cL_areLots 114 = .ok (.aload_n 0, 1) := by decide +kernel
theorem dL_areLots_115 : decode cL_areLots 115 = .ok (.iload 8, 2) := by decide +kernel
theorem dL_areLots_117 : decode cL_areLots 117 = .ok (.iload 6, 2) := by decide +kernel
theorem dL_areLots_119 : decode cL_areLots 119 = .ok (.invokevirtual 250, 3) := by decide +kernel
theorem dL_areLots_122 : decode cL_areLots 122 = .ok (.istore 9, 2) := by decide +kernel
theorem dL_areLots_124 : decode cL_areLots 124 = .ok (.iload 7, 2) := by decide +kernel
theorem dL_areLots_126 : decode cL_areLots 126 = .ok (.iload 9, 2) := by decide +kernel
theorem dL_areLots_128 : decode cL_areLots 128 = .ok (.ifCond .eq 7, 3) := by decide +kernel
theorem dL_areLots_131 : decode cL_areLots 131 = .ok (.iconst 1, 1) := by decide +kernel
theorem dL_areLots_132 : decode cL_areLots 132 = .ok (.goto 4, 3) := by decide +kernel
theorem dL_areLots_135 : decode cL_areLots 135 = .ok (.iconst 0, 1) := by decide +kernel
theorem dL_areLots_136 : decode cL_areLots 136 = .ok (.iadd, 1) := by decide +kernel
theorem dL_areLots_137 : decode cL_areLots 137 = .ok (.istore 7, 2) := by decide +kernel
theorem dL_areLots_139 : decode cL_areLots 139 = .ok (.iload 5, 2) := by decide +kernel
theorem dL_areLots_141 : decode cL_areLots 141 = .ok (.iload 9, 2) := by decide +kernel
theorem dL_areLots_143 : decode cL_areLots 143 = .ok (.ifCond .eq 34, 3) := by decide +kernel
theorem dL_areLots_146 : decode cL_areLots 146 = .ok (.iload 8, 2) := by decide +kernel
theorem dL_areLots_148 : decode cL_areLots 148 = .ok (.iload 6, 2) := by decide +kernel
theorem dL_areLots_150 : decode cL_areLots 150 = .ok (.if_icmp .le 31, 3) := by decide +kernel
theorem dL_areLots_153 : decode cL_areLots 153 = .ok (.aload_n 0, 1) := by decide +kernel
theorem dL_areLots_154 : decode cL_areLots 154 = .ok (.iload 8, 2) := by decide +kernel
theorem dL_areLots_156 : decode cL_areLots 156 = .ok (.invokevirtual 209, 3) := by decide +kernel
theorem dL_areLots_159 : decode cL_areLots 159 = .ok (.aload_n 0, 1) := by decide +kernel
theorem dL_areLots_160 : decode cL_areLots 160 = .ok (.iload 6, 2) := by decide +kernel
theorem dL_areLots_162 : decode cL_areLots 162 = .ok (.invokevirtual 209, 3) := by decide +kernel
theorem dL_areLots_165 : decode cL_areLots 165 = .ok (.if_icmp .gt 16, 3) := by decide +kernel
theorem dL_areLots_168 : decode cL_areLots 168 = .ok (.aload_n 0, 1) := by decide +kernel
theorem dL_areLots_169 : decode cL_areLots 169 = .ok (.iload 8, 2) := by decide +kernel
theorem dL_areLots_171 : decode cL_areLots 171 = .ok (.invokevirtual 217, 3) := by decide +kernel
theorem dL_areLots_174 : decode cL_areLots 174 = .ok (.ifCond .le 7, 3) := by decide +kernel
theorem dL_areLots_177 : decode cL_areLots 177 = .ok (.iconst 1, 1) := by decide +kernel
theorem dL_areLots_178 : decode cL_areLots 178 = .ok (.goto 4, 3) := by decide +kernel
theorem dL_areLots_181 : decode cL_areLots 181 = .ok (.iconst 0, 1) := by decide +kernel
theorem dL_areLots_182 : decode cL_areLots 182 = .ok (.iand, 1) := by decide +kernel
theorem dL_areLots_183 : decode cL_areLots 183 = .ok (.istore 5, 2) := by decide +kernel
theorem dL_areLots_185 : decode cL_areLots 185 = .ok (.iinc 8 1, 3) := by decide +kernel
theorem dL_areLots_188 : decode cL_areLots 188 = .ok (.goto (-81), 3) := by decide +kernel
theorem dL_areLots_191 : decode cL_areLots 191 = .ok (.aload_n 0, 1) := by decide +kernel
theorem dL_areLots_192 : decode cL_areLots 192 = .ok (.iload 6, 2) := by decide +kernel
theorem dL_areLots_194 : decode cL_areLots 194 = .ok (.invokevirtual 254, 3) := by decide +kernel
theorem dL_areLots_197 : decode cL_areLots 197 = .ok (.istore 8, 2) := by decide +kernel
theorem dL_areLots_199 : decode cL_areLots 199 = .ok (.iload_n 1, 1) := by decide +kernel
theorem dL_areLots_200 : decode cL_areLots 200 = .ok (.iload 8, 2) := by decide +kernel
theorem dL_areLots_202 : decode cL_areLots 202 = .ok (.ifCond .eq 12, 3) := by decide +kernel
theorem dL_areLots_205 : decode cL_areLots 205 = .ok (.aload_n 0, 1) := by decide +kernel
theorem dL_areLots_206 : decode cL_areLots 206 = .ok (.iload 6, 2) := by decide +kernel
theorem dL_areLots_208 : decode cL_areLots 208 = .ok (.invokevirtual 206, 3) := by decide +kernel
theorem dL_areLots_211 : decode cL_areLots 211 = .ok (.goto 4, 3) := by decide +kernel
theorem dL_areLots_214 : decode cL_areLots 214 = .ok (.iconst 0, 1) := by decide +kernel
theorem dL_areLots_215 : decode cL_areLots 215 = .ok (.iadd, 1) := by decide +kernel
theorem dL_areLots_216 : decode cL_areLots 216 = .ok (.istore_n 1, 1) := by decide +kernel
theorem dL_areLots_217 : decode cL_areLots 217 = .ok (.iload_n 2, 1) := by decide +kernel
theorem dL_areLots_218 : decode cL_areLots 218 = .ok (.iload 8, 2) := by decide +kernel
theorem dL_areLots_220 : decode cL_areLots 220 = .ok (.ifCond .eq 7, 3) := by decide +kernel
theorem dL_areLots_223 : decode cL_areLots 223 = .ok (.iconst 1, 1) := by decide +kernel
theorem dL_areLots_224 : decode cL_areLots 224 = .ok (.goto 4, 3) := by decide +kernel
theorem dL_areLots_227 : decode cL_areLots 227 = .ok (.iconst 0, 1) := by decide +kernel
theorem dL_areLots_228 : decode cL_areLots 228 = .ok (.iadd, 1) := by decide +kernel
theorem dL_areLots_229 : decode cL_areLots 229 = .ok (.istore_n 2, 1) := by decide +kernel
theorem dL_areLots_230 : decode cL_areLots 230 = .ok (.iload_n 3, 1) := by decide +kernel
theorem dL_areLots_231 : decode cL_areLots 231 = .ok (.iload 8, 2) := by decide +kernel
theorem dL_areLots_233 : decode cL_areLots 233 = .ok (.ifCond .eq 16, 3) := by decide +kernel
theorem dL_areLots_236 : decode cL_areLots 236 = .ok (.aload_n 0, 1) := by decide +kernel
theorem dL_areLots_237 : decode cL_areLots 237 = .ok (.iload 6, 2) := by decide +kernel
theorem dL_areLots_239 : decode cL_areLots 239 = .ok (.invokevirtual 258, 3) := by decide +kernel
theorem dL_areLots_242 : decode cL_areLots 242 = .ok (.ifCond .eq 7, 3) := by decide +kernel
theorem dL_areLots_245 : decode cL_areLots 245 = .ok (.iconst 1, 1) := by decide +kernel
theorem dL_areLots_246 : decode cL_areLots 246 = .ok (.goto 4, 3) := by decide +kernel
theorem dL_areLots_249 : decode cL_areLots 249 = .ok (.iconst 0, 1) := by decide +kernel
theorem dL_areLots_250 : decode cL_areLots 250 = .ok (.iadd, 1) := by decide +kernel
theorem dL_areLots_251 : decode cL_areLots 251 = .ok (.istore_n 3, 1) := by decide +kernel
theorem dL_areLots_252 : decode cL_areLots 252 = .ok (.iload 5, 2) := by decide +kernel
theorem dL_areLots_254 : decode cL_areLots 254 = .ok (.ifCond .eq 105, 3) := by decide +kernel
theorem dL_areLots_257 : decode cL_areLots 257 = .ok (.aload_n 0, 1) := by decide +kernel
theorem dL_areLots_258 : decode cL_areLots 258 = .ok (.iload 6, 2) := by decide +kernel
theorem dL_areLots_260 : decode cL_areLots 260 = .ok (.invokevirtual 261, 3) := by decide +kernel
theorem dL_areLots_263 : decode cL_areLots 263 = .ok (.iload 7, 2) := by decide +kernel
theorem dL_areLots_265 : decode cL_areLots 265 = .ok (.if_icmp .ne 94, 3) := by decide +kernel
theorem dL_areLots_268 : decode cL_areLots 268 = .ok (.aload_n 0, 1) := by decide +kernel
theorem dL_areLots_269 : decode cL_areLots 269 = .ok (.iload 6, 2) := by decide +kernel
theorem dL_areLots_271 : decode cL_areLots 271 = .ok (.invokevirtual 264, 3) := by decide +kernel
theorem dL_areLots_274 : decode cL_areLots 274 = .ok (.iload 7, 2) := by decide +kernel
theorem dL_areLots_276 : decode cL_areLots 276 = .ok (.if_icmp .ne 83, 3) := by decide +kernel
theorem dL_areLots_279 : decode cL_areLots 279 = .ok (.iload 8, 2) := by decide +kernel
theorem dL_areLots_281 : decode cL_areLots 281 = .ok (.aload_n 0, 1) := by decide +kernel
theorem dL_areLots_282 : decode cL_areLots 282 = .ok (.iload 6, 2) := by decide +kernel
theorem dL_areLots_284 : decode cL_areLots 284 = .ok (.invokestatic 212, 3) := by decide +kernel
theorem dL_areLots_287 : decode cL_areLots 287 = .ok (.sipush (-1000), 3) := by decide +kernel
theorem dL_areLots_290 : decode cL_areLots 290 = .ok (.if_icmp .eq 7, 3) := by decide +kernel
theorem dL_areLots_293 : decode cL_areLots 293 = .ok (.iconst 1, 1) := by decide +kernel
theorem dL_areLots_294 : decode cL_areLots 294 = .ok (.goto 4, 3) := by decide +kernel
theorem dL_areLots_297 : decode cL_areLots 297 = .ok (.iconst 0, 1) := by decide +kernel
theorem dL_areLots_298 : decode cL_areLots 298 = .ok (.if_icmp .ne 61, 3) := by decide +kernel
theorem dL_areLots_301 : decode cL_areLots 301 = .ok (.aload_n 0, 1) := by decide +kernel
theorem dL_areLots_302 : decode cL_areLots 302 = .ok (.iload 6, 2) := by decide +kernel
theorem dL_areLots_304 : decode cL_areLots 304 = .ok (.invokevirtual 258, 3) := by decide +kernel
theorem dL_areLots_307 : decode cL_areLots 307 = .ok (.aload_n 0, 1) := by decide +kernel
theorem dL_areLots_308 : decode cL_areLots 308 = .ok (.invokevirtual 170, 3) := by decide +kernel
theorem dL_areLots_311 : decode cL_areLots 311 = .ok (.aload_n 0, 1) := by decide +kernel
theorem dL_areLots_312 : decode cL_areLots 312 = .ok (.iload 6, 2) := by decide +kernel
theorem dL_areLots_314 : decode cL_areLots 314 = .ok (.invokevirtual 209, 3) := by decide +kernel
theorem dL_areLots_317 : decode cL_areLots 317 = .ok (.if_icmp .le 7, 3) := by decide +kernel
theorem dL_areLots_320 : decode cL_areLots 320 = .ok (.iconst 1, 1) := by decide +kernel
theorem dL_areLots_321 : decode cL_areLots 321 = .ok (.goto 4, 3) := by decide +kernel
theorem dL_areLots_324 : decode cL_areLots 324 = .ok (.iconst 0, 1) := by decide +kernel
theorem dL_areLots_325 : decode cL_areLots 325 = .ok (.if_icmp .ne 34, 3) := by decide +kernel
theorem dL_areLots_328 : decode cL_areLots 328 = .ok (.iload 8, 2) := by decide +kernel
theorem dL_areLots_330 : decode cL_areLots 330 = .ok (.ifCond .eq 12, 3) := by decide +kernel
theorem dL_areLots_333 : decode cL_areLots 333 = .ok (.aload_n 0, 1) := by decide +kernel
theorem dL_areLots_334 : decode cL_areLots 334 = .ok (.iload 6, 2) := by decide +kernel
theorem dL_areLots_336 : decode cL_areLots 336 = .ok (.invokevirtual 206, 3) := by decide +kernel
theorem dL_areLots_339 : decode cL_areLots 339 = .ok (.ifCond .le 20, 3) := by decide +kernel
theorem dL_areLots_342 : decode cL_areLots 342 = .ok (.aload_n 0, 1) := by decide +kernel
theorem dL_areLots_343 : decode cL_areLots 343 = .ok (.iload 6, 2) := by decide +kernel
theorem dL_areLots_345 : decode cL_areLots 345 = .ok (.invokevirtual 267, 3) := by decide +kernel
theorem dL_areLots_348 : decode cL_areLots 348 = .ok (.iload 7, 2) := by decide +kernel
theorem dL_areLots_350 : decode cL_areLots 350 = .ok (.iconst 1, 1) := by decide +kernel
theorem dL_areLots_351 : decode cL_areLots 351 = .ok (.iadd, 1) := by decide +kernel
theorem dL_areLots_352 : decode cL_areLots 352 = .ok (.if_icmp .gt 7, 3) := by decide +kernel
theorem dL_areLots_355 : decode cL_areLots 355 = .ok (.iconst 1, 1) := by decide +kernel
theorem dL_areLots_356 : decode cL_areLots 356 = .ok (.goto 4, 3) := by decide +kernel
theorem dL_areLots_359 : decode cL_areLots 359 = .ok (.iconst 0, 1) := by decide +kernel
theorem dL_areLots_360 : decode cL_areLots 360 = .ok (.istore 5, 2) := by decide +kernel
theorem dL_areLots_362 : decode cL_areLots 362 = .ok (.iinc 6 1, 3) := by decide +kernel
theorem dL_areLots_365 : decode cL_areLots 365 = .ok (.goto (-276), 3) := by decide +kernel
theorem dL_areLots_368 : decode cL_areLots 368 = .ok (.iconst 1, 1) := by decide +kernel
theorem dL_areLots_369 : decode cL_areLots 369 = .ok (.istore 6, 2) := by decide +kernel
theorem dL_areLots_371 : decode cL_areLots 371 = .ok (.iload 5, 2) := by decide +kernel
theorem dL_areLots_373 : decode cL_areLots 373 = .ok (.ifCond .eq 72, 3) := by decide +kernel
theorem dL_areLots_376 : decode cL_areLots 376 = .ok (.iload 6, 2) := by decide +kernel
theorem dL_areLots_378 : decode cL_areLots 378 = .ok (.iload_n 2, 1) := by decide +kernel
theorem dL_areLots_379 : decode cL_areLots 379 = .ok (.if_icmp .ge 66, 3) := by decide +kernel
theorem dL_areLots_382 : decode cL_areLots 382 = .ok (.aload_n 0, 1) := by decide +kernel
theorem dL_areLots_383 : decode cL_areLots 383 = .ok (.iload 6, 2) := by decide +kernel
theorem dL_areLots_385 : decode cL_areLots 385 = .ok (.iconst 1, 1) := by decide +kernel
theorem dL_areLots_386 : decode cL_areLots 386 = .ok (.isub, 1) := by decide +kernel
theorem dL_areLots_387 : decode cL_areLots 387 = .ok (.invokestatic 270, 3) := by decide +kernel
theorem dL_areLots_390 : decode cL_areLots 390 = .ok (.istore 7, 2) := by decide +kernel
theorem dL_areLots_392 : decode cL_areLots 392 = .ok (.aload_n 0, 1) := by decide +kernel
theorem dL_areLots_393 : decode cL_areLots 393 = .ok (.iload 6, 2) := by decide +kernel
theorem dL_areLots_395 : decode cL_areLots 395 = .ok (.invokestatic 270, 3) := by decide +kernel
theorem dL_areLots_398 : decode cL_areLots 398 = .ok (.istore 8, 2) := by decide +kernel
theorem dL_areLots_400 : decode cL_areLots 400 = .ok (.aload_n 0, 1) := by decide +kernel
theorem dL_areLots_401 : decode cL_areLots 401 = .ok (.iload 8, 2) := by decide +kernel
theorem dL_areLots_403 : decode cL_areLots 403 = .ok (.invokevirtual 209, 3) := by decide +kernel
theorem dL_areLots_406 : decode cL_areLots 406 = .ok (.aload_n 0, 1) := by decide +kernel
theorem dL_areLots_407 : decode cL_areLots 407 = .ok (.iload 7, 2) := by decide +kernel
theorem dL_areLots_409 : decode cL_areLots 409 = .ok (.invokevirtual 209, 3) := by decide +kernel
theorem dL_areLots_412 : decode cL_areLots 412 = .ok (.isub, 1) := by decide +kernel
theorem dL_areLots_413 : decode cL_areLots 413 = .ok (.istore 9, 2) := by decide +kernel
theorem dL_areLots_415 : decode cL_areLots 415 = .ok (.iload 9, 2) := by decide +kernel
theorem dL_areLots_417 : decode cL_areLots 417 = .ok (.ifCond .gt 15, 3) := by decide +kernel
theorem dL_areLots_420 : decode cL_areLots 420 = .ok (.iload 9, 2) := by decide +kernel
theorem dL_areLots_422 : decode cL_areLots 422 = .ok (.ifCond .ne 14, 3) := by decide +kernel
theorem dL_areLots_425 : decode cL_areLots 425 = .ok (.iload 7, 2) := by decide +kernel
theorem dL_areLots_427 : decode cL_areLots 427 = .ok (.iload 8, 2) := by decide +kernel
theorem dL_areLots_429 : decode cL_areLots 429 = .ok (.if_icmp .ge 7, 3) := by decide +kernel
theorem dL_areLots_432 : decode cL_areLots 432 = .ok (.iconst 1, 1) := by decide +kernel
theorem dL_areLots_433 : decode cL_areLots 433 = .ok (.goto 4, 3) := by decide +kernel
theorem dL_areLots_436 : decode cL_areLots 436 = .ok (.iconst 0, 1) := by decide +kernel
theorem dL_areLots_437 : decode cL_areLots 437 = .ok (.istore 5, 2) := by decide +kernel
theorem dL_areLots_439 : decode cL_areLots 439 = .ok (.iinc 6 1, 3) := by decide +kernel
theorem dL_areLots_442 : decode cL_areLots 442 = .ok (.goto (-71), 3) := by decide +kernel
theorem dL_areLots_445 : decode cL_areLots 445 = .ok (.iload 5, 2) := by decide +kernel
theorem dL_areLots_447 : decode cL_areLots 447 = .ok (.ifCond .eq 71, 3) := by decide +kernel
theorem dL_areLots_450 : decode cL_areLots 450 = .ok (.aload_n 0, 1) := by decide +kernel
theorem dL_areLots_451 : decode cL_areLots 451 = .ok (.invokevirtual 237, 3) := by decide +kernel
theorem dL_areLots_454 : decode cL_areLots 454 = .ok (.iload_n 1, 1) := by decide +kernel
theorem dL_areLots_455 : decode cL_areLots 455 = .ok (.if_icmp .ne 63, 3) := by decide +kernel
theorem dL_areLots_458 : decode cL_areLots 458 = .ok (.aload_n 0, 1) := by decide +kernel
theorem dL_areLots_459 : decode cL_areLots 459 = .ok (.iload_n 2, 1) := by decide +kernel
theorem dL_areLots_460 : decode cL_areLots 460 = .ok (.invokestatic 270, 3) := by decide +kernel
theorem dL_areLots_463 : decode cL_areLots 463 = .ok (.sipush (-1000), 3) := by decide +kernel
theorem dL_areLots_466 : decode cL_areLots 466 = .ok (.if_icmp .ne 52, 3) := by decide +kernel
theorem dL_areLots_469 : decode cL_areLots 469 = .ok (.aload_n 0, 1) := by decide +kernel
theorem dL_areLots_470 : decode cL_areLots 470 = .ok (.invokestatic 272, 3) := by decide +kernel
theorem dL_areLots_473 : decode cL_areLots 473 = .ok (.iload_n 2, 1) := by decide +kernel
theorem dL_areLots_474 : decode cL_areLots 474 = .ok (.ifCond .ne 9, 3) := by decide +kernel
theorem dL_areLots_477 : decode cL_areLots 477 = .ok (.ldc2_w 79, 3) := by decide +kernel
theorem dL_areLots_480 : decode cL_areLots 480 = .ok (.goto 8, 3) := by decide +kernel
theorem dL_areLots_483 : decode cL_areLots 483 = .ok (.iload_n 1, 1) := by decide +kernel
theorem dL_areLots_484 : decode cL_areLots 484 = .ok (.i2d, 1) := by decide +kernel
theorem dL_areLots_485 : decode cL_areLots 485 = .ok (.iload_n 2, 1) := by decide +kernel
theorem dL_areLots_486 : decode cL_areLots 486 = .ok (.i2d, 1) := by decide +kernel
theorem dL_areLots_487 : decode cL_areLots 487 = .ok (.ddiv, 1) := by decide +kernel
theorem dL_areLots_488 : decode cL_areLots 488 = .ok (.dcmp .l, 1) := by decide +kernel
theorem dL_areLots_489 : decode cL_areLots 489 = .ok (.ifCond .ne 29, 3) := by decide +kernel
theorem dL_areLots_492 : decode cL_areLots 492 = .ok (.aload_n 0, 1) := by decide +kernel
theorem dL_areLots_493 : decode cL_areLots 493 = .ok (.invokestatic 275, 3) := by decide +kernel
theorem dL_areLots_496 : decode cL_areLots 496 = .ok (.iload_n 2, 1) := by decide +kernel
theorem dL_areLots_497 : decode cL_areLots 497 = .ok (.ifCond .ne 8, 3) := by decide +kernel
theorem dL_areLots_500 : decode cL_areLots 500 = .ok (.ldc 87, 2) := by decide +kernel
theorem dL_areLots_502 : decode cL_areLots 502 = .ok (.goto 8, 3) := by decide +kernel
theorem dL_areLots_505 : decode cL_areLots 505 = .ok (.iload_n 3, 1) := by decide +kernel
theorem dL_areLots_506 : decode cL_areLots 506 = .ok (.i2f, 1) := by decide +kernel
theorem dL_areLots_507 : decode cL_areLots 507 = .ok (.iload_n 2, 1) := by decide +kernel
theorem dL_areLots_508 : decode cL_areLots 508 = .ok (.i2f, 1) := by decide +kernel
theorem dL_areLots_509 : decode cL_areLots 509 = .ok (.fdiv, 1) := by decide +kernel
theorem dL_areLots_510 : decode cL_areLots 510 = .ok (.fcmp .l, 1) := by decide +kernel
theorem dL_areLots_511 : decode cL_areLots 511 = .ok (.ifCond .ne 7, 3) := by decide +kernel
theorem dL_areLots_514 : decode cL_areLots 514 = .ok (.iconst 1, 1) := by decide +kernel
theorem dL_areLots_515 : decode cL_areLots 515 = .ok (.goto 4, 3) := by decide +kernel
theorem dL_areLots_518 : decode cL_areLots 518 = .ok (.iconst 0, 1) := by decide +kernel
theorem dL_areLots_519 : decode cL_areLots 519 = .ok (.ireturn, 1) := by decide +kernel
theorem dL_isRecalled_0 : decode cL_isRecalled 0 = .ok (.aload_n 0, 1) := by decide +kernel
theorem dL_isRecalled_1 : decode cL_isRecalled 1 = .ok (.invokestatic 278, 3) := by decide +kernel
theorem dL_isRecalled_4 : decode cL_isRecalled 4 = .ok (.lstore_n 2, 1) := by decide +kernel
theorem dL_isRecalled_5 : decode cL_isRecalled 5 = .ok (.aload_n 0, 1) := by decide +kernel
theorem dL_isRecalled_6 : decode cL_isRecalled 6 = .ok (.iload_n 1, 1) := by decide +kernel
theorem dL_isRecalled_7 : decode cL_isRecalled 7 = .ok (.invokevirtual 267, 3) := by decide +kernel
theorem dL_isRecalled_10 : decode cL_isRecalled 10 = .ok (.istore 4, 2) := by decide +kernel
theorem dL_isRecalled_12 : decode cL_isRecalled 12 = .ok (.aload_n 0, 1) := by decide +kernel
theorem dL_isRecalled_13 : decode cL_isRecalled 13 = .ok (.invokevirtual 247, 3) := by decide +kernel
theorem dL_isRecalled_16 : decode cL_isRecalled 16 = .ok (.istore 5, 2) := by decide +kernel
theorem dL_isRecalled_18 : decode cL_isRecalled 18 = .ok (.aload_n 0, 1) := by decide +kernel
theorem dL_isRecalled_19 : decode cL_isRecalled 19 = .ok (.invokestatic 278, 3) := by decide +kernel
theorem dL_isRecalled_22 : decode cL_isRecalled 22 = .ok (.lload_n 2, 1) := by decide +kernel
theorem dL_isRecalled_23 : decode cL_isRecalled 23 = .ok (.lcmp, 1) := by decide +kernel
theorem dL_isRecalled_24 : decode cL_isRecalled 24 = .ok (.ifCond .ne 52, 3) := by decide +kernel
theorem dL_isRecalled_27 : decode cL_isRecalled 27 = .ok (.aload_n 0, 1) := by decide +kernel
theorem dL_isRecalled_28 : decode cL_isRecalled 28 = .ok (.iload_n 1, 1) := by decide +kernel
theorem dL_isRecalled_29 : decode cL_isRecalled 29 = .ok (.invokestatic 143, 3) := by decide +kernel
theorem dL_isRecalled_32 : decode cL_isRecalled 32 = .ok (.iload 4, 2) := by decide +kernel
theorem dL_isRecalled_34 : decode cL_isRecalled 34 = .ok (.if_icmp .ne 42, 3) := by decide +kernel
theorem dL_isRecalled_37 : decode cL_isRecalled 37 = .ok (.aload_n 0, 1) := by decide +kernel
theorem dL_isRecalled_38 : decode cL_isRecalled 38 = .ok (.invokevirtual 247, 3) := by decide +kernel
theorem dL_isRecalled_41 : decode cL_isRecalled 41 = .ok (.iload 5, 2) := by decide +kernel
theorem dL_isRecalled_43 : decode cL_isRecalled 43 = .ok (.iload 4, 2) := by decide +kernel
theorem dL_isRecalled_45 : decode cL_isRecalled 45 = .ok (.iadd, 1) := by decide +kernel
theorem dL_isRecalled_46 : decode cL_isRecalled 46 = .ok (.if_icmp .ne 30, 3) := by decide +kernel
theorem dL_isRecalled_49 : decode cL_isRecalled 49 = .ok (.aload_n 0, 1) := by decide +kernel
theorem dL_isRecalled_50 : decode cL_isRecalled 50 = .ok (.iload_n 1, 1) := by decide +kernel
theorem dL_isRecalled_51 : decode cL_isRecalled 51 = .ok (.invokevirtual 254, 3) := by decide +kernel
theorem dL_isRecalled_54 : decode cL_isRecalled 54 = .ok (.ifCond .ne 22, 3) := by decide +kernel
theorem dL_isRecalled_57 : decode cL_isRecalled 57 = .ok (.aload_n 0, 1) := by decide +kernel
theorem dL_isRecalled_58 : decode cL_isRecalled 58 = .ok (.iload_n 1, 1) := by decide +kernel
theorem dL_isRecalled_59 : decode cL_isRecalled 59 = .ok (.invokevirtual 267, 3) := by decide +kernel
theorem dL_isRecalled_62 : decode cL_isRecalled 62 = .ok (.ifCond .ne 14, 3) := by decide +kernel
theorem dL_isRecalled_65 : decode cL_isRecalled 65 = .ok (.aload_n 0, 1) := by decide +kernel
theorem dL_isRecalled_66 : decode cL_isRecalled 66 = .ok (.invokestatic 282, 3) := by decide +kernel
theorem dL_isRecalled_69 : decode cL_isRecalled 69 = .ok (.ifCond .eq 7, 3) := by decide +kernel
theorem dL_isRecalled_72 : decode cL_isRecalled 72 = .ok (.iconst 1, 1) := by decide +kernel
theorem dL_isRecalled_73 : decode cL_isRecalled 73 = .ok (.goto 4, 3) := by decide +kernel
theorem dL_isRecalled_76 : decode cL_isRecalled 76 = .ok (.iconst 0, 1) := by decide +kernel
theorem dL_isRecalled_77 : decode cL_isRecalled 77 = .ok (.istore 6, 2) := by decide +kernel
theorem dL_isRecalled_79 : decode cL_isRecalled 79 = .ok (.aload_n 0, 1) := by decide +kernel
theorem dL_isRecalled_80 : decode cL_isRecalled 80 = .ok (.invokevirtual 247, 3) := by decide +kernel
theorem dL_isRecalled_83 : decode cL_isRecalled 83 = .ok (.ifCond .le 64, 3) := by decide +kernel
theorem dL_isRecalled_86 : decode cL_isRecalled 86 = .ok (.aload_n 0, 1) := by decide +kernel
theorem dL_isRecalled_87 : decode cL_isRecalled 87 = .ok (.invokestatic 243, 3) := by decide +kernel
theorem dL_isRecalled_90 : decode cL_isRecalled 90 = .ok (.istore 7, 2) := by decide +kernel
theorem dL_isRecalled_92 : decode cL_isRecalled 92 = .ok (.aload_n 0, 1) := by decide +kernel
theorem dL_isRecalled_93 : decode cL_isRecalled 93 = .ok (.iload 7, 2) := by decide +kernel
theorem dL_isRecalled_95 : decode cL_isRecalled 95 = .ok (.invokevirtual 206, 3) := by decide +kernel
theorem dL_isRecalled_98 : decode cL_isRecalled 98 = .ok (.istore 8, 2) := by decide +kernel
theorem dL_isRecalled_100 : decode cL_isRecalled 100 = .ok (.iload 6, 2) := by decide +kernel
theorem dL_isRecalled_102 : decode cL_isRecalled 102 = .ok (.ifCond .eq 39, 3) := by decide +kernel
theorem dL_isRecalled_105 : decode cL_isRecalled 105 = .ok (.aload_n 0, 1) := by decide +kernel
theorem dL_isRecalled_106 : decode cL_isRecalled 106 = .ok (.invokestatic 145, 3) := by decide +kernel
theorem dL_isRecalled_109 : decode cL_isRecalled 109 = .ok (.iload 8, 2) := by decide +kernel
theorem dL_isRecalled_111 : decode cL_isRecalled 111 = .ok (.if_icmp .ne 30, 3) := by decide +kernel
theorem dL_isRecalled_114 : decode cL_isRecalled 114 = .ok (.aload_n 0, 1) := by decide +kernel
theorem dL_isRecalled_115 : decode cL_isRecalled 115 = .ok (.iload 7, 2) := by decide +kernel
theorem dL_isRecalled_117 : decode cL_isRecalled 117 = .ok (.invokevirtual 206, 3) := by decide +kernel
theorem dL_isRecalled_120 : decode cL_isRecalled 120 = .ok (.ifCond .ne 21, 3) := by decide +kernel
theorem dL_isRecalled_123 : decode cL_isRecalled 123 = .ok (.aload_n 0, 1) := by decide +kernel
theorem dL_isRecalled_124 : decode cL_isRecalled 124 = .ok (.invokestatic 282, 3) := by decide +kernel
theorem dL_isRecalled_127 : decode cL_isRecalled 127 = .ok (.ifCond .eq 14, 3) := by decide +kernel
theorem dL_isRecalled_130 : decode cL_isRecalled 130 = .ok (.aload_n 0, 1) := by decide +kernel
theorem dL_isRecalled_131 : decode cL_isRecalled 131 = .ok (.invokestatic 166, 3) := by decide +kernel
theorem dL_isRecalled_134 : decode cL_isRecalled 134 = .ok (.ifCond .lt 7, 3) := by decide +kernel
theorem dL_isRecalled_137 : decode cL_isRecalled 137 = .ok (.iconst 1, 1) := by decide +kernel
theorem dL_isRecalled_138 : decode cL_isRecalled 138 = .ok (.goto 4, 3) := by decide +kernel
theorem dL_isRecalled_141 : decode cL_isRecalled 141 = .ok (.iconst 0, 1) := by decide +kernel
theorem dL_isRecalled_142 : decode cL_isRecalled 142 = .ok (.istore 6, 2) := by decide +kernel
theorem dL_isRecalled_144 : decode cL_isRecalled 144 = .ok (.goto 24, 3) := by decide +kernel
theorem dL_isRecalled_147 : decode cL_isRecalled 147 = .ok (.iload 6, 2) := by decide +kernel
theorem dL_isRecalled_149 : decode cL_isRecalled 149 = .ok (.ifCond .eq 16, 3) := by decide +kernel
theorem dL_isRecalled_152 : decode cL_isRecalled 152 = .ok (.aload_n 0, 1) := by decide +kernel
theorem dL_isRecalled_153 : decode cL_isRecalled 153 = .ok (.invokestatic 145, 3) := by decide +kernel
theorem dL_isRecalled_156 : decode cL_isRecalled 156 = .ok (.ldc 10, 2) := by decide +kernel
theorem dL_isRecalled_158 : decode cL_isRecalled 158 = .ok (.if_icmp .ne 7, 3) := by decide +kernel
theorem dL_isRecalled_161 : decode cL_isRecalled 161 = .ok (.iconst 1, 1) := by decide +kernel
theorem dL_isRecalled_162 : decode cL_isRecalled 162 = .ok (.goto 4, 3) := by decide +kernel
theorem dL_isRecalled_165 : decode cL_isRecalled 165 = .ok (.iconst 0, 1) := by decide +kernel
theorem dL_isRecalled_166 : decode cL_isRecalled 166 = .ok (.istore 6, 2) := by decide +kernel
theorem dL_isRecalled_168 : decode cL_isRecalled 168 = .ok (.iload 6, 2) := by decide +kernel
theorem dL_isRecalled_170 : decode cL_isRecalled 170 = .ok (.ifCond .eq 23, 3) := by decide +kernel
theorem dL_isRecalled_173 : decode cL_isRecalled 173 = .ok (.aload_n 0, 1) := by decide +kernel
theorem dL_isRecalled_174 : decode cL_isRecalled 174 = .ok (.invokestatic 166, 3) := by decide +kernel
theorem dL_isRecalled_177 : decode cL_isRecalled 177 = .ok (.ifCond .lt 16, 3) := by decide +kernel
theorem dL_isRecalled_180 : decode cL_isRecalled 180 = .ok (.aload_n 0, 1) := by decide +kernel
theorem dL_isRecalled_181 : decode cL_isRecalled 181 = .ok (.invokestatic 278, 3) := by decide +kernel
theorem dL_isRecalled_184 : decode cL_isRecalled 184 = .ok (.lload_n 2, 1) := by decide +kernel
theorem dL_isRecalled_185 : decode cL_isRecalled 185 = .ok (.lcmp, 1) := by decide +kernel
theorem dL_isRecalled_186 : decode cL_isRecalled 186 = .ok (.ifCond .ne 7, 3) := by decide +kernel
theorem dL_isRecalled_189 : decode cL_isRecalled 189 = .ok (.iconst 1, 1) := by decide +kernel
theorem dL_isRecalled_190 : decode cL_isRecalled 190 = .ok (.goto 4, 3) := by decide +kernel
theorem dL_isRecalled_193 : decode cL_isRecalled 193 = .ok (.iconst 0, 1) := by decide +kernel
theorem dL_isRecalled_194 : decode cL_isRecalled 194 = .ok (.ireturn, 1) := by decide +kernel
theorem dL_isShipped_0 : decode cL_isShipped 0 = .ok (.aload_n 0, 1) := by decide +kernel
theorem dL_isShipped_1 : decode cL_isShipped 1 = .ok (.invokestatic 278, 3) := by decide +kernel
theorem dL_isShipped_4 : decode cL_isShipped 4 = .ok (.lstore_n 2, 1) := by decide +kernel
theorem dL_isShipped_5 : decode cL_isShipped 5 = .ok (.aload_n 0, 1) := by decide +kernel
theorem dL_isShipped_6 : decode cL_isShipped 6 = .ok (.iload_n 1, 1) := by decide +kernel
theorem dL_isShipped_7 : decode cL_isShipped 7 = .ok (.invokevirtual 286, 3) := by decide +kernel
theorem dL_isShipped_10 : decode cL_isShipped 10 = .ok (.istore 4, 2) := by decide +kernel
theorem dL_isShipped_12 : decode cL_isShipped 12 = .ok (.aload_n 0, 1) := by decide +kernel
theorem dL_isShipped_13 : decode cL_isShipped 13 = .ok (.iload_n 1, 1) := by decide +kernel
theorem dL_isShipped_14 : decode cL_isShipped 14 = .ok (.invokestatic 289, 3) := by decide +kernel
theorem dL_isShipped_17 : decode cL_isShipped 17 = .ok (.istore 5, 2) := by decide +kernel
theorem dL_isShipped_19 : decode cL_isShipped 19 = .ok (.aload_n 0, 1) := by decide +kernel
theorem dL_isShipped_20 : decode cL_isShipped 20 = .ok (.invokevirtual 180, 3) := by decide +kernel
theorem dL_isShipped_23 : decode cL_isShipped 23 = .ok (.istore 6, 2) := by decide +kernel
theorem dL_isShipped_25 : decode cL_isShipped 25 = .ok (.iload 4, 2) := by decide +kernel
theorem dL_isShipped_27 : decode cL_isShipped 27 = .ok (.ifCond .ne 37, 3) := by decide +kernel
theorem dL_isShipped_30 : decode cL_isShipped 30 = .ok (.iload 5, 2) := by decide +kernel
theorem dL_isShipped_32 : decode cL_isShipped 32 = .ok (.sipush (-1000), 3) := by decide +kernel
theorem dL_isShipped_35 : decode cL_isShipped 35 = .ok (.if_icmp .ne 27, 3) := by decide +kernel
theorem dL_isShipped_38 : decode cL_isShipped 38 = .ok (.aload_n 0, 1) := by decide +kernel
theorem dL_isShipped_39 : decode cL_isShipped 39 = .ok (.iload_n 1, 1) := by decide +kernel
theorem dL_isShipped_40 : decode cL_isShipped 40 = .ok (.iconst 1, 1) := by decide +kernel
theorem dL_isShipped_41 : decode cL_isShipped 41 = .ok (.invokestatic 141, 3) := by decide +kernel
theorem dL_isShipped_44 : decode cL_isShipped 44 = .ok (.ldc 10, 2) := by decide +kernel
theorem dL_isShipped_46 : decode cL_isShipped 46 = .ok (.if_icmp .ne 16, 3) := by decide +kernel
theorem dL_isShipped_49 : decode cL_isShipped 49 = .ok (.aload_n 0, 1) := by decide +kernel
theorem dL_isShipped_50 : decode cL_isShipped 50 = .ok (.invokestatic 278, 3) := by decide +kernel
theorem dL_isShipped_53 : decode cL_isShipped 53 = .ok (.lload_n 2, 1) := by decide +kernel
theorem dL_isShipped_54 : decode cL_isShipped 54 = .ok (.lcmp, 1) := by decide +kernel
theorem dL_isShipped_55 : decode cL_isShipped 55 = .ok (.ifCond .ne 7, 3) := by decide +kernel
theorem dL_isShipped_58 : decode cL_isShipped 58 = .ok (.iconst 1, 1) := by decide +kernel
theorem dL_isShipped_59 : decode cL_isShipped 59 = .ok (.goto 4, 3) := by decide +kernel
theorem dL_isShipped_62 : decode cL_isShipped 62 = .ok (.iconst 0, 1) := by decide +kernel
theorem dL_isShipped_63 : decode cL_isShipped 63 = .ok (.ireturn, 1) := by decide +kernel
theorem dL_isShipped_64 : decode cL_isShipped 64 = .ok (.aload_n 0, 1) := by decide +kernel
theorem dL_isShipped_65 : decode cL_isShipped 65 = .ok (.iload 5, 2) := by decide +kernel
theorem dL_isShipped_67 : decode cL_isShipped 67 = .ok (.invokevirtual 206, 3) := by decide +kernel
theorem dL_isShipped_70 : decode cL_isShipped 70 = .ok (.istore 7, 2) := by decide +kernel
theorem dL_isShipped_72 : decode cL_isShipped 72 = .ok (.aload_n 0, 1) := by decide +kernel
theorem dL_isShipped_73 : decode cL_isShipped 73 = .ok (.iload 5, 2) := by decide +kernel
theorem dL_isShipped_75 : decode cL_isShipped 75 = .ok (.invokevirtual 258, 3) := by decide +kernel
theorem dL_isShipped_78 : decode cL_isShipped 78 = .ok (.ifCond .ne 49, 3) := by decide +kernel
theorem dL_isShipped_81 : decode cL_isShipped 81 = .ok (.aload_n 0, 1) := by decide +kernel
theorem dL_isShipped_82 : decode cL_isShipped 82 = .ok (.iload_n 1, 1) := by decide +kernel
theorem dL_isShipped_83 : decode cL_isShipped 83 = .ok (.iconst 1, 1) := by decide +kernel
theorem dL_isShipped_84 : decode cL_isShipped 84 = .ok (.invokestatic 141, 3) := by decide +kernel
theorem dL_isShipped_87 : decode cL_isShipped 87 = .ok (.iconst 1, 1) := by decide +kernel
theorem dL_isShipped_88 : decode cL_isShipped 88 = .ok (.if_icmp .ne 39, 3) := by decide +kernel
theorem dL_isShipped_91 : decode cL_isShipped 91 = .ok (.aload_n 0, 1) := by decide +kernel
theorem dL_isShipped_92 : decode cL_isShipped 92 = .ok (.iload 5, 2) := by decide +kernel
theorem dL_isShipped_94 : decode cL_isShipped 94 = .ok (.invokevirtual 206, 3) := by decide +kernel
theorem dL_isShipped_97 : decode cL_isShipped 97 = .ok (.iload 7, 2) := by decide +kernel
theorem dL_isShipped_99 : decode cL_isShipped 99 = .ok (.iconst 1, 1) := by decide +kernel
theorem dL_isShipped_100 : decode cL_isShipped 100 = .ok (.isub, 1) := by decide +kernel
theorem dL_isShipped_101 : decode cL_isShipped 101 = .ok (.if_icmp .ne 26, 3) := by decide +kernel
theorem dL_isShipped_104 : decode cL_isShipped 104 = .ok (.aload_n 0, 1) := by decide +kernel
theorem dL_isShipped_105 : decode cL_isShipped 105 = .ok (.iload_n 1, 1) := by decide +kernel
theorem dL_isShipped_106 : decode cL_isShipped 106 = .ok (.invokevirtual 286, 3) := by decide +kernel
theorem dL_isShipped_109 : decode cL_isShipped 109 = .ok (.iload 4, 2) := by decide +kernel
theorem dL_isShipped_111 : decode cL_isShipped 111 = .ok (.iconst 1, 1) := by decide +kernel
theorem dL_isShipped_112 : decode cL_isShipped 112 = .ok (.isub, 1) := by decide +kernel
theorem dL_isShipped_113 : decode cL_isShipped 113 = .ok (.if_icmp .ne 14, 3) := by decide +kernel
theorem dL_isShipped_116 : decode cL_isShipped 116 = .ok (.aload_n 0, 1) := by decide +kernel
theorem dL_isShipped_117 : decode cL_isShipped 117 = .ok (.invokestatic 166, 3) := by decide +kernel
theorem dL_isShipped_120 : decode cL_isShipped 120 = .ok (.ifCond .lt 7, 3) := by decide +kernel
theorem dL_isShipped_123 : decode cL_isShipped 123 = .ok (.iconst 1, 1) := by decide +kernel
theorem dL_isShipped_124 : decode cL_isShipped 124 = .ok (.goto 4, 3) := by decide +kernel
theorem dL_isShipped_127 : decode cL_isShipped 127 = .ok (.iconst 0, 1) := by decide +kernel
theorem dL_isShipped_128 : decode cL_isShipped 128 = .ok (.istore 8, 2) := by decide +kernel
theorem dL_isShipped_130 : decode cL_isShipped 130 = .ok (.iload 4, 2) := by decide +kernel
theorem dL_isShipped_132 : decode cL_isShipped 132 = .ok (.bipush 99, 2) := by decide +kernel
theorem dL_isShipped_134 : decode cL_isShipped 134 = .ok (.if_icmp .ge 81, 3) := by decide +kernel
theorem dL_isShipped_137 : decode cL_isShipped 137 = .ok (.iload 8, 2) := by decide +kernel
theorem dL_isShipped_139 : decode cL_isShipped 139 = .ok (.ifCond .eq 73, 3) := by decide +kernel
theorem dL_isShipped_142 : decode cL_isShipped 142 = .ok (.aload_n 0, 1) := by decide +kernel
theorem dL_isShipped_143 : decode cL_isShipped 143 = .ok (.iload_n 1, 1) := by decide +kernel
theorem dL_isShipped_144 : decode cL_isShipped 144 = .ok (.iload 4, 2) := by decide +kernel
theorem dL_isShipped_146 : decode cL_isShipped 146 = .ok (.iconst 1, 1) := by decide +kernel
theorem dL_isShipped_147 : decode cL_isShipped 147 = .ok (.iadd, 1) := by decide +kernel
theorem dL_isShipped_148 : decode cL_isShipped 148 = .ok (.invokestatic 141, 3) := by decide +kernel
theorem dL_isShipped_151 : decode cL_isShipped 151 = .ok (.ldc 10, 2) := by decide +kernel
theorem dL_isShipped_153 : decode cL_isShipped 153 = .ok (.if_icmp .ne 59, 3) := by decide +kernel
theorem dL_isShipped_156 : decode cL_isShipped 156 = .ok (.aload_n 0, 1) := by decide +kernel
theorem dL_isShipped_157 : decode cL_isShipped 157 = .ok (.iload_n 1, 1) := by decide +kernel
theorem dL_isShipped_158 : decode cL_isShipped 158 = .ok (.iload 4, 2) := by decide +kernel
theorem dL_isShipped_160 : decode cL_isShipped 160 = .ok (.invokestatic 141, 3) := by decide +kernel
theorem dL_isShipped_163 : decode cL_isShipped 163 = .ok (.iconst 1, 1) := by decide +kernel
theorem dL_isShipped_164 : decode cL_isShipped 164 = .ok (.if_icmp .lt 48, 3) := by decide +kernel
theorem dL_isShipped_167 : decode cL_isShipped 167 = .ok (.aload_n 0, 1) := by decide +kernel
theorem dL_isShipped_168 : decode cL_isShipped 168 = .ok (.iload_n 1, 1) := by decide +kernel
theorem dL_isShipped_169 : decode cL_isShipped 169 = .ok (.invokevirtual 286, 3) := by decide +kernel
theorem dL_isShipped_172 : decode cL_isShipped 172 = .ok (.ifCond .ne 40, 3) := by decide +kernel
theorem dL_isShipped_175 : decode cL_isShipped 175 = .ok (.aload_n 0, 1) := by decide +kernel
theorem dL_isShipped_176 : decode cL_isShipped 176 = .ok (.invokevirtual 180, 3) := by decide +kernel
theorem dL_isShipped_179 : decode cL_isShipped 179 = .ok (.iload 6, 2) := by decide +kernel
theorem dL_isShipped_181 : decode cL_isShipped 181 = .ok (.iload 4, 2) := by decide +kernel
theorem dL_isShipped_183 : decode cL_isShipped 183 = .ok (.iadd, 1) := by decide +kernel
theorem dL_isShipped_184 : decode cL_isShipped 184 = .ok (.if_icmp .ne 28, 3) := by decide +kernel
theorem dL_isShipped_187 : decode cL_isShipped 187 = .ok (.aload_n 0, 1) := by decide +kernel
theorem dL_isShipped_188 : decode cL_isShipped 188 = .ok (.invokestatic 282, 3) := by decide +kernel
theorem dL_isShipped_191 : decode cL_isShipped 191 = .ok (.ifCond .eq 21, 3) := by decide +kernel
theorem dL_isShipped_194 : decode cL_isShipped 194 = .ok (.aload_n 0, 1) := by decide +kernel
theorem dL_isShipped_195 : decode cL_isShipped 195 = .ok (.invokestatic 291, 3) := by decide +kernel
theorem dL_isShipped_198 : decode cL_isShipped 198 = .ok (.ifCond .eq 14, 3) := by decide +kernel
theorem dL_isShipped_201 : decode cL_isShipped 201 = .ok (.aload_n 0, 1) := by decide +kernel
theorem dL_isShipped_202 : decode cL_isShipped 202 = .ok (.invokestatic 166, 3) := by decide +kernel
theorem dL_isShipped_205 : decode cL_isShipped 205 = .ok (.ifCond .lt 7, 3) := by decide +kernel
theorem dL_isShipped_208 : decode cL_isShipped 208 = .ok (.iconst 1, 1) := by decide +kernel
theorem dL_isShipped_209 : decode cL_isShipped 209 = .ok (.goto 4, 3) := by decide +kernel
theorem dL_isShipped_212 : decode cL_isShipped 212 = .ok (.iconst 0, 1) := by decide +kernel
theorem dL_isShipped_213 : decode cL_isShipped 213 = .ok (.istore 8, 2) := by decide +kernel
theorem dL_isShipped_215 : decode cL_isShipped 215 = .ok (.iload 8, 2) := by decide +kernel
theorem dL_isShipped_217 : decode cL_isShipped 217 = .ok (.ifCond .eq 16, 3) := by decide +kernel
theorem dL_isShipped_220 : decode cL_isShipped 220 = .ok (.aload_n 0, 1) := by decide +kernel
theorem dL_isShipped_221 : decode cL_isShipped 221 = .ok (.invokestatic 278, 3) := by decide +kernel
theorem dL_isShipped_224 : decode cL_isShipped 224 = .ok (.lload_n 2, 1) := by decide +kernel
theorem dL_isShipped_225 : decode cL_isShipped 225 = .ok (.lcmp, 1) := by decide +kernel
theorem dL_isShipped_226 : decode cL_isShipped 226 = .ok (.ifCond .ne 7, 3) := by decide +kernel
theorem dL_isShipped_229 : decode cL_isShipped 229 = .ok (.iconst 1, 1) := by decide +kernel
theorem dL_isShipped_230 : decode cL_isShipped 230 = .ok (.goto 4, 3) := by decide +kernel
theorem dL_isShipped_233 : decode cL_isShipped 233 = .ok (.iconst 0, 1) := by decide +kernel
theorem dL_isShipped_234 : decode cL_isShipped 234 = .ok (.ireturn, 1) := by decide +kernel
theorem dL_isSplit_0 : decode cL_isSplit 0 = .ok (.aload_n 0, 1) := by decide +kernel
theorem dL_isSplit_1 : decode cL_isSplit 1 = .ok (.invokestatic 278, 3) := by decide +kernel
theorem dL_isSplit_4 : decode cL_isSplit 4 = .ok (.lstore_n 2, 1) := by decide +kernel
theorem dL_isSplit_5 : decode cL_isSplit 5 = .ok (.aload_n 0, 1) := by decide +kernel
theorem dL_isSplit_6 : decode cL_isSplit 6 = .ok (.iload_n 1, 1) := by decide +kernel
theorem dL_isSplit_7 : decode cL_isSplit 7 = .ok (.invokevirtual 206, 3) := by decide +kernel
theorem dL_isSplit_10 : decode cL_isSplit 10 = .ok (.istore 4, 2) := by decide +kernel
theorem dL_isSplit_12 : decode cL_isSplit 12 = .ok (.aload_n 0, 1) := by decide +kernel
theorem dL_isSplit_13 : decode cL_isSplit 13 = .ok (.invokevirtual 190, 3) := by decide +kernel
theorem dL_isSplit_16 : decode cL_isSplit 16 = .ok (.istore 5, 2) := by decide +kernel
theorem dL_isSplit_18 : decode cL_isSplit 18 = .ok (.aload_n 0, 1) := by decide +kernel
theorem dL_isSplit_19 : decode cL_isSplit 19 = .ok (.iload_n 1, 1) := by decide +kernel
theorem dL_isSplit_20 : decode cL_isSplit 20 = .ok (.iconst 1, 1) := by decide +kernel
theorem dL_isSplit_21 : decode cL_isSplit 21 = .ok (.invokestatic 135, 3) := by decide +kernel
theorem dL_isSplit_24 : decode cL_isSplit 24 = .ok (.istore 6, 2) := by decide +kernel
theorem dL_isSplit_26 : decode cL_isSplit 26 = .ok (.iload 6, 2) := by decide +kernel
theorem dL_isSplit_28 : decode cL_isSplit 28 = .ok (.ldc 10, 2) := by decide +kernel
theorem dL_isSplit_30 : decode cL_isSplit 30 = .ok (.if_icmp .ne 55, 3) := by decide +kernel
theorem dL_isSplit_33 : decode cL_isSplit 33 = .ok (.aload_n 0, 1) := by decide +kernel
theorem dL_isSplit_34 : decode cL_isSplit 34 = .ok (.invokestatic 278, 3) := by decide +kernel
theorem dL_isSplit_37 : decode cL_isSplit 37 = .ok (.lload_n 2, 1) := by decide +kernel
theorem dL_isSplit_38 : decode cL_isSplit 38 = .ok (.lcmp, 1) := by decide +kernel
theorem dL_isSplit_39 : decode cL_isSplit 39 = .ok (.ifCond .ne 44, 3) := by decide +kernel
theorem dL_isSplit_42 : decode cL_isSplit 42 = .ok (.aload_n 0, 1) := by decide +kernel
theorem dL_isSplit_43 : decode cL_isSplit 43 = .ok (.iload_n 1, 1) := by decide +kernel
theorem dL_isSplit_44 : decode cL_isSplit 44 = .ok (.invokevirtual 254, 3) := by decide +kernel
theorem dL_isSplit_47 : decode cL_isSplit 47 = .ok (.ifCond .eq 32, 3) := by decide +kernel
theorem dL_isSplit_50 : decode cL_isSplit 50 = .ok (.aload_n 0, 1) := by decide +kernel
theorem dL_isSplit_51 : decode cL_isSplit 51 = .ok (.iload_n 1, 1) := by decide +kernel
theorem dL_isSplit_52 : decode cL_isSplit 52 = .ok (.invokevirtual 258, 3) := by decide +kernel
theorem dL_isSplit_55 : decode cL_isSplit 55 = .ok (.ifCond .ne 24, 3) := by decide +kernel
theorem dL_isSplit_58 : decode cL_isSplit 58 = .ok (.iload 4, 2) := by decide +kernel
theorem dL_isSplit_60 : decode cL_isSplit 60 = .ok (.iconst 2, 1) := by decide +kernel
theorem dL_isSplit_61 : decode cL_isSplit 61 = .ok (.if_icmp .lt 18, 3) := by decide +kernel
theorem dL_isSplit_64 : decode cL_isSplit 64 = .ok (.iload 5, 2) := by decide +kernel
theorem dL_isSplit_66 : decode cL_isSplit 66 = .ok (.bipush 20, 2) := by decide +kernel
theorem dL_isSplit_68 : decode cL_isSplit 68 = .ok (.if_icmp .eq 11, 3) := by decide +kernel
theorem dL_isSplit_71 : decode cL_isSplit 71 = .ok (.aload_n 0, 1) := by decide +kernel
theorem dL_isSplit_72 : decode cL_isSplit 72 = .ok (.invokestatic 294, 3) := by decide +kernel
theorem dL_isSplit_75 : decode cL_isSplit 75 = .ok (.iconst 1, 1) := by decide +kernel
theorem dL_isSplit_76 : decode cL_isSplit 76 = .ok (.if_icmp .ne 7, 3) := by decide +kernel
theorem dL_isSplit_79 : decode cL_isSplit 79 = .ok (.iconst 1, 1) := by decide +kernel
theorem dL_isSplit_80 : decode cL_isSplit 80 = .ok (.goto 4, 3) := by decide +kernel
theorem dL_isSplit_83 : decode cL_isSplit 83 = .ok (.iconst 0, 1) := by decide +kernel
theorem dL_isSplit_84 : decode cL_isSplit 84 = .ok (.ireturn, 1) := by decide +kernel
theorem dL_isSplit_85 : decode cL_isSplit 85 = .ok (.iload 6, 2) := by decide +kernel
theorem dL_isSplit_87 : decode cL_isSplit 87 = .ok (.iload 5, 2) := by decide +kernel
theorem dL_isSplit_89 : decode cL_isSplit 89 = .ok (.if_icmp .ne 70, 3) := by decide +kernel
theorem dL_isSplit_92 : decode cL_isSplit 92 = .ok (.aload_n 0, 1) := by decide +kernel
theorem dL_isSplit_93 : decode cL_isSplit 93 = .ok (.iload 6, 2) := by decide +kernel
theorem dL_isSplit_95 : decode cL_isSplit 95 = .ok (.invokevirtual 206, 3) := by decide +kernel
theorem dL_isSplit_98 : decode cL_isSplit 98 = .ok (.iconst 1, 1) := by decide +kernel
theorem dL_isSplit_99 : decode cL_isSplit 99 = .ok (.if_icmp .ne 60, 3) := by decide +kernel
theorem dL_isSplit_102 : decode cL_isSplit 102 = .ok (.aload_n 0, 1) := by decide +kernel
theorem dL_isSplit_103 : decode cL_isSplit 103 = .ok (.iload_n 1, 1) := by decide +kernel
theorem dL_isSplit_104 : decode cL_isSplit 104 = .ok (.invokevirtual 206, 3) := by decide +kernel
theorem dL_isSplit_107 : decode cL_isSplit 107 = .ok (.iload 4, 2) := by decide +kernel
theorem dL_isSplit_109 : decode cL_isSplit 109 = .ok (.iconst 1, 1) := by decide +kernel
theorem dL_isSplit_110 : decode cL_isSplit 110 = .ok (.isub, 1) := by decide +kernel
theorem dL_isSplit_111 : decode cL_isSplit 111 = .ok (.if_icmp .ne 48, 3) := by decide +kernel
theorem dL_isSplit_114 : decode cL_isSplit 114 = .ok (.aload_n 0, 1) := by decide +kernel
theorem dL_isSplit_115 : decode cL_isSplit 115 = .ok (.iload 6, 2) := by decide +kernel
theorem dL_isSplit_117 : decode cL_isSplit 117 = .ok (.invokevirtual 57, 3) := by decide +kernel
theorem dL_isSplit_120 : decode cL_isSplit 120 = .ok (.aload_n 0, 1) := by decide +kernel
theorem dL_isSplit_121 : decode cL_isSplit 121 = .ok (.iload_n 1, 1) := by decide +kernel
theorem dL_isSplit_122 : decode cL_isSplit 122 = .ok (.invokevirtual 57, 3) := by decide +kernel
theorem dL_isSplit_125 : decode cL_isSplit 125 = .ok (.if_icmp .ne 34, 3) := by decide +kernel
theorem dL_isSplit_128 : decode cL_isSplit 128 = .ok (.aload_n 0, 1) := by decide +kernel
theorem dL_isSplit_129 : decode cL_isSplit 129 = .ok (.iload 6, 2) := by decide +kernel
theorem dL_isSplit_131 : decode cL_isSplit 131 = .ok (.iload_n 1, 1) := by decide +kernel
theorem dL_isSplit_132 : decode cL_isSplit 132 = .ok (.invokevirtual 250, 3) := by decide +kernel
theorem dL_isSplit_135 : decode cL_isSplit 135 = .ok (.ifCond .eq 24, 3) := by decide +kernel
theorem dL_isSplit_138 : decode cL_isSplit 138 = .ok (.aload_n 0, 1) := by decide +kernel
theorem dL_isSplit_139 : decode cL_isSplit 139 = .ok (.iload 6, 2) := by decide +kernel
theorem dL_isSplit_141 : decode cL_isSplit 141 = .ok (.invokevirtual 217, 3) := by decide +kernel
theorem dL_isSplit_144 : decode cL_isSplit 144 = .ok (.iconst 1, 1) := by decide +kernel
theorem dL_isSplit_145 : decode cL_isSplit 145 = .ok (.if_icmp .ne 14, 3) := by decide +kernel
theorem dL_isSplit_148 : decode cL_isSplit 148 = .ok (.aload_n 0, 1) := by decide +kernel
theorem dL_isSplit_149 : decode cL_isSplit 149 = .ok (.invokestatic 282, 3) := by decide +kernel
theorem dL_isSplit_152 : decode cL_isSplit 152 = .ok (.ifCond .eq 7, 3) := by decide +kernel
theorem dL_isSplit_155 : decode cL_isSplit 155 = .ok (.iconst 1, 1) := by decide +kernel
theorem dL_isSplit_156 : decode cL_isSplit 156 = .ok (.goto 4, 3) := by decide +kernel
theorem dL_isSplit_159 : decode cL_isSplit 159 = .ok (.iconst 0, 1) := by decide +kernel
theorem dL_isSplit_160 : decode cL_isSplit 160 = .ok (.istore 7, 2) := by decide +kernel
theorem dL_isSplit_162 : decode cL_isSplit 162 = .ok (.iload 7, 2) := by decide +kernel
theorem dL_isSplit_164 : decode cL_isSplit 164 = .ok (.ifCond .eq 109, 3) := by decide +kernel
theorem dL_isSplit_167 : decode cL_isSplit 167 = .ok (.iload 5, 2) := by decide +kernel
theorem dL_isSplit_169 : decode cL_isSplit 169 = .ok (.bipush 19, 2) := by decide +kernel
theorem dL_isSplit_171 : decode cL_isSplit 171 = .ok (.if_icmp .ge 102, 3) := by decide +kernel
theorem dL_isSplit_174 : decode cL_isSplit 174 = .ok (.aload_n 0, 1) := by decide +kernel
theorem dL_isSplit_175 : decode cL_isSplit 175 = .ok (.iload_n 1, 1) := by decide +kernel
theorem dL_isSplit_176 : decode cL_isSplit 176 = .ok (.iload 6, 2) := by decide +kernel
theorem dL_isSplit_178 : decode cL_isSplit 178 = .ok (.invokestatic 137, 3) := by decide +kernel
theorem dL_isSplit_181 : decode cL_isSplit 181 = .ok (.istore 8, 2) := by decide +kernel
theorem dL_isSplit_183 : decode cL_isSplit 183 = .ok (.iload 8, 2) := by decide +kernel
theorem dL_isSplit_185 : decode cL_isSplit 185 = .ok (.iload 5, 2) := by decide +kernel
theorem dL_isSplit_187 : decode cL_isSplit 187 = .ok (.iconst 1, 1) := by decide +kernel
theorem dL_isSplit_188 : decode cL_isSplit 188 = .ok (.iadd, 1) := by decide +kernel
theorem dL_isSplit_189 : decode cL_isSplit 189 = .ok (.if_icmp .ne 81, 3) := by decide +kernel
theorem dL_isSplit_192 : decode cL_isSplit 192 = .ok (.aload_n 0, 1) := by decide +kernel
theorem dL_isSplit_193 : decode cL_isSplit 193 = .ok (.iload 8, 2) := by decide +kernel
theorem dL_isSplit_195 : decode cL_isSplit 195 = .ok (.invokevirtual 206, 3) := by decide +kernel
theorem dL_isSplit_198 : decode cL_isSplit 198 = .ok (.iload 4, 2) := by decide +kernel
theorem dL_isSplit_200 : decode cL_isSplit 200 = .ok (.if_icmp .ne 70, 3) := by decide +kernel
theorem dL_isSplit_203 : decode cL_isSplit 203 = .ok (.aload_n 0, 1) := by decide +kernel
theorem dL_isSplit_204 : decode cL_isSplit 204 = .ok (.iload 8, 2) := by decide +kernel
theorem dL_isSplit_206 : decode cL_isSplit 206 = .ok (.invokevirtual 209, 3) := by decide +kernel
theorem dL_isSplit_209 : decode cL_isSplit 209 = .ok (.aload_n 0, 1) := by decide +kernel
theorem dL_isSplit_210 : decode cL_isSplit 210 = .ok (.iload_n 1, 1) := by decide +kernel
theorem dL_isSplit_211 : decode cL_isSplit 211 = .ok (.invokevirtual 209, 3) := by decide +kernel
theorem dL_isSplit_214 : decode cL_isSplit 214 = .ok (.if_icmp .ne 56, 3) := by decide +kernel
theorem dL_isSplit_217 : decode cL_isSplit 217 = .ok (.aload_n 0, 1) := by decide +kernel
theorem dL_isSplit_218 : decode cL_isSplit 218 = .ok (.iload_n 1, 1) := by decide +kernel
theorem dL_isSplit_219 : decode cL_isSplit 219 = .ok (.invokevirtual 206, 3) := by decide +kernel
theorem dL_isSplit_222 : decode cL_isSplit 222 = .ok (.ifCond .ne 48, 3) := by decide +kernel
theorem dL_isSplit_225 : decode cL_isSplit 225 = .ok (.aload_n 0, 1) := by decide +kernel
theorem dL_isSplit_226 : decode cL_isSplit 226 = .ok (.iload 8, 2) := by decide +kernel
theorem dL_isSplit_228 : decode cL_isSplit 228 = .ok (.invokevirtual 217, 3) := by decide +kernel
theorem dL_isSplit_231 : decode cL_isSplit 231 = .ok (.iconst 2, 1) := by decide +kernel
theorem dL_isSplit_232 : decode cL_isSplit 232 = .ok (.if_icmp .ne 38, 3) := by decide +kernel
theorem dL_isSplit_235 : decode cL_isSplit 235 = .ok (.aload_n 0, 1) := by decide +kernel
theorem dL_isSplit_236 : decode cL_isSplit 236 = .ok (.iload 8, 2) := by decide +kernel
theorem dL_isSplit_238 : decode cL_isSplit 238 = .ok (.iload_n 1, 1) := by decide +kernel
theorem dL_isSplit_239 : decode cL_isSplit 239 = .ok (.invokevirtual 250, 3) := by decide +kernel
theorem dL_isSplit_242 : decode cL_isSplit 242 = .ok (.ifCond .eq 28, 3) := by decide +kernel
theorem dL_isSplit_245 : decode cL_isSplit 245 = .ok (.aload_n 0, 1) := by decide +kernel
theorem dL_isSplit_246 : decode cL_isSplit 246 = .ok (.invokestatic 282, 3) := by decide +kernel
theorem dL_isSplit_249 : decode cL_isSplit 249 = .ok (.ifCond .eq 21, 3) := by decide +kernel
theorem dL_isSplit_252 : decode cL_isSplit 252 = .ok (.aload_n 0, 1) := by decide +kernel
theorem dL_isSplit_253 : decode cL_isSplit 253 = .ok (.invokestatic 291, 3) := by decide +kernel
theorem dL_isSplit_256 : decode cL_isSplit 256 = .ok (.ifCond .eq 14, 3) := by decide +kernel
theorem dL_isSplit_259 : decode cL_isSplit 259 = .ok (.aload_n 0, 1) := by decide +kernel
theorem dL_isSplit_260 : decode cL_isSplit 260 = .ok (.invokestatic 166, 3) := by decide +kernel
theorem dL_isSplit_263 : decode cL_isSplit 263 = .ok (.ifCond .lt 7, 3) := by decide +kernel
theorem dL_isSplit_266 : decode cL_isSplit 266 = .ok (.iconst 1, 1) := by decide +kernel
theorem dL_isSplit_267 : decode cL_isSplit 267 = .ok (.goto 4, 3) := by decide +kernel
theorem dL_isSplit_270 : decode cL_isSplit 270 = .ok (.iconst 0, 1) := by decide +kernel
theorem dL_isSplit_271 : decode cL_isSplit 271 = .ok (.istore 7, 2) := by decide +kernel
theorem dL_isSplit_273 : decode cL_isSplit 273 = .ok (.iload 7, 2) := by decide +kernel
theorem dL_isSplit_275 : decode cL_isSplit 275 = .ok (.ifCond .eq 23, 3) := by decide +kernel
theorem dL_isSplit_278 : decode cL_isSplit 278 = .ok (.aload_n 0, 1) := by decide +kernel
theorem dL_isSplit_279 : decode cL_isSplit 279 = .ok (.invokestatic 166, 3) := by decide +kernel
theorem dL_isSplit_282 : decode cL_isSplit 282 = .ok (.ifCond .lt 16, 3) := by decide +kernel
theorem dL_isSplit_285 : decode cL_isSplit 285 = .ok (.aload_n 0, 1) := by decide +kernel
theorem dL_isSplit_286 : decode cL_isSplit 286 = .ok (.invokestatic 278, 3) := by decide +kernel
theorem dL_isSplit_289 : decode cL_isSplit 289 = .ok (.lload_n 2, 1) := by decide +kernel
theorem dL_isSplit_290 : decode cL_isSplit 290 = .ok (.lcmp, 1) := by decide +kernel
theorem dL_isSplit_291 : decode cL_isSplit 291 = .ok (.ifCond .ne 7, 3) := by decide +kernel
theorem dL_isSplit_294 : decode cL_isSplit 294 = .ok (.iconst 1, 1) := by decide +kernel
theorem dL_isSplit_295 : decode cL_isSplit 295 = .ok (.goto 4, 3) := by decide +kernel
theorem dL_isSplit_298 : decode cL_isSplit 298 = .ok (.iconst 0, 1) := by decide +kernel
theorem dL_isSplit_299 : decode cL_isSplit 299 = .ok (.ireturn, 1) := by decide +kernel
theorem dL_isFit_0 : decode cL_isFit 0 = .ok (.aload_n 0, 1) := by decide +kernel
theorem dL_isFit_1 : decode cL_isFit 1 = .ok (.invokestatic 291, 3) := by decide +kernel
theorem dL_isFit_4 : decode cL_isFit 4 = .ok (.ifCond .eq 14, 3) := by decide +kernel
theorem dL_isFit_7 : decode cL_isFit 7 = .ok (.aload_n 0, 1) := by decide +kernel
theorem dL_isFit_8 : decode cL_isFit 8 = .ok (.invokestatic 282, 3) := by decide +kernel
theorem dL_isFit_11 : decode cL_isFit 11 = .ok (.ifCond .eq 7, 3) := by decide +kernel
theorem dL_isFit_14 : decode cL_isFit 14 = .ok (.iconst 1, 1) := by decide +kernel
theorem dL_isFit_15 : decode cL_isFit 15 = .ok (.goto 4, 3) := by decide +kernel
theorem dL_isFit_18 : decode cL_isFit 18 = .ok (.iconst 0, 1) := by decide +kernel
theorem dL_isFit_19 : decode cL_isFit 19 = .ok (.istore_n 1, 1) := by decide +kernel
theorem dL_isFit_20 : decode cL_isFit 20 = .ok (.iconst 0, 1) := by decide +kernel
theorem dL_isFit_21 : decode cL_isFit 21 = .ok (.istore_n 2, 1) := by decide +kernel
theorem dL_isFit_22 : decode cL_isFit 22 = .ok (.iload_n 1, 1) := by decide +kernel
theorem dL_isFit_23 : decode cL_isFit 23 = .ok (.ifCond .eq 39, 3) := by decide +kernel
theorem dL_isFit_26 : decode cL_isFit 26 = .ok (.iload_n 2, 1) := by decide +kernel
theorem dL_isFit_27 : decode cL_isFit 27 = .ok (.aload_n 0, 1) := by decide +kernel
theorem dL_isFit_28 : decode cL_isFit 28 = .ok (.invokevirtual 190, 3) := by decide +kernel
theorem dL_isFit_31 : decode cL_isFit 31 = .ok (.if_icmp .ge 31, 3) := by decide +kernel
theorem dL_isFit_34 : decode cL_isFit 34 = .ok (.aload_n 0, 1) := by decide +kernel
theorem dL_isFit_35 : decode cL_isFit 35 = .ok (.iload_n 2, 1) := by decide +kernel
theorem dL_isFit_36 : decode cL_isFit 36 = .ok (.invokestatic 296, 3) := by decide +kernel
theorem dL_isFit_39 : decode cL_isFit 39 = .ok (.ifCond .eq 15, 3) := by decide +kernel
theorem dL_isFit_42 : decode cL_isFit 42 = .ok (.aload_n 0, 1) := by decide +kernel
theorem dL_isFit_43 : decode cL_isFit 43 = .ok (.iload_n 2, 1) := by decide +kernel
theorem dL_isFit_44 : decode cL_isFit 44 = .ok (.invokestatic 300, 3) := by decide +kernel
theorem dL_isFit_47 : decode cL_isFit 47 = .ok (.ifCond .eq 7, 3) := by decide +kernel
theorem dL_isFit_50 : decode cL_isFit 50 = .ok (.iconst 1, 1) := by decide +kernel
theorem dL_isFit_51 : decode cL_isFit 51 = .ok (.goto 4, 3) := by decide +kernel
theorem dL_isFit_54 : decode cL_isFit 54 = .ok (.iconst 0, 1) := by decide +kernel
theorem dL_isFit_55 : decode cL_isFit 55 = .ok (.istore_n 1, 1) := by decide +kernel
theorem dL_isFit_56 : decode cL_isFit 56 = .ok (.iinc 2 1, 3) := by decide +kernel
theorem dL_isFit_59 : decode cL_isFit 59 = .ok (.goto (-37), 3) := by decide +kernel
theorem dL_isFit_62 : decode cL_isFit 62 = .ok (.iconst 0, 1) := by decide +kernel
theorem dL_isFit_63 : decode cL_isFit 63 = .ok (.istore_n 2, 1) := by decide +kernel
theorem dL_isFit_64 : decode cL_isFit 64 = .ok (.iload_n 1, 1) := by decide +kernel
theorem dL_isFit_65 : decode cL_isFit 65 = .ok (.ifCond .eq 21, 3) := by decide +kernel
theorem dL_isFit_68 : decode cL_isFit 68 = .ok (.iload_n 2, 1) := by decide +kernel
theorem dL_isFit_69 : decode cL_isFit 69 = .ok (.bipush 6, 2) := by decide +kernel
theorem dL_isFit_71 : decode cL_isFit 71 = .ok (.if_icmp .ge 15, 3) := by decide +kernel
theorem dL_isFit_74 : decode cL_isFit 74 = .ok (.aload_n 0, 1) := by decide +kernel
theorem dL_isFit_75 : decode cL_isFit 75 = .ok (.iload_n 2, 1) := by decide +kernel
theorem dL_isFit_76 : decode cL_isFit 76 = .ok (.invokestatic 303, 3) := by decide +kernel
theorem dL_isFit_79 : decode cL_isFit 79 = .ok (.istore_n 1, 1) := by decide +kernel
theorem dL_isFit_80 : decode cL_isFit 80 = .ok (.iinc 2 1, 3) := by decide +kernel
theorem dL_isFit_83 : decode cL_isFit 83 = .ok (.goto (-19), 3) := by decide +kernel
theorem dL_isFit_86 : decode cL_isFit 86 = .ok (.iload_n 1, 1) := by decide +kernel
theorem dL_isFit_87 : decode cL_isFit 87 = .ok (.ireturn, 1) := by decide +kernel
theorem dL_law_0 : decode cL_law 0 = .ok (.new 12, 3) := by decide +kernel
theorem dL_law_3 : decode cL_law 3 = .ok (.dup, 1) := by decide +kernel
theorem dL_law_4 : decode cL_law 4 = .ok (.invokespecial 306, 3) := by decide +kernel
theorem dL_law_7 : decode cL_law 7 = .ok (.astore_n 1, 1) := by decide +kernel
theorem dL_law_8 : decode cL_law 8 = .ok (.iconst 0, 1) := by decide +kernel
theorem dL_law_9 : decode cL_law 9 = .ok (.istore_n 2, 1) := by decide +kernel
theorem dL_law_10 : decode cL_law 10 = .ok (.iload_n 2, 1) := by decide +kernel
theorem dL_law_11 : decode cL_law 11 = .ok (.iconst 4, 1) := by decide +kernel
theorem dL_law_12 : decode cL_law 12 = .ok (.if_icmp .ge 75, 3) := by decide +kernel
theorem dL_law_15 : decode cL_law 15 = .ok (.aload_n 1, 1) := by decide +kernel
theorem dL_law_16 : decode cL_law 16 = .ok (.iload_n 2, 1) := by decide +kernel
theorem dL_law_17 : decode cL_law 17 = .ok (.iconst 1, 1) := by decide +kernel
theorem dL_law_18 : decode cL_law 18 = .ok (.iand, 1) := by decide +kernel
theorem dL_law_19 : decode cL_law 19 = .ok (.bipush 10, 2) := by decide +kernel
theorem dL_law_21 : decode cL_law 21 = .ok (.aload_n 0, 1) := by decide +kernel
theorem dL_law_22 : decode cL_law 22 = .ok (.iload_n 2, 1) := by decide +kernel
theorem dL_law_23 : decode cL_law 23 = .ok (.invokestatic 307, 3) := by decide +kernel
theorem dL_law_26 : decode cL_law 26 = .ok (.iconst 4, 1) := by decide +kernel
theorem dL_law_27 : decode cL_law 27 = .ok (.ishr, 1) := by decide +kernel
theorem dL_law_28 : decode cL_law 28 = .ok (.bipush 15, 2) := by decide +kernel
theorem dL_law_30 : decode cL_law 30 = .ok (.iand, 1) := by decide +kernel
theorem dL_law_31 : decode cL_law 31 = .ok (.iadd, 1) := by decide +kernel
theorem dL_law_32 : decode cL_law 32 = .ok (.invokestatic 126, 3) := by decide +kernel
theorem dL_law_35 : decode cL_law 35 = .ok (.pop, 1) := by decide +kernel
theorem dL_law_36 : decode cL_law 36 = .ok (.aload_n 1, 1) := by decide +kernel
theorem dL_law_37 : decode cL_law 37 = .ok (.aload_n 0, 1) := by decide +kernel
theorem dL_law_38 : decode cL_law 38 = .ok (.iload_n 2, 1) := by decide +kernel
theorem dL_law_39 : decode cL_law 39 = .ok (.invokestatic 307, 3) := by decide +kernel
theorem dL_law_42 : decode cL_law 42 = .ok (.iconst 5, 1) := by decide +kernel
theorem dL_law_43 : decode cL_law 43 = .ok (.ishr, 1) := by decide +kernel
theorem dL_law_44 : decode cL_law 44 = .ok (.bipush 63, 2) := by decide +kernel
theorem dL_law_46 : decode cL_law 46 = .ok (.iand, 1) := by decide +kernel
theorem dL_law_47 : decode cL_law 47 = .ok (.iconst 2, 1) := by decide +kernel
theorem dL_law_48 : decode cL_law 48 = .ok (.irem, 1) := by decide +kernel
theorem dL_law_49 : decode cL_law 49 = .ok (.iconst 2, 1) := by decide +kernel
theorem dL_law_50 : decode cL_law 50 = .ok (.aload_n 0, 1) := by decide +kernel
theorem dL_law_51 : decode cL_law 51 = .ok (.iload_n 2, 1) := by decide +kernel
theorem dL_law_52 : decode cL_law 52 = .ok (.invokestatic 307, 3) := by decide +kernel
theorem dL_law_55 : decode cL_law 55 = .ok (.bipush 6, 2) := by decide +kernel
theorem dL_law_57 : decode cL_law 57 = .ok (.ishr, 1) := by decide +kernel
theorem dL_law_58 : decode cL_law 58 = .ok (.bipush 7, 2) := by decide +kernel
theorem dL_law_60 : decode cL_law 60 = .ok (.iand, 1) := by decide +kernel
theorem dL_law_61 : decode cL_law 61 = .ok (.iadd, 1) := by decide +kernel
theorem dL_law_62 : decode cL_law 62 = .ok (.iload_n 2, 1) := by decide +kernel
theorem dL_law_63 : decode cL_law 63 = .ok (.iconst 1, 1) := by decide +kernel
theorem dL_law_64 : decode cL_law 64 = .ok (.iand, 1) := by decide +kernel
theorem dL_law_65 : decode cL_law 65 = .ok (.iconst 1, 1) := by decide +kernel
theorem dL_law_66 : decode cL_law 66 = .ok (.aload_n 0, 1) := by decide +kernel
theorem dL_law_67 : decode cL_law 67 = .ok (.iload_n 2, 1) := by decide +kernel
theorem dL_law_68 : decode cL_law 68 = .ok (.invokestatic 307, 3) := by decide +kernel
theorem dL_law_71 : decode cL_law 71 = .ok (.iconst 3, 1) := by decide +kernel
theorem dL_law_72 : decode cL_law 72 = .ok (.ishr, 1) := by decide +kernel
theorem dL_law_73 : decode cL_law 73 = .ok (.bipush 7, 2) := by decide +kernel
theorem dL_law_75 : decode cL_law 75 = .ok (.iand, 1) := by decide +kernel
theorem dL_law_76 : decode cL_law 76 = .ok (.iadd, 1) := by decide +kernel
theorem dL_law_77 : decode cL_law 77 = .ok (.invokestatic 132, 3) := by decide +kernel
theorem dL_law_80 : decode cL_law 80 = .ok (.pop, 1) := by decide +kernel
theorem dL_law_81 : decode cL_law 81 = .ok (.iinc 2 1, 3) := by decide +kernel
theorem dL_law_84 : decode cL_law 84 = .ok (.goto (-74), 3) := by decide +kernel
theorem dL_law_87 : decode cL_law 87 = .ok (.aload_n 0, 1) := by decide +kernel
theorem dL_law_88 : decode cL_law 88 = .ok (.arraylength, 1) := by decide +kernel
theorem dL_law_89 : decode cL_law 89 = .ok (.bipush 30, 2) := by decide +kernel
theorem dL_law_91 : decode cL_law 91 = .ok (.if_icmp .ge 8, 3) := by decide +kernel
theorem dL_law_94 : decode cL_law 94 = .ok (.aload_n 0, 1) := by decide +kernel
theorem dL_law_95 : decode cL_law 95 = .ok (.arraylength, 1) := by decide +kernel
theorem dL_law_96 : decode cL_law 96 = .ok (.goto 5, 3) := by decide +kernel
theorem dL_law_99 : decode cL_law 99 = .ok (.bipush 30, 2) := by decide +kernel
theorem dL_law_101 : decode cL_law 101 = .ok (.istore_n 2, 1) := by decide +kernel
theorem dL_law_102 : decode cL_law 102 = .ok (.iconst 0, 1) := by decide +kernel
theorem dL_law_103 : decode cL_law 103 = .ok (.istore_n 3, 1) := by decide +kernel
theorem dL_law_104 : decode cL_law 104 = .ok (.iload_n 3, 1) := by decide +kernel
theorem dL_law_105 : decode cL_law 105 = .ok (.iload_n 2, 1) := by decide +kernel
theorem dL_law_106 : decode cL_law 106 = .ok (.if_icmp .ge 41, 3) := by decide +kernel
theorem dL_law_109 : decode cL_law 109 = .ok (.aload_n 1, 1) := by decide +kernel
theorem dL_law_110 : decode cL_law 110 = .ok (.invokestatic 278, 3) := by decide +kernel
theorem dL_law_113 : decode cL_law 113 = .ok (.lstore 4, 2) := by decide +kernel
theorem dL_law_115 : decode cL_law 115 = .ok (.aload_n 1, 1) := by decide +kernel
theorem dL_law_116 : decode cL_law 116 = .ok (.aload_n 0, 1) := by decide +kernel
theorem dL_law_117 : decode cL_law 117 = .ok (.iload_n 3, 1) := by decide +kernel
theorem dL_law_118 : decode cL_law 118 = .ok (.invokestatic 307, 3) := by decide +kernel
theorem dL_law_121 : decode cL_law 121 = .ok (.invokestatic 311, 3) := by decide +kernel
theorem dL_law_124 : decode cL_law 124 = .ok (.ldc 10, 2) := by decide +kernel
theorem dL_law_126 : decode cL_law 126 = .ok (.if_icmp .ne 15, 3) := by decide +kernel
theorem dL_law_129 : decode cL_law 129 = .ok (.aload_n 1, 1) := by decide +kernel
theorem dL_law_130 : decode cL_law 130 = .ok (.invokestatic 278, 3) := by decide +kernel
theorem dL_law_133 : decode cL_law 133 = .ok (.lload 4, 2) := by decide +kernel
theorem dL_law_135 : decode cL_law 135 = .ok (.lcmp, 1) := by decide +kernel
theorem dL_law_136 : decode cL_law 136 = .ok (.ifCond .eq 5, 3) := by decide +kernel
theorem dL_law_139 : decode cL_law 139 = .ok (.iconst 0, 1) := by decide +kernel
theorem dL_law_140 : decode cL_law 140 = .ok (.ireturn, 1) := by decide +kernel
theorem dL_law_141 : decode cL_law 141 = .ok (.iinc 3 1, 3) := by decide +kernel
theorem dL_law_144 : decode cL_law 144 = .ok (.goto (-40), 3) := by decide +kernel
theorem dL_law_147 : decode cL_law 147 = .ok (.aload_n 1, 1) := by decide +kernel
theorem dL_law_148 : decode cL_law 148 = .ok (.invokestatic 314, 3) := by decide +kernel
theorem dL_law_151 : decode cL_law 151 = .ok (.istore_n 3, 1) := by decide +kernel
theorem dL_law_152 : decode cL_law 152 = .ok (.aload_n 1, 1) := by decide +kernel
theorem dL_law_153 : decode cL_law 153 = .ok (.invokestatic 158, 3) := by decide +kernel
theorem dL_law_156 : decode cL_law 156 = .ok (.pop, 1) := by decide +kernel
theorem dL_law_157 : decode cL_law 157 = .ok (.aload_n 1, 1) := by decide +kernel
theorem dL_law_158 : decode cL_law 158 = .ok (.invokestatic 278, 3) := by decide +kernel
theorem dL_law_161 : decode cL_law 161 = .ok (.lstore 4, 2) := by decide +kernel
theorem dL_law_163 : decode cL_law 163 = .ok (.aload_n 1, 1) := by decide +kernel
theorem dL_law_164 : decode cL_law 164 = .ok (.invokevirtual 160, 3) := by decide +kernel
theorem dL_law_167 : decode cL_law 167 = .ok (.istore 6, 2) := by decide +kernel
theorem dL_law_169 : decode cL_law 169 = .ok (.iconst 0, 1) := by decide +kernel
theorem dL_law_170 : decode cL_law 170 = .ok (.istore 7, 2) := by decide +kernel
theorem dL_law_172 : decode cL_law 172 = .ok (.iload_n 3, 1) := by decide +kernel
theorem dL_law_173 : decode cL_law 173 = .ok (.ifCond .eq 82, 3) := by decide +kernel
theorem dL_law_176 : decode cL_law 176 = .ok (.iload 7, 2) := by decide +kernel
theorem dL_law_178 : decode cL_law 178 = .ok (.getstatic 150, 3) := by decide +kernel
theorem dL_law_181 : decode cL_law 181 = .ok (.arraylength, 1) := by decide +kernel
theorem dL_law_182 : decode cL_law 182 = .ok (.if_icmp .ge 73, 3) := by decide +kernel
theorem dL_law_185 : decode cL_law 185 = .ok (.aload_n 1, 1) := by decide +kernel
theorem dL_law_186 : decode cL_law 186 = .ok (.getstatic 150, 3) := by decide +kernel
theorem dL_law_189 : decode cL_law 189 = .ok (.iload 7, 2) := by decide +kernel
theorem dL_law_191 : decode cL_law 191 = .ok (.aaload, 1) := by decide +kernel
theorem dL_law_192 : decode cL_law 192 = .ok (.invokestatic 154, 3) := by decide +kernel
theorem dL_law_195 : decode cL_law 195 = .ok (.invokestatic 158, 3) := by decide +kernel
theorem dL_law_198 : decode cL_law 198 = .ok (.istore 8, 2) := by decide +kernel
theorem dL_law_200 : decode cL_law 200 = .ok (.iload 8, 2) := by decide +kernel
theorem dL_law_202 : decode cL_law 202 = .ok (.ldc 10, 2) := by decide +kernel
theorem dL_law_204 : decode cL_law 204 = .ok (.if_icmp .ne 22, 3) := by decide +kernel
theorem dL_law_207 : decode cL_law 207 = .ok (.aload_n 1, 1) := by decide +kernel
theorem dL_law_208 : decode cL_law 208 = .ok (.invokestatic 294, 3) := by decide +kernel
theorem dL_law_211 : decode cL_law 211 = .ok (.bipush 8, 2) := by decide +kernel
theorem dL_law_213 : decode cL_law 213 = .ok (.if_icmp .ne 34, 3) := by decide +kernel
theorem dL_law_216 : decode cL_law 216 = .ok (.aload_n 1, 1) := by decide +kernel
theorem dL_law_217 : decode cL_law 217 = .ok (.invokestatic 317, 3) := by decide +kernel
theorem dL_law_220 : decode cL_law 220 = .ok (.ifCond .le 27, 3) := by decide +kernel
theorem dL_law_223 : decode cL_law 223 = .ok (.goto 10, 3) := by decide +kernel
theorem dL_law_226 : decode cL_law 226 = .ok (.aload_n 1, 1) := by decide +kernel
theorem dL_law_227 : decode cL_law 227 = .ok (.invokestatic 166, 3) := by decide +kernel
theorem dL_law_230 : decode cL_law 230 = .ok (.ifCond .lt 17, 3) := by decide +kernel
theorem dL_law_233 : decode cL_law 233 = .ok (.aload_n 1, 1) := by decide +kernel
theorem dL_law_234 : decode cL_law 234 = .ok (.invokestatic 278, 3) := by decide +kernel
theorem dL_law_237 : decode cL_law 237 = .ok (.lload 4, 2) := by decide +kernel
theorem dL_law_239 : decode cL_law 239 = .ok (.lcmp, 1) := by decide +kernel
theorem dL_law_240 : decode cL_law 240 = .ok (.ifCond .ne 7, 3) := by decide +kernel
theorem dL_law_243 : decode cL_law 243 = .ok (.iconst 1, 1) := by decide +kernel
theorem dL_law_244 : decode cL_law 244 = .ok (.goto 4, 3) := by decide +kernel
theorem dL_law_247 : decode cL_law 247 = .ok (.iconst 0, 1) := by decide +kernel
theorem dL_law_248 : decode cL_law 248 = .ok (.istore_n 3, 1) := by decide +kernel
theorem dL_law_249 : decode cL_law 249 = .ok (.iinc 7 1, 3) := by decide +kernel
theorem dL_law_252 : decode cL_law 252 = .ok (.goto (-80), 3) := by decide +kernel
theorem dL_law_255 : decode cL_law 255 = .ok (.aload_n 1, 1) := by decide +kernel
theorem dL_law_256 : decode cL_law 256 = .ok (.iconst 2, 1) := by decide +kernel
theorem dL_law_257 : decode cL_law 257 = .ok (.bipush 30, 2) := by decide +kernel
theorem dL_law_259 : decode cL_law 259 = .ok (.invokestatic 126, 3) := by decide +kernel
theorem dL_law_262 : decode cL_law 262 = .ok (.pop, 1) := by decide +kernel
theorem dL_law_263 : decode cL_law 263 = .ok (.aload_n 1, 1) := by decide +kernel
theorem dL_law_264 : decode cL_law 264 = .ok (.iconst 3, 1) := by decide +kernel
theorem dL_law_265 : decode cL_law 265 = .ok (.bipush 9, 2) := by decide +kernel
theorem dL_law_267 : decode cL_law 267 = .ok (.iconst 2, 1) := by decide +kernel
theorem dL_law_268 : decode cL_law 268 = .ok (.iconst 5, 1) := by decide +kernel
theorem dL_law_269 : decode cL_law 269 = .ok (.invokestatic 132, 3) := by decide +kernel
theorem dL_law_272 : decode cL_law 272 = .ok (.pop, 1) := by decide +kernel
theorem dL_law_273 : decode cL_law 273 = .ok (.aload_n 1, 1) := by decide +kernel
theorem dL_law_274 : decode cL_law 274 = .ok (.iconst 2, 1) := by decide +kernel
theorem dL_law_275 : decode cL_law 275 = .ok (.invokestatic 148, 3) := by decide +kernel
theorem dL_law_278 : decode cL_law 278 = .ok (.pop, 1) := by decide +kernel
theorem dL_law_279 : decode cL_law 279 = .ok (.iload_n 3, 1) := by decide +kernel
theorem dL_law_280 : decode cL_law 280 = .ok (.ifCond .eq 14, 3) := by decide +kernel
theorem dL_law_283 : decode cL_law 283 = .ok (.aload_n 1, 1) := by decide +kernel
theorem dL_law_284 : decode cL_law 284 = .ok (.invokestatic 314, 3) := by decide +kernel
theorem dL_law_287 : decode cL_law 287 = .ok (.ifCond .eq 7, 3) := by decide +kernel
theorem dL_law_290 : decode cL_law 290 = .ok (.iconst 1, 1) := by decide +kernel
theorem dL_law_291 : decode cL_law 291 = .ok (.goto 4, 3) := by decide +kernel
theorem dL_law_294 : decode cL_law 294 = .ok (.iconst 0, 1) := by decide +kernel
theorem dL_law_295 : decode cL_law 295 = .ok (.istore_n 3, 1) := by decide +kernel
theorem dL_law_296 : decode cL_law 296 = .ok (.iload_n 3, 1) := by decide +kernel
theorem dL_law_297 : decode cL_law 297 = .ok (.ifCond .eq 42, 3) := by decide +kernel
theorem dL_law_300 : decode cL_law 300 = .ok (.aload_n 1, 1) := by decide +kernel
theorem dL_law_301 : decode cL_law 301 = .ok (.invokestatic 163, 3) := by decide +kernel
theorem dL_law_304 : decode cL_law 304 = .ok (.iload 6, 2) := by decide +kernel
theorem dL_law_306 : decode cL_law 306 = .ok (.if_icmp .ne 33, 3) := by decide +kernel
theorem dL_law_309 : decode cL_law 309 = .ok (.aload_n 1, 1) := by decide +kernel
theorem dL_law_310 : decode cL_law 310 = .ok (.invokestatic 278, 3) := by decide +kernel
theorem dL_law_313 : decode cL_law 313 = .ok (.lload 4, 2) := by decide +kernel
theorem dL_law_315 : decode cL_law 315 = .ok (.lcmp, 1) := by decide +kernel
theorem dL_law_316 : decode cL_law 316 = .ok (.ifCond .ne 23, 3) := by decide +kernel
theorem dL_law_319 : decode cL_law 319 = .ok (.aload_n 1, 1) := by decide +kernel
theorem dL_law_320 : decode cL_law 320 = .ok (.invokestatic 166, 3) := by decide +kernel
theorem dL_law_323 : decode cL_law 323 = .ok (.ldc 10, 2) := by decide +kernel
theorem dL_law_325 : decode cL_law 325 = .ok (.if_icmp .ne 14, 3) := by decide +kernel
theorem dL_law_328 : decode cL_law 328 = .ok (.aload_n 1, 1) := by decide +kernel
theorem dL_law_329 : decode cL_law 329 = .ok (.invokevirtual 319, 3) := by decide +kernel
theorem dL_law_332 : decode cL_law 332 = .ok (.ifCond .ne 7, 3) := by decide +kernel
theorem dL_law_335 : decode cL_law 335 = .ok (.iconst 1, 1) := by decide +kernel
theorem dL_law_336 : decode cL_law 336 = .ok (.goto 4, 3) := by decide +kernel
theorem dL_law_339 : decode cL_law 339 = .ok (.iconst 0, 1) := by decide +kernel
theorem dL_law_340 : decode cL_law 340 = .ok (.ireturn, 1) := by decide +kernel
