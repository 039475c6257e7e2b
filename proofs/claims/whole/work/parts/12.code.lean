theorem i_J_maxI_0 : decode m_J_maxI.2.1 0 = .ok (.iload_n 0, 1) := by decide +kernel
theorem i_J_maxI_1 : decode m_J_maxI.2.1 1 = .ok (.iload_n 1, 1) := by decide +kernel
theorem i_J_maxI_2 : decode m_J_maxI.2.1 2 = .ok (.if_icmp .lt 7, 3) := by decide +kernel
theorem i_J_maxI_5 : decode m_J_maxI.2.1 5 = .ok (.iload_n 0, 1) := by decide +kernel
theorem i_J_maxI_6 : decode m_J_maxI.2.1 6 = .ok (.goto 4, 3) := by decide +kernel
theorem i_J_maxI_9 : decode m_J_maxI.2.1 9 = .ok (.iload_n 1, 1) := by decide +kernel
theorem i_J_maxI_10 : decode m_J_maxI.2.1 10 = .ok (.ireturn, 1) := by decide +kernel
theorem i_J_minI_0 : decode m_J_minI.2.1 0 = .ok (.iload_n 0, 1) := by decide +kernel
theorem i_J_minI_1 : decode m_J_minI.2.1 1 = .ok (.iload_n 1, 1) := by decide +kernel
theorem i_J_minI_2 : decode m_J_minI.2.1 2 = .ok (.if_icmp .gt 7, 3) := by decide +kernel
theorem i_J_minI_5 : decode m_J_minI.2.1 5 = .ok (.iload_n 0, 1) := by decide +kernel
theorem i_J_minI_6 : decode m_J_minI.2.1 6 = .ok (.goto 4, 3) := by decide +kernel
theorem i_J_minI_9 : decode m_J_minI.2.1 9 = .ok (.iload_n 1, 1) := by decide +kernel
theorem i_J_minI_10 : decode m_J_minI.2.1 10 = .ok (.ireturn, 1) := by decide +kernel
theorem i_J_minJ_0 : decode m_J_minJ.2.1 0 = .ok (.lload_n 0, 1) := by decide +kernel
theorem i_J_minJ_1 : decode m_J_minJ.2.1 1 = .ok (.lload_n 2, 1) := by decide +kernel
theorem i_J_minJ_2 : decode m_J_minJ.2.1 2 = .ok (.lcmp, 1) := by decide +kernel
theorem i_J_minJ_3 : decode m_J_minJ.2.1 3 = .ok (.ifCond .gt 7, 3) := by decide +kernel
theorem i_J_minJ_6 : decode m_J_minJ.2.1 6 = .ok (.lload_n 0, 1) := by decide +kernel
theorem i_J_minJ_7 : decode m_J_minJ.2.1 7 = .ok (.goto 4, 3) := by decide +kernel
theorem i_J_minJ_10 : decode m_J_minJ.2.1 10 = .ok (.lload_n 2, 1) := by decide +kernel
theorem i_J_minJ_11 : decode m_J_minJ.2.1 11 = .ok (.lreturn, 1) := by decide +kernel
theorem i_D_init_0 : decode m_D_init.2.1 0 = .ok (.aload_n 0, 1) := by decide +kernel
theorem i_D_init_1 : qObj m_D_init 1 := ⟨3, by decide +kernel, wd_144⟩
theorem i_D_init_4 : decode m_D_init.2.1 4 = .ok (.aload_n 0, 1) := by decide +kernel
theorem i_D_init_5 : decode m_D_init.2.1 5 = .ok (.bipush 40, 2) := by decide +kernel
theorem i_D_init_7 : decode m_D_init.2.1 7 = .ok (.newarray .int, 2) := by decide +kernel
theorem i_D_init_9 : qPut m_D_init 9 0 0 := ⟨9, _, by decide +kernel, rfl, by decide, rfl, Or.inr ⟨rfl, rfl⟩, Or.inl wd_145⟩
theorem i_D_init_12 : decode m_D_init.2.1 12 = .ok (.aload_n 0, 1) := by decide +kernel
theorem i_D_init_13 : decode m_D_init.2.1 13 = .ok (.bipush 40, 2) := by decide +kernel
theorem i_D_init_15 : decode m_D_init.2.1 15 = .ok (.newarray .boolean, 2) := by decide +kernel
theorem i_D_init_17 : qPut m_D_init 17 0 1 := ⟨15, _, by decide +kernel, rfl, by decide, rfl, Or.inr ⟨rfl, rfl⟩, Or.inl wd_146⟩
theorem i_D_init_20 : decode m_D_init.2.1 20 = .ok (.aload_n 0, 1) := by decide +kernel
theorem i_D_init_21 : decode m_D_init.2.1 21 = .ok (.iconst (-1), 1) := by decide +kernel
theorem i_D_init_22 : qPut m_D_init 22 0 5 := ⟨19, _, by decide +kernel, rfl, by decide, rfl, Or.inl rfl, Or.inl wd_153⟩
theorem i_D_init_25 : decode m_D_init.2.1 25 = .ok (.return_, 1) := by decide +kernel
theorem i_D_latestOnDisk_0 : decode m_D_latestOnDisk.2.1 0 = .ok (.aload_n 0, 1) := by decide +kernel
theorem i_D_latestOnDisk_1 : qGet m_D_latestOnDisk 1 0 4 := ⟨23, _, by decide +kernel, rfl, by decide, rfl, Or.inl wd_151⟩
theorem i_D_latestOnDisk_4 : decode m_D_latestOnDisk.2.1 4 = .ok (.istore_n 1, 1) := by decide +kernel
theorem i_D_latestOnDisk_5 : decode m_D_latestOnDisk.2.1 5 = .ok (.iconst 0, 1) := by decide +kernel
theorem i_D_latestOnDisk_6 : decode m_D_latestOnDisk.2.1 6 = .ok (.istore_n 2, 1) := by decide +kernel
theorem i_D_latestOnDisk_7 : decode m_D_latestOnDisk.2.1 7 = .ok (.iload_n 2, 1) := by decide +kernel
theorem i_D_latestOnDisk_8 : decode m_D_latestOnDisk.2.1 8 = .ok (.aload_n 0, 1) := by decide +kernel
theorem i_D_latestOnDisk_9 : qGet m_D_latestOnDisk 9 0 2 := ⟨26, _, by decide +kernel, rfl, by decide, rfl, Or.inl wd_147⟩
theorem i_D_latestOnDisk_12 : decode m_D_latestOnDisk.2.1 12 = .ok (.if_icmp .ge 18, 3) := by decide +kernel
theorem i_D_latestOnDisk_15 : decode m_D_latestOnDisk.2.1 15 = .ok (.iload_n 1, 1) := by decide +kernel
theorem i_D_latestOnDisk_16 : decode m_D_latestOnDisk.2.1 16 = .ok (.aload_n 0, 1) := by decide +kernel
theorem i_D_latestOnDisk_17 : qGet m_D_latestOnDisk 17 0 0 := ⟨9, _, by decide +kernel, rfl, by decide, rfl, Or.inl wd_145⟩
theorem i_D_latestOnDisk_20 : decode m_D_latestOnDisk.2.1 20 = .ok (.iload_n 2, 1) := by decide +kernel
theorem i_D_latestOnDisk_21 : decode m_D_latestOnDisk.2.1 21 = .ok (.iaload, 1) := by decide +kernel
theorem i_D_latestOnDisk_22 : decode m_D_latestOnDisk.2.1 22 = .ok (.iadd, 1) := by decide +kernel
theorem i_D_latestOnDisk_23 : decode m_D_latestOnDisk.2.1 23 = .ok (.istore_n 1, 1) := by decide +kernel
theorem i_D_latestOnDisk_24 : decode m_D_latestOnDisk.2.1 24 = .ok (.iinc 2 1, 3) := by decide +kernel
theorem i_D_latestOnDisk_27 : decode m_D_latestOnDisk.2.1 27 = .ok (.goto (-20), 3) := by decide +kernel
theorem i_D_latestOnDisk_30 : decode m_D_latestOnDisk.2.1 30 = .ok (.iload_n 1, 1) := by decide +kernel
theorem i_D_latestOnDisk_31 : decode m_D_latestOnDisk.2.1 31 = .ok (.ireturn, 1) := by decide +kernel
theorem i_D_blocksFor_0 : decode m_D_blocksFor.2.1 0 = .ok (.iload_n 0, 1) := by decide +kernel
theorem i_D_blocksFor_1 : decode m_D_blocksFor.2.1 1 = .ok (.iconst 4, 1) := by decide +kernel
theorem i_D_blocksFor_2 : decode m_D_blocksFor.2.1 2 = .ok (.iadd, 1) := by decide +kernel
theorem i_D_blocksFor_3 : decode m_D_blocksFor.2.1 3 = .ok (.iconst 1, 1) := by decide +kernel
theorem i_D_blocksFor_4 : decode m_D_blocksFor.2.1 4 = .ok (.isub, 1) := by decide +kernel
theorem i_D_blocksFor_5 : decode m_D_blocksFor.2.1 5 = .ok (.iconst 4, 1) := by decide +kernel
theorem i_D_blocksFor_6 : decode m_D_blocksFor.2.1 6 = .ok (.idiv, 1) := by decide +kernel
theorem i_D_blocksFor_7 : decode m_D_blocksFor.2.1 7 = .ok (.ireturn, 1) := by decide +kernel
theorem i_D_hasRoomFor_0 : decode m_D_hasRoomFor.2.1 0 = .ok (.iload_n 1, 1) := by decide +kernel
theorem i_D_hasRoomFor_1 : qInvS m_D_hasRoomFor 1 m_D_blocksFor 1 := ⟨29, by decide +kernel, wd_687, wd_688, by decide +kernel⟩
theorem i_D_hasRoomFor_4 : decode m_D_hasRoomFor.2.1 4 = .ok (.bipush 40, 2) := by decide +kernel
theorem i_D_hasRoomFor_6 : decode m_D_hasRoomFor.2.1 6 = .ok (.aload_n 0, 1) := by decide +kernel
theorem i_D_hasRoomFor_7 : qGet m_D_hasRoomFor 7 0 2 := ⟨26, _, by decide +kernel, rfl, by decide, rfl, Or.inl wd_147⟩
theorem i_D_hasRoomFor_10 : decode m_D_hasRoomFor.2.1 10 = .ok (.isub, 1) := by decide +kernel
theorem i_D_hasRoomFor_11 : decode m_D_hasRoomFor.2.1 11 = .ok (.if_icmp .gt 7, 3) := by decide +kernel
theorem i_D_hasRoomFor_14 : decode m_D_hasRoomFor.2.1 14 = .ok (.iconst 1, 1) := by decide +kernel
theorem i_D_hasRoomFor_15 : decode m_D_hasRoomFor.2.1 15 = .ok (.goto 4, 3) := by decide +kernel
theorem i_D_hasRoomFor_18 : decode m_D_hasRoomFor.2.1 18 = .ok (.iconst 0, 1) := by decide +kernel
theorem i_D_hasRoomFor_19 : decode m_D_hasRoomFor.2.1 19 = .ok (.ireturn, 1) := by decide +kernel
theorem i_D_writeBlock_0 : decode m_D_writeBlock.2.1 0 = .ok (.aload_n 0, 1) := by decide +kernel
theorem i_D_writeBlock_1 : qGet m_D_writeBlock 1 0 5 := ⟨19, _, by decide +kernel, rfl, by decide, rfl, Or.inl wd_153⟩
theorem i_D_writeBlock_4 : decode m_D_writeBlock.2.1 4 = .ok (.ifCond .ne 10, 3) := by decide +kernel
theorem i_D_writeBlock_7 : decode m_D_writeBlock.2.1 7 = .ok (.aload_n 0, 1) := by decide +kernel
theorem i_D_writeBlock_8 : decode m_D_writeBlock.2.1 8 = .ok (.iconst 1, 1) := by decide +kernel
theorem i_D_writeBlock_9 : qPut m_D_writeBlock 9 0 6 := ⟨33, _, by decide +kernel, rfl, by decide, rfl, Or.inl rfl, Or.inl wd_155⟩
theorem i_D_writeBlock_12 : decode m_D_writeBlock.2.1 12 = .ok (.iconst 0, 1) := by decide +kernel
theorem i_D_writeBlock_13 : decode m_D_writeBlock.2.1 13 = .ok (.ireturn, 1) := by decide +kernel
theorem i_D_writeBlock_14 : decode m_D_writeBlock.2.1 14 = .ok (.aload_n 0, 1) := by decide +kernel
theorem i_D_writeBlock_15 : decode m_D_writeBlock.2.1 15 = .ok (.dup, 1) := by decide +kernel
theorem i_D_writeBlock_16 : qGet m_D_writeBlock 16 0 5 := ⟨19, _, by decide +kernel, rfl, by decide, rfl, Or.inl wd_153⟩
theorem i_D_writeBlock_19 : decode m_D_writeBlock.2.1 19 = .ok (.aload_n 0, 1) := by decide +kernel
theorem i_D_writeBlock_20 : qGet m_D_writeBlock 20 0 5 := ⟨19, _, by decide +kernel, rfl, by decide, rfl, Or.inl wd_153⟩
theorem i_D_writeBlock_23 : decode m_D_writeBlock.2.1 23 = .ok (.ifCond .le 7, 3) := by decide +kernel
theorem i_D_writeBlock_26 : decode m_D_writeBlock.2.1 26 = .ok (.iconst 1, 1) := by decide +kernel
theorem i_D_writeBlock_27 : decode m_D_writeBlock.2.1 27 = .ok (.goto 4, 3) := by decide +kernel
theorem i_D_writeBlock_30 : decode m_D_writeBlock.2.1 30 = .ok (.iconst 0, 1) := by decide +kernel
theorem i_D_writeBlock_31 : decode m_D_writeBlock.2.1 31 = .ok (.isub, 1) := by decide +kernel
theorem i_D_writeBlock_32 : qPut m_D_writeBlock 32 0 5 := ⟨19, _, by decide +kernel, rfl, by decide, rfl, Or.inl rfl, Or.inl wd_153⟩
theorem i_D_writeBlock_35 : decode m_D_writeBlock.2.1 35 = .ok (.aload_n 0, 1) := by decide +kernel
theorem i_D_writeBlock_36 : decode m_D_writeBlock.2.1 36 = .ok (.dup, 1) := by decide +kernel
theorem i_D_writeBlock_37 : qGet m_D_writeBlock 37 0 3 := ⟨37, _, by decide +kernel, rfl, by decide, rfl, Or.inl wd_149⟩
theorem i_D_writeBlock_40 : decode m_D_writeBlock.2.1 40 = .ok (.iconst 1, 1) := by decide +kernel
theorem i_D_writeBlock_41 : decode m_D_writeBlock.2.1 41 = .ok (.iadd, 1) := by decide +kernel
theorem i_D_writeBlock_42 : qPut m_D_writeBlock 42 0 3 := ⟨37, _, by decide +kernel, rfl, by decide, rfl, Or.inl rfl, Or.inl wd_149⟩
theorem i_D_writeBlock_45 : decode m_D_writeBlock.2.1 45 = .ok (.iconst 1, 1) := by decide +kernel
theorem i_D_writeBlock_46 : decode m_D_writeBlock.2.1 46 = .ok (.ireturn, 1) := by decide +kernel
theorem i_D_writeRecords_0 : decode m_D_writeRecords.2.1 0 = .ok (.iload_n 1, 1) := by decide +kernel
theorem i_D_writeRecords_1 : qInvS m_D_writeRecords 1 m_D_blocksFor 1 := ⟨29, by decide +kernel, wd_687, wd_688, by decide +kernel⟩
theorem i_D_writeRecords_4 : decode m_D_writeRecords.2.1 4 = .ok (.istore_n 2, 1) := by decide +kernel
theorem i_D_writeRecords_5 : decode m_D_writeRecords.2.1 5 = .ok (.iconst 0, 1) := by decide +kernel
theorem i_D_writeRecords_6 : decode m_D_writeRecords.2.1 6 = .ok (.istore_n 3, 1) := by decide +kernel
theorem i_D_writeRecords_7 : decode m_D_writeRecords.2.1 7 = .ok (.iload_n 3, 1) := by decide +kernel
theorem i_D_writeRecords_8 : decode m_D_writeRecords.2.1 8 = .ok (.iload_n 2, 1) := by decide +kernel
theorem i_D_writeRecords_9 : decode m_D_writeRecords.2.1 9 = .ok (.if_icmp .ge 65, 3) := by decide +kernel
theorem i_D_writeRecords_12 : decode m_D_writeRecords.2.1 12 = .ok (.aload_n 0, 1) := by decide +kernel
theorem i_D_writeRecords_13 : qGet m_D_writeRecords 13 0 2 := ⟨26, _, by decide +kernel, rfl, by decide, rfl, Or.inl wd_147⟩
theorem i_D_writeRecords_16 : decode m_D_writeRecords.2.1 16 = .ok (.bipush 40, 2) := by decide +kernel
theorem i_D_writeRecords_18 : decode m_D_writeRecords.2.1 18 = .ok (.if_icmp .ge 56, 3) := by decide +kernel
theorem i_D_writeRecords_21 : decode m_D_writeRecords.2.1 21 = .ok (.aload_n 0, 1) := by decide +kernel
theorem i_D_writeRecords_22 : qInv m_D_writeRecords 22 m_D_writeBlock 0 0 := ⟨40, _, by decide +kernel, rfl, rfl, wd_695, wd_697, ws_18, by decide +kernel⟩
theorem i_D_writeRecords_25 : decode m_D_writeRecords.2.1 25 = .ok (.ifCond .ne 5, 3) := by decide +kernel
theorem i_D_writeRecords_28 : decode m_D_writeRecords.2.1 28 = .ok (.iload_n 3, 1) := by decide +kernel
theorem i_D_writeRecords_29 : decode m_D_writeRecords.2.1 29 = .ok (.ireturn, 1) := by decide +kernel
theorem i_D_writeRecords_30 : decode m_D_writeRecords.2.1 30 = .ok (.aload_n 0, 1) := by decide +kernel
theorem i_D_writeRecords_31 : qGet m_D_writeRecords 31 0 0 := ⟨9, _, by decide +kernel, rfl, by decide, rfl, Or.inl wd_145⟩
theorem i_D_writeRecords_34 : decode m_D_writeRecords.2.1 34 = .ok (.aload_n 0, 1) := by decide +kernel
theorem i_D_writeRecords_35 : qGet m_D_writeRecords 35 0 2 := ⟨26, _, by decide +kernel, rfl, by decide, rfl, Or.inl wd_147⟩
theorem i_D_writeRecords_38 : decode m_D_writeRecords.2.1 38 = .ok (.iconst 4, 1) := by decide +kernel
theorem i_D_writeRecords_39 : decode m_D_writeRecords.2.1 39 = .ok (.iload_n 1, 1) := by decide +kernel
theorem i_D_writeRecords_40 : decode m_D_writeRecords.2.1 40 = .ok (.iload_n 3, 1) := by decide +kernel
theorem i_D_writeRecords_41 : decode m_D_writeRecords.2.1 41 = .ok (.iconst 4, 1) := by decide +kernel
theorem i_D_writeRecords_42 : decode m_D_writeRecords.2.1 42 = .ok (.imul, 1) := by decide +kernel
theorem i_D_writeRecords_43 : decode m_D_writeRecords.2.1 43 = .ok (.isub, 1) := by decide +kernel
theorem i_D_writeRecords_44 : qInvS m_D_writeRecords 44 m_J_minI 2 := ⟨44, by decide +kernel, wd_699, wd_392, by decide +kernel⟩
theorem i_D_writeRecords_47 : decode m_D_writeRecords.2.1 47 = .ok (.iastore, 1) := by decide +kernel
theorem i_D_writeRecords_48 : decode m_D_writeRecords.2.1 48 = .ok (.aload_n 0, 1) := by decide +kernel
theorem i_D_writeRecords_49 : qGet m_D_writeRecords 49 0 1 := ⟨15, _, by decide +kernel, rfl, by decide, rfl, Or.inl wd_146⟩
theorem i_D_writeRecords_52 : decode m_D_writeRecords.2.1 52 = .ok (.aload_n 0, 1) := by decide +kernel
theorem i_D_writeRecords_53 : qGet m_D_writeRecords 53 0 2 := ⟨26, _, by decide +kernel, rfl, by decide, rfl, Or.inl wd_147⟩
theorem i_D_writeRecords_56 : decode m_D_writeRecords.2.1 56 = .ok (.iconst 0, 1) := by decide +kernel
theorem i_D_writeRecords_57 : decode m_D_writeRecords.2.1 57 = .ok (.bastore, 1) := by decide +kernel
theorem i_D_writeRecords_58 : decode m_D_writeRecords.2.1 58 = .ok (.aload_n 0, 1) := by decide +kernel
theorem i_D_writeRecords_59 : decode m_D_writeRecords.2.1 59 = .ok (.dup, 1) := by decide +kernel
theorem i_D_writeRecords_60 : qGet m_D_writeRecords 60 0 2 := ⟨26, _, by decide +kernel, rfl, by decide, rfl, Or.inl wd_147⟩
theorem i_D_writeRecords_63 : decode m_D_writeRecords.2.1 63 = .ok (.iconst 1, 1) := by decide +kernel
theorem i_D_writeRecords_64 : decode m_D_writeRecords.2.1 64 = .ok (.iadd, 1) := by decide +kernel
theorem i_D_writeRecords_65 : qPut m_D_writeRecords 65 0 2 := ⟨26, _, by decide +kernel, rfl, by decide, rfl, Or.inl rfl, Or.inl wd_147⟩
theorem i_D_writeRecords_68 : decode m_D_writeRecords.2.1 68 = .ok (.iinc 3 1, 3) := by decide +kernel
theorem i_D_writeRecords_71 : decode m_D_writeRecords.2.1 71 = .ok (.goto (-64), 3) := by decide +kernel
theorem i_D_writeRecords_74 : decode m_D_writeRecords.2.1 74 = .ok (.iload_n 2, 1) := by decide +kernel
theorem i_D_writeRecords_75 : decode m_D_writeRecords.2.1 75 = .ok (.ireturn, 1) := by decide +kernel
theorem i_D_writePages_0 : decode m_D_writePages.2.1 0 = .ok (.iconst 0, 1) := by decide +kernel
theorem i_D_writePages_1 : decode m_D_writePages.2.1 1 = .ok (.istore_n 3, 1) := by decide +kernel
theorem i_D_writePages_2 : decode m_D_writePages.2.1 2 = .ok (.iload_n 3, 1) := by decide +kernel
theorem i_D_writePages_3 : decode m_D_writePages.2.1 3 = .ok (.iload_n 1, 1) := by decide +kernel
theorem i_D_writePages_4 : decode m_D_writePages.2.1 4 = .ok (.if_icmp .ge 18, 3) := by decide +kernel
theorem i_D_writePages_7 : decode m_D_writePages.2.1 7 = .ok (.aload_n 0, 1) := by decide +kernel
theorem i_D_writePages_8 : qInv m_D_writePages 8 m_D_writeBlock 0 0 := ⟨40, _, by decide +kernel, rfl, rfl, wd_695, wd_697, ws_18, by decide +kernel⟩
theorem i_D_writePages_11 : decode m_D_writePages.2.1 11 = .ok (.ifCond .ne 5, 3) := by decide +kernel
theorem i_D_writePages_14 : decode m_D_writePages.2.1 14 = .ok (.iload_n 3, 1) := by decide +kernel
theorem i_D_writePages_15 : decode m_D_writePages.2.1 15 = .ok (.ireturn, 1) := by decide +kernel
theorem i_D_writePages_16 : decode m_D_writePages.2.1 16 = .ok (.iinc 3 1, 3) := by decide +kernel
theorem i_D_writePages_19 : decode m_D_writePages.2.1 19 = .ok (.goto (-17), 3) := by decide +kernel
theorem i_D_writePages_22 : decode m_D_writePages.2.1 22 = .ok (.aload_n 0, 1) := by decide +kernel
theorem i_D_writePages_23 : qInv m_D_writePages 23 m_D_writeBlock 0 0 := ⟨40, _, by decide +kernel, rfl, rfl, wd_695, wd_697, ws_18, by decide +kernel⟩
theorem i_D_writePages_26 : decode m_D_writePages.2.1 26 = .ok (.ifCond .ne 5, 3) := by decide +kernel
theorem i_D_writePages_29 : decode m_D_writePages.2.1 29 = .ok (.iload_n 1, 1) := by decide +kernel
theorem i_D_writePages_30 : decode m_D_writePages.2.1 30 = .ok (.ireturn, 1) := by decide +kernel
theorem i_D_writePages_31 : decode m_D_writePages.2.1 31 = .ok (.aload_n 0, 1) := by decide +kernel
theorem i_D_writePages_32 : decode m_D_writePages.2.1 32 = .ok (.iload_n 2, 1) := by decide +kernel
theorem i_D_writePages_33 : qPut m_D_writePages 33 0 4 := ⟨23, _, by decide +kernel, rfl, by decide, rfl, Or.inl rfl, Or.inl wd_151⟩
theorem i_D_writePages_36 : decode m_D_writePages.2.1 36 = .ok (.aload_n 0, 1) := by decide +kernel
theorem i_D_writePages_37 : decode m_D_writePages.2.1 37 = .ok (.iconst 0, 1) := by decide +kernel
theorem i_D_writePages_38 : qPut m_D_writePages 38 0 2 := ⟨26, _, by decide +kernel, rfl, by decide, rfl, Or.inl rfl, Or.inl wd_147⟩
theorem i_D_writePages_41 : decode m_D_writePages.2.1 41 = .ok (.iload_n 1, 1) := by decide +kernel
theorem i_D_writePages_42 : decode m_D_writePages.2.1 42 = .ok (.iconst 1, 1) := by decide +kernel
theorem i_D_writePages_43 : decode m_D_writePages.2.1 43 = .ok (.iadd, 1) := by decide +kernel
theorem i_D_writePages_44 : decode m_D_writePages.2.1 44 = .ok (.ireturn, 1) := by decide +kernel
theorem i_D_spoilBlock_0 : decode m_D_spoilBlock.2.1 0 = .ok (.iload_n 1, 1) := by decide +kernel
theorem i_D_spoilBlock_1 : decode m_D_spoilBlock.2.1 1 = .ok (.ifCond .lt 18, 3) := by decide +kernel
theorem i_D_spoilBlock_4 : decode m_D_spoilBlock.2.1 4 = .ok (.iload_n 1, 1) := by decide +kernel
theorem i_D_spoilBlock_5 : decode m_D_spoilBlock.2.1 5 = .ok (.aload_n 0, 1) := by decide +kernel
theorem i_D_spoilBlock_6 : qGet m_D_spoilBlock 6 0 2 := ⟨26, _, by decide +kernel, rfl, by decide, rfl, Or.inl wd_147⟩
theorem i_D_spoilBlock_9 : decode m_D_spoilBlock.2.1 9 = .ok (.if_icmp .ge 10, 3) := by decide +kernel
theorem i_D_spoilBlock_12 : decode m_D_spoilBlock.2.1 12 = .ok (.aload_n 0, 1) := by decide +kernel
theorem i_D_spoilBlock_13 : qGet m_D_spoilBlock 13 0 1 := ⟨15, _, by decide +kernel, rfl, by decide, rfl, Or.inl wd_146⟩
theorem i_D_spoilBlock_16 : decode m_D_spoilBlock.2.1 16 = .ok (.iload_n 1, 1) := by decide +kernel
theorem i_D_spoilBlock_17 : decode m_D_spoilBlock.2.1 17 = .ok (.iconst 1, 1) := by decide +kernel
theorem i_D_spoilBlock_18 : decode m_D_spoilBlock.2.1 18 = .ok (.bastore, 1) := by decide +kernel
theorem i_D_spoilBlock_19 : decode m_D_spoilBlock.2.1 19 = .ok (.return_, 1) := by decide +kernel
theorem i_D_comeUp_0 : decode m_D_comeUp.2.1 0 = .ok (.iconst 0, 1) := by decide +kernel
theorem i_D_comeUp_1 : decode m_D_comeUp.2.1 1 = .ok (.istore_n 1, 1) := by decide +kernel
theorem i_D_comeUp_2 : decode m_D_comeUp.2.1 2 = .ok (.iload_n 1, 1) := by decide +kernel
theorem i_D_comeUp_3 : decode m_D_comeUp.2.1 3 = .ok (.aload_n 0, 1) := by decide +kernel
theorem i_D_comeUp_4 : qGet m_D_comeUp 4 0 2 := ⟨26, _, by decide +kernel, rfl, by decide, rfl, Or.inl wd_147⟩
theorem i_D_comeUp_7 : decode m_D_comeUp.2.1 7 = .ok (.if_icmp .ge 18, 3) := by decide +kernel
theorem i_D_comeUp_10 : decode m_D_comeUp.2.1 10 = .ok (.aload_n 0, 1) := by decide +kernel
theorem i_D_comeUp_11 : qGet m_D_comeUp 11 0 1 := ⟨15, _, by decide +kernel, rfl, by decide, rfl, Or.inl wd_146⟩
theorem i_D_comeUp_14 : decode m_D_comeUp.2.1 14 = .ok (.iload_n 1, 1) := by decide +kernel
theorem i_D_comeUp_15 : decode m_D_comeUp.2.1 15 = .ok (.baload, 1) := by decide +kernel
theorem i_D_comeUp_16 : decode m_D_comeUp.2.1 16 = .ok (.ifCond .ne 9, 3) := by decide +kernel
theorem i_D_comeUp_19 : decode m_D_comeUp.2.1 19 = .ok (.iinc 1 1, 3) := by decide +kernel
theorem i_D_comeUp_22 : decode m_D_comeUp.2.1 22 = .ok (.goto (-20), 3) := by decide +kernel
theorem i_D_comeUp_25 : decode m_D_comeUp.2.1 25 = .ok (.aload_n 0, 1) := by decide +kernel
theorem i_D_comeUp_26 : decode m_D_comeUp.2.1 26 = .ok (.iload_n 1, 1) := by decide +kernel
theorem i_D_comeUp_27 : qPut m_D_comeUp 27 0 2 := ⟨26, _, by decide +kernel, rfl, by decide, rfl, Or.inl rfl, Or.inl wd_147⟩
theorem i_D_comeUp_30 : decode m_D_comeUp.2.1 30 = .ok (.aload_n 0, 1) := by decide +kernel
theorem i_D_comeUp_31 : decode m_D_comeUp.2.1 31 = .ok (.iconst (-1), 1) := by decide +kernel
theorem i_D_comeUp_32 : qPut m_D_comeUp 32 0 5 := ⟨19, _, by decide +kernel, rfl, by decide, rfl, Or.inl rfl, Or.inl wd_153⟩
theorem i_D_comeUp_35 : decode m_D_comeUp.2.1 35 = .ok (.aload_n 0, 1) := by decide +kernel
theorem i_D_comeUp_36 : decode m_D_comeUp.2.1 36 = .ok (.iconst 0, 1) := by decide +kernel
theorem i_D_comeUp_37 : qPut m_D_comeUp 37 0 6 := ⟨33, _, by decide +kernel, rfl, by decide, rfl, Or.inl rfl, Or.inl wd_155⟩
theorem i_D_comeUp_40 : decode m_D_comeUp.2.1 40 = .ok (.return_, 1) := by decide +kernel
theorem i_R_init_0 : decode m_R_init.2.1 0 = .ok (.aload_n 0, 1) := by decide +kernel
theorem i_R_init_1 : qObj m_R_init 1 := ⟨3, by decide +kernel, wd_81⟩
theorem i_R_init_4 : decode m_R_init.2.1 4 = .ok (.aload_n 0, 1) := by decide +kernel
theorem i_R_init_5 : decode m_R_init.2.1 5 = .ok (.iload_n 1, 1) := by decide +kernel
theorem i_R_init_6 : decode m_R_init.2.1 6 = .ok (.iconst 0, 1) := by decide +kernel
theorem i_R_init_7 : qInvS m_R_init 7 m_J_maxI 2 := ⟨9, by decide +kernel, wd_82, wd_83, by decide +kernel⟩
theorem i_R_init_10 : decode m_R_init.2.1 10 = .ok (.newarray .int, 2) := by decide +kernel
theorem i_R_init_12 : qPut m_R_init 12 2 0 := ⟨15, _, by decide +kernel, rfl, by decide, rfl, Or.inr ⟨rfl, rfl⟩, Or.inl wd_85⟩
theorem i_R_init_15 : decode m_R_init.2.1 15 = .ok (.aload_n 0, 1) := by decide +kernel
theorem i_R_init_16 : decode m_R_init.2.1 16 = .ok (.iload_n 1, 1) := by decide +kernel
theorem i_R_init_17 : decode m_R_init.2.1 17 = .ok (.iconst 0, 1) := by decide +kernel
theorem i_R_init_18 : qInvS m_R_init 18 m_J_maxI 2 := ⟨9, by decide +kernel, wd_82, wd_83, by decide +kernel⟩
theorem i_R_init_21 : decode m_R_init.2.1 21 = .ok (.newarray .long, 2) := by decide +kernel
theorem i_R_init_23 : qPut m_R_init 23 2 1 := ⟨21, _, by decide +kernel, rfl, by decide, rfl, Or.inr ⟨rfl, rfl⟩, Or.inl wd_87⟩
theorem i_R_init_26 : decode m_R_init.2.1 26 = .ok (.return_, 1) := by decide +kernel
theorem i_R_clear_0 : decode m_R_clear.2.1 0 = .ok (.aload_n 0, 1) := by decide +kernel
theorem i_R_clear_1 : decode m_R_clear.2.1 1 = .ok (.iconst 0, 1) := by decide +kernel
theorem i_R_clear_2 : qPut m_R_clear 2 2 2 := ⟨25, _, by decide +kernel, rfl, by decide, rfl, Or.inl rfl, Or.inl wd_89⟩
theorem i_R_clear_5 : decode m_R_clear.2.1 5 = .ok (.return_, 1) := by decide +kernel
theorem i_R_insert_0 : decode m_R_insert.2.1 0 = .ok (.aload_n 0, 1) := by decide +kernel
theorem i_R_insert_1 : qGet m_R_insert 1 2 2 := ⟨25, _, by decide +kernel, rfl, by decide, rfl, Or.inl wd_89⟩
theorem i_R_insert_4 : decode m_R_insert.2.1 4 = .ok (.aload_n 0, 1) := by decide +kernel
theorem i_R_insert_5 : qGet m_R_insert 5 2 0 := ⟨15, _, by decide +kernel, rfl, by decide, rfl, Or.inl wd_85⟩
theorem i_R_insert_8 : decode m_R_insert.2.1 8 = .ok (.arraylength, 1) := by decide +kernel
theorem i_R_insert_9 : decode m_R_insert.2.1 9 = .ok (.if_icmp .lt 4, 3) := by decide +kernel
theorem i_R_insert_12 : decode m_R_insert.2.1 12 = .ok (.return_, 1) := by decide +kernel
theorem i_R_insert_13 : decode m_R_insert.2.1 13 = .ok (.aload_n 0, 1) := by decide +kernel
theorem i_R_insert_14 : qGet m_R_insert 14 2 2 := ⟨25, _, by decide +kernel, rfl, by decide, rfl, Or.inl wd_89⟩
theorem i_R_insert_17 : decode m_R_insert.2.1 17 = .ok (.istore 4, 2) := by decide +kernel
theorem i_R_insert_19 : decode m_R_insert.2.1 19 = .ok (.iload 4, 2) := by decide +kernel
theorem i_R_insert_21 : decode m_R_insert.2.1 21 = .ok (.ifCond .le 54, 3) := by decide +kernel
theorem i_R_insert_24 : decode m_R_insert.2.1 24 = .ok (.aload_n 0, 1) := by decide +kernel
theorem i_R_insert_25 : qGet m_R_insert 25 2 0 := ⟨15, _, by decide +kernel, rfl, by decide, rfl, Or.inl wd_85⟩
theorem i_R_insert_28 : decode m_R_insert.2.1 28 = .ok (.iload 4, 2) := by decide +kernel
theorem i_R_insert_30 : decode m_R_insert.2.1 30 = .ok (.iconst 1, 1) := by decide +kernel
theorem i_R_insert_31 : decode m_R_insert.2.1 31 = .ok (.isub, 1) := by decide +kernel
theorem i_R_insert_32 : decode m_R_insert.2.1 32 = .ok (.iaload, 1) := by decide +kernel
theorem i_R_insert_33 : decode m_R_insert.2.1 33 = .ok (.iload_n 1, 1) := by decide +kernel
theorem i_R_insert_34 : decode m_R_insert.2.1 34 = .ok (.if_icmp .le 41, 3) := by decide +kernel
theorem i_R_insert_37 : decode m_R_insert.2.1 37 = .ok (.aload_n 0, 1) := by decide +kernel
theorem i_R_insert_38 : qGet m_R_insert 38 2 0 := ⟨15, _, by decide +kernel, rfl, by decide, rfl, Or.inl wd_85⟩
theorem i_R_insert_41 : decode m_R_insert.2.1 41 = .ok (.iload 4, 2) := by decide +kernel
theorem i_R_insert_43 : decode m_R_insert.2.1 43 = .ok (.aload_n 0, 1) := by decide +kernel
theorem i_R_insert_44 : qGet m_R_insert 44 2 0 := ⟨15, _, by decide +kernel, rfl, by decide, rfl, Or.inl wd_85⟩
theorem i_R_insert_47 : decode m_R_insert.2.1 47 = .ok (.iload 4, 2) := by decide +kernel
theorem i_R_insert_49 : decode m_R_insert.2.1 49 = .ok (.iconst 1, 1) := by decide +kernel
theorem i_R_insert_50 : decode m_R_insert.2.1 50 = .ok (.isub, 1) := by decide +kernel
theorem i_R_insert_51 : decode m_R_insert.2.1 51 = .ok (.iaload, 1) := by decide +kernel
theorem i_R_insert_52 : decode m_R_insert.2.1 52 = .ok (.iastore, 1) := by decide +kernel
theorem i_R_insert_53 : decode m_R_insert.2.1 53 = .ok (.aload_n 0, 1) := by decide +kernel
theorem i_R_insert_54 : qGet m_R_insert 54 2 1 := ⟨21, _, by decide +kernel, rfl, by decide, rfl, Or.inl wd_87⟩
theorem i_R_insert_57 : decode m_R_insert.2.1 57 = .ok (.iload 4, 2) := by decide +kernel
theorem i_R_insert_59 : decode m_R_insert.2.1 59 = .ok (.aload_n 0, 1) := by decide +kernel
theorem i_R_insert_60 : qGet m_R_insert 60 2 1 := ⟨21, _, by decide +kernel, rfl, by decide, rfl, Or.inl wd_87⟩
theorem i_R_insert_63 : decode m_R_insert.2.1 63 = .ok (.iload 4, 2) := by decide +kernel
theorem i_R_insert_65 : decode m_R_insert.2.1 65 = .ok (.iconst 1, 1) := by decide +kernel
theorem i_R_insert_66 : decode m_R_insert.2.1 66 = .ok (.isub, 1) := by decide +kernel
theorem i_R_insert_67 : decode m_R_insert.2.1 67 = .ok (.laload, 1) := by decide +kernel
theorem i_R_insert_68 : decode m_R_insert.2.1 68 = .ok (.lastore, 1) := by decide +kernel
theorem i_R_insert_69 : decode m_R_insert.2.1 69 = .ok (.iinc 4 (-1), 3) := by decide +kernel
theorem i_R_insert_72 : decode m_R_insert.2.1 72 = .ok (.goto (-53), 3) := by decide +kernel
theorem i_R_insert_75 : decode m_R_insert.2.1 75 = .ok (.aload_n 0, 1) := by decide +kernel
theorem i_R_insert_76 : qGet m_R_insert 76 2 0 := ⟨15, _, by decide +kernel, rfl, by decide, rfl, Or.inl wd_85⟩
theorem i_R_insert_79 : decode m_R_insert.2.1 79 = .ok (.iload 4, 2) := by decide +kernel
theorem i_R_insert_81 : decode m_R_insert.2.1 81 = .ok (.iload_n 1, 1) := by decide +kernel
theorem i_R_insert_82 : decode m_R_insert.2.1 82 = .ok (.iastore, 1) := by decide +kernel
theorem i_R_insert_83 : decode m_R_insert.2.1 83 = .ok (.aload_n 0, 1) := by decide +kernel
theorem i_R_insert_84 : qGet m_R_insert 84 2 1 := ⟨21, _, by decide +kernel, rfl, by decide, rfl, Or.inl wd_87⟩
theorem i_R_insert_87 : decode m_R_insert.2.1 87 = .ok (.iload 4, 2) := by decide +kernel
theorem i_R_insert_89 : decode m_R_insert.2.1 89 = .ok (.lload_n 2, 1) := by decide +kernel
theorem i_R_insert_90 : decode m_R_insert.2.1 90 = .ok (.lastore, 1) := by decide +kernel
theorem i_R_insert_91 : decode m_R_insert.2.1 91 = .ok (.aload_n 0, 1) := by decide +kernel
theorem i_R_insert_92 : decode m_R_insert.2.1 92 = .ok (.dup, 1) := by decide +kernel
theorem i_R_insert_93 : qGet m_R_insert 93 2 2 := ⟨25, _, by decide +kernel, rfl, by decide, rfl, Or.inl wd_89⟩
theorem i_R_insert_96 : decode m_R_insert.2.1 96 = .ok (.iconst 1, 1) := by decide +kernel
theorem i_R_insert_97 : decode m_R_insert.2.1 97 = .ok (.iadd, 1) := by decide +kernel
theorem i_R_insert_98 : qPut m_R_insert 98 2 2 := ⟨25, _, by decide +kernel, rfl, by decide, rfl, Or.inl rfl, Or.inl wd_89⟩
theorem i_R_insert_101 : decode m_R_insert.2.1 101 = .ok (.return_, 1) := by decide +kernel
theorem i_R_lowerFirst_0 : decode m_R_lowerFirst.2.1 0 = .ok (.aload_n 0, 1) := by decide +kernel
theorem i_R_lowerFirst_1 : qGet m_R_lowerFirst 1 2 2 := ⟨25, _, by decide +kernel, rfl, by decide, rfl, Or.inl wd_89⟩
theorem i_R_lowerFirst_4 : decode m_R_lowerFirst.2.1 4 = .ok (.ifCond .le 20, 3) := by decide +kernel
theorem i_R_lowerFirst_7 : decode m_R_lowerFirst.2.1 7 = .ok (.iload_n 1, 1) := by decide +kernel
theorem i_R_lowerFirst_8 : decode m_R_lowerFirst.2.1 8 = .ok (.aload_n 0, 1) := by decide +kernel
theorem i_R_lowerFirst_9 : qGet m_R_lowerFirst 9 2 0 := ⟨15, _, by decide +kernel, rfl, by decide, rfl, Or.inl wd_85⟩
theorem i_R_lowerFirst_12 : decode m_R_lowerFirst.2.1 12 = .ok (.iconst 0, 1) := by decide +kernel
theorem i_R_lowerFirst_13 : decode m_R_lowerFirst.2.1 13 = .ok (.iaload, 1) := by decide +kernel
theorem i_R_lowerFirst_14 : decode m_R_lowerFirst.2.1 14 = .ok (.if_icmp .ge 10, 3) := by decide +kernel
theorem i_R_lowerFirst_17 : decode m_R_lowerFirst.2.1 17 = .ok (.aload_n 0, 1) := by decide +kernel
theorem i_R_lowerFirst_18 : qGet m_R_lowerFirst 18 2 0 := ⟨15, _, by decide +kernel, rfl, by decide, rfl, Or.inl wd_85⟩
theorem i_R_lowerFirst_21 : decode m_R_lowerFirst.2.1 21 = .ok (.iconst 0, 1) := by decide +kernel
theorem i_R_lowerFirst_22 : decode m_R_lowerFirst.2.1 22 = .ok (.iload_n 1, 1) := by decide +kernel
theorem i_R_lowerFirst_23 : decode m_R_lowerFirst.2.1 23 = .ok (.iastore, 1) := by decide +kernel
theorem i_R_lowerFirst_24 : decode m_R_lowerFirst.2.1 24 = .ok (.return_, 1) := by decide +kernel
theorem i_R_keyAt_0 : decode m_R_keyAt.2.1 0 = .ok (.iload_n 1, 1) := by decide +kernel
theorem i_R_keyAt_1 : decode m_R_keyAt.2.1 1 = .ok (.ifCond .lt 21, 3) := by decide +kernel
theorem i_R_keyAt_4 : decode m_R_keyAt.2.1 4 = .ok (.iload_n 1, 1) := by decide +kernel
theorem i_R_keyAt_5 : decode m_R_keyAt.2.1 5 = .ok (.aload_n 0, 1) := by decide +kernel
theorem i_R_keyAt_6 : qGet m_R_keyAt 6 2 2 := ⟨25, _, by decide +kernel, rfl, by decide, rfl, Or.inl wd_89⟩
theorem i_R_keyAt_9 : decode m_R_keyAt.2.1 9 = .ok (.if_icmp .ge 13, 3) := by decide +kernel
theorem i_R_keyAt_12 : decode m_R_keyAt.2.1 12 = .ok (.aload_n 0, 1) := by decide +kernel
theorem i_R_keyAt_13 : qGet m_R_keyAt 13 2 0 := ⟨15, _, by decide +kernel, rfl, by decide, rfl, Or.inl wd_85⟩
theorem i_R_keyAt_16 : decode m_R_keyAt.2.1 16 = .ok (.iload_n 1, 1) := by decide +kernel
theorem i_R_keyAt_17 : decode m_R_keyAt.2.1 17 = .ok (.iaload, 1) := by decide +kernel
theorem i_R_keyAt_18 : decode m_R_keyAt.2.1 18 = .ok (.i2l, 1) := by decide +kernel
theorem i_R_keyAt_19 : decode m_R_keyAt.2.1 19 = .ok (.goto 6, 3) := by decide +kernel
theorem i_R_keyAt_22 : decode m_R_keyAt.2.1 22 = .ok (.ldc2_w 29, 3) := by decide +kernel
theorem i_R_keyAt_22_w : qIn (Cond.constantLong m_R_keyAt.1.cls 29 9223372036854775807) := wd_358
theorem i_R_keyAt_25 : decode m_R_keyAt.2.1 25 = .ok (.lreturn, 1) := by decide +kernel
theorem i_R_whatAt_0 : decode m_R_whatAt.2.1 0 = .ok (.iload_n 1, 1) := by decide +kernel
theorem i_R_whatAt_1 : decode m_R_whatAt.2.1 1 = .ok (.ifCond .lt 20, 3) := by decide +kernel
theorem i_R_whatAt_4 : decode m_R_whatAt.2.1 4 = .ok (.iload_n 1, 1) := by decide +kernel
theorem i_R_whatAt_5 : decode m_R_whatAt.2.1 5 = .ok (.aload_n 0, 1) := by decide +kernel
theorem i_R_whatAt_6 : qGet m_R_whatAt 6 2 2 := ⟨25, _, by decide +kernel, rfl, by decide, rfl, Or.inl wd_89⟩
theorem i_R_whatAt_9 : decode m_R_whatAt.2.1 9 = .ok (.if_icmp .ge 12, 3) := by decide +kernel
theorem i_R_whatAt_12 : decode m_R_whatAt.2.1 12 = .ok (.aload_n 0, 1) := by decide +kernel
theorem i_R_whatAt_13 : qGet m_R_whatAt 13 2 1 := ⟨21, _, by decide +kernel, rfl, by decide, rfl, Or.inl wd_87⟩
theorem i_R_whatAt_16 : decode m_R_whatAt.2.1 16 = .ok (.iload_n 1, 1) := by decide +kernel
theorem i_R_whatAt_17 : decode m_R_whatAt.2.1 17 = .ok (.laload, 1) := by decide +kernel
theorem i_R_whatAt_18 : decode m_R_whatAt.2.1 18 = .ok (.goto 4, 3) := by decide +kernel
theorem i_R_whatAt_21 : decode m_R_whatAt.2.1 21 = .ok (.lconst 0, 1) := by decide +kernel
theorem i_R_whatAt_22 : decode m_R_whatAt.2.1 22 = .ok (.lreturn, 1) := by decide +kernel
theorem i_R_total_0 : decode m_R_total.2.1 0 = .ok (.lconst 0, 1) := by decide +kernel
theorem i_R_total_1 : decode m_R_total.2.1 1 = .ok (.lstore_n 1, 1) := by decide +kernel
theorem i_R_total_2 : decode m_R_total.2.1 2 = .ok (.iconst 0, 1) := by decide +kernel
theorem i_R_total_3 : decode m_R_total.2.1 3 = .ok (.istore_n 3, 1) := by decide +kernel
theorem i_R_total_4 : decode m_R_total.2.1 4 = .ok (.iload_n 3, 1) := by decide +kernel
theorem i_R_total_5 : decode m_R_total.2.1 5 = .ok (.aload_n 0, 1) := by decide +kernel
theorem i_R_total_6 : qGet m_R_total 6 2 2 := ⟨25, _, by decide +kernel, rfl, by decide, rfl, Or.inl wd_89⟩
theorem i_R_total_9 : decode m_R_total.2.1 9 = .ok (.if_icmp .ge 18, 3) := by decide +kernel
theorem i_R_total_12 : decode m_R_total.2.1 12 = .ok (.lload_n 1, 1) := by decide +kernel
theorem i_R_total_13 : decode m_R_total.2.1 13 = .ok (.aload_n 0, 1) := by decide +kernel
theorem i_R_total_14 : qGet m_R_total 14 2 1 := ⟨21, _, by decide +kernel, rfl, by decide, rfl, Or.inl wd_87⟩
theorem i_R_total_17 : decode m_R_total.2.1 17 = .ok (.iload_n 3, 1) := by decide +kernel
theorem i_R_total_18 : decode m_R_total.2.1 18 = .ok (.laload, 1) := by decide +kernel
theorem i_R_total_19 : decode m_R_total.2.1 19 = .ok (.ladd, 1) := by decide +kernel
theorem i_R_total_20 : decode m_R_total.2.1 20 = .ok (.lstore_n 1, 1) := by decide +kernel
theorem i_R_total_21 : decode m_R_total.2.1 21 = .ok (.iinc 3 1, 3) := by decide +kernel
theorem i_R_total_24 : decode m_R_total.2.1 24 = .ok (.goto (-20), 3) := by decide +kernel
theorem i_R_total_27 : decode m_R_total.2.1 27 = .ok (.lload_n 1, 1) := by decide +kernel
theorem i_R_total_28 : decode m_R_total.2.1 28 = .ok (.lreturn, 1) := by decide +kernel
theorem i_R_differing_0 : decode m_R_differing.2.1 0 = .ok (.iconst 0, 1) := by decide +kernel
theorem i_R_differing_1 : decode m_R_differing.2.1 1 = .ok (.istore_n 3, 1) := by decide +kernel
theorem i_R_differing_2 : decode m_R_differing.2.1 2 = .ok (.iconst 0, 1) := by decide +kernel
theorem i_R_differing_3 : decode m_R_differing.2.1 3 = .ok (.istore 4, 2) := by decide +kernel
theorem i_R_differing_5 : decode m_R_differing.2.1 5 = .ok (.iconst 0, 1) := by decide +kernel
theorem i_R_differing_6 : decode m_R_differing.2.1 6 = .ok (.istore 5, 2) := by decide +kernel
theorem i_R_differing_8 : decode m_R_differing.2.1 8 = .ok (.iconst 0, 1) := by decide +kernel
theorem i_R_differing_9 : decode m_R_differing.2.1 9 = .ok (.istore 6, 2) := by decide +kernel
theorem i_R_differing_11 : decode m_R_differing.2.1 11 = .ok (.iload 6, 2) := by decide +kernel
theorem i_R_differing_13 : decode m_R_differing.2.1 13 = .ok (.aload_n 0, 1) := by decide +kernel
theorem i_R_differing_14 : qGet m_R_differing 14 2 2 := ⟨25, _, by decide +kernel, rfl, by decide, rfl, Or.inl wd_89⟩
theorem i_R_differing_17 : decode m_R_differing.2.1 17 = .ok (.aload_n 1, 1) := by decide +kernel
theorem i_R_differing_18 : qGet m_R_differing 18 2 2 := ⟨25, _, by decide +kernel, rfl, by decide, rfl, Or.inl wd_89⟩
theorem i_R_differing_21 : decode m_R_differing.2.1 21 = .ok (.iadd, 1) := by decide +kernel
theorem i_R_differing_22 : decode m_R_differing.2.1 22 = .ok (.if_icmp .ge 98, 3) := by decide +kernel
theorem i_R_differing_25 : decode m_R_differing.2.1 25 = .ok (.aload_n 0, 1) := by decide +kernel
theorem i_R_differing_26 : decode m_R_differing.2.1 26 = .ok (.iload_n 3, 1) := by decide +kernel
theorem i_R_differing_27 : qInv m_R_differing 27 m_R_keyAt 2 1 := ⟨31, _, by decide +kernel, rfl, rfl, wd_570, wd_355, wd_356, by decide +kernel⟩
theorem i_R_differing_30 : decode m_R_differing.2.1 30 = .ok (.lstore 7, 2) := by decide +kernel
theorem i_R_differing_32 : decode m_R_differing.2.1 32 = .ok (.aload_n 1, 1) := by decide +kernel
theorem i_R_differing_33 : decode m_R_differing.2.1 33 = .ok (.iload 4, 2) := by decide +kernel
theorem i_R_differing_35 : qInv m_R_differing 35 m_R_keyAt 2 1 := ⟨31, _, by decide +kernel, rfl, rfl, wd_570, wd_355, wd_356, by decide +kernel⟩
theorem i_R_differing_38 : decode m_R_differing.2.1 38 = .ok (.lstore 9, 2) := by decide +kernel
theorem i_R_differing_40 : decode m_R_differing.2.1 40 = .ok (.lload 7, 2) := by decide +kernel
theorem i_R_differing_42 : decode m_R_differing.2.1 42 = .ok (.lload 9, 2) := by decide +kernel
theorem i_R_differing_44 : decode m_R_differing.2.1 44 = .ok (.lcmp, 1) := by decide +kernel
theorem i_R_differing_45 : decode m_R_differing.2.1 45 = .ok (.ifCond .ne 18, 3) := by decide +kernel
theorem i_R_differing_48 : decode m_R_differing.2.1 48 = .ok (.aload_n 0, 1) := by decide +kernel
theorem i_R_differing_49 : decode m_R_differing.2.1 49 = .ok (.iload_n 3, 1) := by decide +kernel
theorem i_R_differing_50 : qInv m_R_differing 50 m_R_whatAt 2 1 := ⟨35, _, by decide +kernel, rfl, rfl, wd_571, wd_360, wd_361, by decide +kernel⟩
theorem i_R_differing_53 : decode m_R_differing.2.1 53 = .ok (.aload_n 1, 1) := by decide +kernel
theorem i_R_differing_54 : decode m_R_differing.2.1 54 = .ok (.iload 4, 2) := by decide +kernel
theorem i_R_differing_56 : qInv m_R_differing 56 m_R_whatAt 2 1 := ⟨35, _, by decide +kernel, rfl, rfl, wd_571, wd_360, wd_361, by decide +kernel⟩
theorem i_R_differing_59 : decode m_R_differing.2.1 59 = .ok (.lcmp, 1) := by decide +kernel
theorem i_R_differing_60 : decode m_R_differing.2.1 60 = .ok (.ifCond .eq 20, 3) := by decide +kernel
theorem i_R_differing_63 : decode m_R_differing.2.1 63 = .ok (.iload 5, 2) := by decide +kernel
theorem i_R_differing_65 : decode m_R_differing.2.1 65 = .ok (.iload_n 2, 1) := by decide +kernel
theorem i_R_differing_66 : decode m_R_differing.2.1 66 = .ok (.if_icmp .ne 11, 3) := by decide +kernel
theorem i_R_differing_69 : decode m_R_differing.2.1 69 = .ok (.lload 7, 2) := by decide +kernel
theorem i_R_differing_71 : decode m_R_differing.2.1 71 = .ok (.lload 9, 2) := by decide +kernel
theorem i_R_differing_73 : qInvS m_R_differing 73 m_J_minJ 2 := ⟨38, by decide +kernel, wd_572, wd_573, by decide +kernel⟩
theorem i_R_differing_76 : decode m_R_differing.2.1 76 = .ok (.lreturn, 1) := by decide +kernel
theorem i_R_differing_77 : decode m_R_differing.2.1 77 = .ok (.iinc 5 1, 3) := by decide +kernel
theorem i_R_differing_80 : decode m_R_differing.2.1 80 = .ok (.iload_n 3, 1) := by decide +kernel
theorem i_R_differing_81 : decode m_R_differing.2.1 81 = .ok (.lload 7, 2) := by decide +kernel
theorem i_R_differing_83 : decode m_R_differing.2.1 83 = .ok (.lload 9, 2) := by decide +kernel
theorem i_R_differing_85 : decode m_R_differing.2.1 85 = .ok (.lcmp, 1) := by decide +kernel
theorem i_R_differing_86 : decode m_R_differing.2.1 86 = .ok (.ifCond .gt 7, 3) := by decide +kernel
theorem i_R_differing_89 : decode m_R_differing.2.1 89 = .ok (.iconst 1, 1) := by decide +kernel
theorem i_R_differing_90 : decode m_R_differing.2.1 90 = .ok (.goto 4, 3) := by decide +kernel
theorem i_R_differing_93 : decode m_R_differing.2.1 93 = .ok (.iconst 0, 1) := by decide +kernel
theorem i_R_differing_94 : decode m_R_differing.2.1 94 = .ok (.iadd, 1) := by decide +kernel
theorem i_R_differing_95 : decode m_R_differing.2.1 95 = .ok (.istore_n 3, 1) := by decide +kernel
theorem i_R_differing_96 : decode m_R_differing.2.1 96 = .ok (.iload 4, 2) := by decide +kernel
theorem i_R_differing_98 : decode m_R_differing.2.1 98 = .ok (.lload 9, 2) := by decide +kernel
theorem i_R_differing_100 : decode m_R_differing.2.1 100 = .ok (.lload 7, 2) := by decide +kernel
theorem i_R_differing_102 : decode m_R_differing.2.1 102 = .ok (.lcmp, 1) := by decide +kernel
theorem i_R_differing_103 : decode m_R_differing.2.1 103 = .ok (.ifCond .gt 7, 3) := by decide +kernel
theorem i_R_differing_106 : decode m_R_differing.2.1 106 = .ok (.iconst 1, 1) := by decide +kernel
theorem i_R_differing_107 : decode m_R_differing.2.1 107 = .ok (.goto 4, 3) := by decide +kernel
theorem i_R_differing_110 : decode m_R_differing.2.1 110 = .ok (.iconst 0, 1) := by decide +kernel
theorem i_R_differing_111 : decode m_R_differing.2.1 111 = .ok (.iadd, 1) := by decide +kernel
theorem i_R_differing_112 : decode m_R_differing.2.1 112 = .ok (.istore 4, 2) := by decide +kernel
theorem i_R_differing_114 : decode m_R_differing.2.1 114 = .ok (.iinc 6 1, 3) := by decide +kernel
theorem i_R_differing_117 : decode m_R_differing.2.1 117 = .ok (.goto (-106), 3) := by decide +kernel
theorem i_R_differing_120 : decode m_R_differing.2.1 120 = .ok (.ldc2_w 29, 3) := by decide +kernel
theorem i_R_differing_120_w : qIn (Cond.constantLong m_R_differing.1.cls 29 9223372036854775807) := wd_358
theorem i_R_differing_123 : decode m_R_differing.2.1 123 = .ok (.lreturn, 1) := by decide +kernel
theorem i_G_init_0 : decode m_G_init.2.1 0 = .ok (.aload_n 0, 1) := by decide +kernel
theorem i_G_init_1 : qObj m_G_init 1 := ⟨3, by decide +kernel, wd_35⟩
theorem i_G_init_4 : decode m_G_init.2.1 4 = .ok (.aload_n 0, 1) := by decide +kernel
theorem i_G_init_5 : decode m_G_init.2.1 5 = .ok (.iload_n 1, 1) := by decide +kernel
theorem i_G_init_6 : qPut m_G_init 6 1 0 := ⟨9, _, by decide +kernel, rfl, by decide, rfl, Or.inr ⟨rfl, rfl⟩, Or.inl wd_36⟩
theorem i_G_init_9 : decode m_G_init.2.1 9 = .ok (.aload_n 0, 1) := by decide +kernel
theorem i_G_init_10 : decode m_G_init.2.1 10 = .ok (.bipush 16, 2) := by decide +kernel
theorem i_G_init_12 : decode m_G_init.2.1 12 = .ok (.newarray .int, 2) := by decide +kernel
theorem i_G_init_14 : qPut m_G_init 14 1 1 := ⟨15, _, by decide +kernel, rfl, by decide, rfl, Or.inr ⟨rfl, rfl⟩, Or.inl wd_38⟩
theorem i_G_init_17 : decode m_G_init.2.1 17 = .ok (.aload_n 0, 1) := by decide +kernel
theorem i_G_init_18 : decode m_G_init.2.1 18 = .ok (.bipush 16, 2) := by decide +kernel
theorem i_G_init_20 : decode m_G_init.2.1 20 = .ok (.newarray .int, 2) := by decide +kernel
theorem i_G_init_22 : qPut m_G_init 22 1 2 := ⟨19, _, by decide +kernel, rfl, by decide, rfl, Or.inr ⟨rfl, rfl⟩, Or.inl wd_39⟩
theorem i_G_init_25 : decode m_G_init.2.1 25 = .ok (.aload_n 0, 1) := by decide +kernel
theorem i_G_init_26 : decode m_G_init.2.1 26 = .ok (.bipush 16, 2) := by decide +kernel
theorem i_G_init_28 : decode m_G_init.2.1 28 = .ok (.newarray .int, 2) := by decide +kernel
theorem i_G_init_30 : qPut m_G_init 30 1 3 := ⟨22, _, by decide +kernel, rfl, by decide, rfl, Or.inr ⟨rfl, rfl⟩, Or.inl wd_40⟩
theorem i_G_init_33 : decode m_G_init.2.1 33 = .ok (.aload_n 0, 1) := by decide +kernel
theorem i_G_init_34 : decode m_G_init.2.1 34 = .ok (.bipush 16, 2) := by decide +kernel
theorem i_G_init_36 : decode m_G_init.2.1 36 = .ok (.newarray .long, 2) := by decide +kernel
theorem i_G_init_38 : qPut m_G_init 38 1 4 := ⟨25, _, by decide +kernel, rfl, by decide, rfl, Or.inr ⟨rfl, rfl⟩, Or.inl wd_41⟩
theorem i_G_init_41 : decode m_G_init.2.1 41 = .ok (.aload_n 0, 1) := by decide +kernel
theorem i_G_init_42 : decode m_G_init.2.1 42 = .ok (.iconst (-1), 1) := by decide +kernel
theorem i_G_init_43 : qPut m_G_init 43 1 7 := ⟨29, _, by decide +kernel, rfl, by decide, rfl, Or.inl rfl, Or.inl wd_48⟩
theorem i_G_init_46 : decode m_G_init.2.1 46 = .ok (.return_, 1) := by decide +kernel
theorem i_G_renew_0 : decode m_G_renew.2.1 0 = .ok (.aload_n 0, 1) := by decide +kernel
theorem i_G_renew_1 : decode m_G_renew.2.1 1 = .ok (.iload_n 1, 1) := by decide +kernel
theorem i_G_renew_2 : qPut m_G_renew 2 1 5 := ⟨32, _, by decide +kernel, rfl, by decide, rfl, Or.inl rfl, Or.inl wd_42⟩
theorem i_G_renew_5 : decode m_G_renew.2.1 5 = .ok (.aload_n 0, 1) := by decide +kernel
theorem i_G_renew_6 : decode m_G_renew.2.1 6 = .ok (.iload_n 2, 1) := by decide +kernel
theorem i_G_renew_7 : qPut m_G_renew 7 1 6 := ⟨35, _, by decide +kernel, rfl, by decide, rfl, Or.inl rfl, Or.inl wd_45⟩
theorem i_G_renew_10 : decode m_G_renew.2.1 10 = .ok (.aload_n 0, 1) := by decide +kernel
theorem i_G_renew_11 : decode m_G_renew.2.1 11 = .ok (.iconst (-1), 1) := by decide +kernel
theorem i_G_renew_12 : qPut m_G_renew 12 1 7 := ⟨29, _, by decide +kernel, rfl, by decide, rfl, Or.inl rfl, Or.inl wd_48⟩
theorem i_G_renew_15 : decode m_G_renew.2.1 15 = .ok (.aload_n 0, 1) := by decide +kernel
theorem i_G_renew_16 : decode m_G_renew.2.1 16 = .ok (.iconst 0, 1) := by decide +kernel
theorem i_G_renew_17 : qPut m_G_renew 17 1 8 := ⟨38, _, by decide +kernel, rfl, by decide, rfl, Or.inl rfl, Or.inl wd_51⟩
theorem i_G_renew_20 : decode m_G_renew.2.1 20 = .ok (.return_, 1) := by decide +kernel
theorem i_G_serves_0 : decode m_G_serves.2.1 0 = .ok (.aload_n 0, 1) := by decide +kernel
theorem i_G_serves_1 : qGet m_G_serves 1 1 6 := ⟨35, _, by decide +kernel, rfl, by decide, rfl, Or.inl wd_45⟩
theorem i_G_serves_4 : decode m_G_serves.2.1 4 = .ok (.iload_n 1, 1) := by decide +kernel
theorem i_G_serves_5 : decode m_G_serves.2.1 5 = .ok (.if_icmp .gt 23, 3) := by decide +kernel
theorem i_G_serves_8 : decode m_G_serves.2.1 8 = .ok (.aload_n 0, 1) := by decide +kernel
theorem i_G_serves_9 : qGet m_G_serves 9 1 7 := ⟨29, _, by decide +kernel, rfl, by decide, rfl, Or.inl wd_48⟩
theorem i_G_serves_12 : decode m_G_serves.2.1 12 = .ok (.iconst (-1), 1) := by decide +kernel
theorem i_G_serves_13 : decode m_G_serves.2.1 13 = .ok (.if_icmp .eq 11, 3) := by decide +kernel
theorem i_G_serves_16 : decode m_G_serves.2.1 16 = .ok (.iload_n 1, 1) := by decide +kernel
theorem i_G_serves_17 : decode m_G_serves.2.1 17 = .ok (.aload_n 0, 1) := by decide +kernel
theorem i_G_serves_18 : qGet m_G_serves 18 1 7 := ⟨29, _, by decide +kernel, rfl, by decide, rfl, Or.inl wd_48⟩
theorem i_G_serves_21 : decode m_G_serves.2.1 21 = .ok (.if_icmp .ge 7, 3) := by decide +kernel
theorem i_G_serves_24 : decode m_G_serves.2.1 24 = .ok (.iconst 1, 1) := by decide +kernel
theorem i_G_serves_25 : decode m_G_serves.2.1 25 = .ok (.goto 4, 3) := by decide +kernel
theorem i_G_serves_28 : decode m_G_serves.2.1 28 = .ok (.iconst 0, 1) := by decide +kernel
theorem i_G_serves_29 : decode m_G_serves.2.1 29 = .ok (.ireturn, 1) := by decide +kernel
theorem i_G_livesAt_0 : decode m_G_livesAt.2.1 0 = .ok (.iload_n 1, 1) := by decide +kernel
theorem i_G_livesAt_1 : decode m_G_livesAt.2.1 1 = .ok (.ifCond .lt 45, 3) := by decide +kernel
theorem i_G_livesAt_4 : decode m_G_livesAt.2.1 4 = .ok (.iload_n 1, 1) := by decide +kernel
theorem i_G_livesAt_5 : decode m_G_livesAt.2.1 5 = .ok (.aload_n 0, 1) := by decide +kernel
theorem i_G_livesAt_6 : qGet m_G_livesAt 6 1 8 := ⟨38, _, by decide +kernel, rfl, by decide, rfl, Or.inl wd_51⟩
theorem i_G_livesAt_9 : decode m_G_livesAt.2.1 9 = .ok (.if_icmp .ge 37, 3) := by decide +kernel
theorem i_G_livesAt_12 : decode m_G_livesAt.2.1 12 = .ok (.aload_n 0, 1) := by decide +kernel
theorem i_G_livesAt_13 : qGet m_G_livesAt 13 1 2 := ⟨19, _, by decide +kernel, rfl, by decide, rfl, Or.inl wd_39⟩
theorem i_G_livesAt_16 : decode m_G_livesAt.2.1 16 = .ok (.iload_n 1, 1) := by decide +kernel
theorem i_G_livesAt_17 : decode m_G_livesAt.2.1 17 = .ok (.iaload, 1) := by decide +kernel
theorem i_G_livesAt_18 : decode m_G_livesAt.2.1 18 = .ok (.iload_n 2, 1) := by decide +kernel
theorem i_G_livesAt_19 : decode m_G_livesAt.2.1 19 = .ok (.if_icmp .gt 27, 3) := by decide +kernel
theorem i_G_livesAt_22 : decode m_G_livesAt.2.1 22 = .ok (.aload_n 0, 1) := by decide +kernel
theorem i_G_livesAt_23 : qGet m_G_livesAt 23 1 3 := ⟨22, _, by decide +kernel, rfl, by decide, rfl, Or.inl wd_40⟩
theorem i_G_livesAt_26 : decode m_G_livesAt.2.1 26 = .ok (.iload_n 1, 1) := by decide +kernel
theorem i_G_livesAt_27 : decode m_G_livesAt.2.1 27 = .ok (.iaload, 1) := by decide +kernel
theorem i_G_livesAt_28 : decode m_G_livesAt.2.1 28 = .ok (.iconst (-1), 1) := by decide +kernel
theorem i_G_livesAt_29 : decode m_G_livesAt.2.1 29 = .ok (.if_icmp .eq 13, 3) := by decide +kernel
theorem i_G_livesAt_32 : decode m_G_livesAt.2.1 32 = .ok (.iload_n 2, 1) := by decide +kernel
theorem i_G_livesAt_33 : decode m_G_livesAt.2.1 33 = .ok (.aload_n 0, 1) := by decide +kernel
theorem i_G_livesAt_34 : qGet m_G_livesAt 34 1 3 := ⟨22, _, by decide +kernel, rfl, by decide, rfl, Or.inl wd_40⟩
theorem i_G_livesAt_37 : decode m_G_livesAt.2.1 37 = .ok (.iload_n 1, 1) := by decide +kernel
theorem i_G_livesAt_38 : decode m_G_livesAt.2.1 38 = .ok (.iaload, 1) := by decide +kernel
theorem i_G_livesAt_39 : decode m_G_livesAt.2.1 39 = .ok (.if_icmp .ge 7, 3) := by decide +kernel
theorem i_G_livesAt_42 : decode m_G_livesAt.2.1 42 = .ok (.iconst 1, 1) := by decide +kernel
theorem i_G_livesAt_43 : decode m_G_livesAt.2.1 43 = .ok (.goto 4, 3) := by decide +kernel
theorem i_G_livesAt_46 : decode m_G_livesAt.2.1 46 = .ok (.iconst 0, 1) := by decide +kernel
theorem i_G_livesAt_47 : decode m_G_livesAt.2.1 47 = .ok (.ireturn, 1) := by decide +kernel
theorem i_G_living_0 : decode m_G_living.2.1 0 = .ok (.iconst 0, 1) := by decide +kernel
theorem i_G_living_1 : decode m_G_living.2.1 1 = .ok (.istore_n 2, 1) := by decide +kernel
theorem i_G_living_2 : decode m_G_living.2.1 2 = .ok (.iconst 0, 1) := by decide +kernel
theorem i_G_living_3 : decode m_G_living.2.1 3 = .ok (.istore_n 3, 1) := by decide +kernel
theorem i_G_living_4 : decode m_G_living.2.1 4 = .ok (.iload_n 3, 1) := by decide +kernel
theorem i_G_living_5 : decode m_G_living.2.1 5 = .ok (.aload_n 0, 1) := by decide +kernel
theorem i_G_living_6 : qGet m_G_living 6 1 8 := ⟨38, _, by decide +kernel, rfl, by decide, rfl, Or.inl wd_51⟩
theorem i_G_living_9 : decode m_G_living.2.1 9 = .ok (.if_icmp .ge 26, 3) := by decide +kernel
theorem i_G_living_12 : decode m_G_living.2.1 12 = .ok (.iload_n 2, 1) := by decide +kernel
theorem i_G_living_13 : decode m_G_living.2.1 13 = .ok (.aload_n 0, 1) := by decide +kernel
theorem i_G_living_14 : decode m_G_living.2.1 14 = .ok (.iload_n 3, 1) := by decide +kernel
theorem i_G_living_15 : decode m_G_living.2.1 15 = .ok (.iload_n 1, 1) := by decide +kernel
theorem i_G_living_16 : qInv m_G_living 16 m_G_livesAt 1 2 := ⟨41, _, by decide +kernel, rfl, rfl, wd_304, wd_305, wd_306, by decide +kernel⟩
theorem i_G_living_19 : decode m_G_living.2.1 19 = .ok (.ifCond .eq 7, 3) := by decide +kernel
theorem i_G_living_22 : decode m_G_living.2.1 22 = .ok (.iconst 1, 1) := by decide +kernel
theorem i_G_living_23 : decode m_G_living.2.1 23 = .ok (.goto 4, 3) := by decide +kernel
theorem i_G_living_26 : decode m_G_living.2.1 26 = .ok (.iconst 0, 1) := by decide +kernel
theorem i_G_living_27 : decode m_G_living.2.1 27 = .ok (.iadd, 1) := by decide +kernel
theorem i_G_living_28 : decode m_G_living.2.1 28 = .ok (.istore_n 2, 1) := by decide +kernel
theorem i_G_living_29 : decode m_G_living.2.1 29 = .ok (.iinc 3 1, 3) := by decide +kernel
theorem i_G_living_32 : decode m_G_living.2.1 32 = .ok (.goto (-28), 3) := by decide +kernel
theorem i_G_living_35 : decode m_G_living.2.1 35 = .ok (.iload_n 2, 1) := by decide +kernel
theorem i_G_living_36 : decode m_G_living.2.1 36 = .ok (.ireturn, 1) := by decide +kernel
theorem i_G_keyAt_0 : decode m_G_keyAt.2.1 0 = .ok (.iload_n 1, 1) := by decide +kernel
theorem i_G_keyAt_1 : decode m_G_keyAt.2.1 1 = .ok (.ifCond .lt 20, 3) := by decide +kernel
theorem i_G_keyAt_4 : decode m_G_keyAt.2.1 4 = .ok (.iload_n 1, 1) := by decide +kernel
theorem i_G_keyAt_5 : decode m_G_keyAt.2.1 5 = .ok (.aload_n 0, 1) := by decide +kernel
theorem i_G_keyAt_6 : qGet m_G_keyAt 6 1 8 := ⟨38, _, by decide +kernel, rfl, by decide, rfl, Or.inl wd_51⟩
theorem i_G_keyAt_9 : decode m_G_keyAt.2.1 9 = .ok (.if_icmp .ge 12, 3) := by decide +kernel
theorem i_G_keyAt_12 : decode m_G_keyAt.2.1 12 = .ok (.aload_n 0, 1) := by decide +kernel
theorem i_G_keyAt_13 : qGet m_G_keyAt 13 1 1 := ⟨15, _, by decide +kernel, rfl, by decide, rfl, Or.inl wd_38⟩
theorem i_G_keyAt_16 : decode m_G_keyAt.2.1 16 = .ok (.iload_n 1, 1) := by decide +kernel
theorem i_G_keyAt_17 : decode m_G_keyAt.2.1 17 = .ok (.iaload, 1) := by decide +kernel
theorem i_G_keyAt_18 : decode m_G_keyAt.2.1 18 = .ok (.goto 4, 3) := by decide +kernel
theorem i_G_keyAt_21 : decode m_G_keyAt.2.1 21 = .ok (.iconst 0, 1) := by decide +kernel
theorem i_G_keyAt_22 : decode m_G_keyAt.2.1 22 = .ok (.ireturn, 1) := by decide +kernel
theorem i_G_fromAt_0 : decode m_G_fromAt.2.1 0 = .ok (.iload_n 1, 1) := by decide +kernel
theorem i_G_fromAt_1 : decode m_G_fromAt.2.1 1 = .ok (.ifCond .lt 20, 3) := by decide +kernel
theorem i_G_fromAt_4 : decode m_G_fromAt.2.1 4 = .ok (.iload_n 1, 1) := by decide +kernel
theorem i_G_fromAt_5 : decode m_G_fromAt.2.1 5 = .ok (.aload_n 0, 1) := by decide +kernel
theorem i_G_fromAt_6 : qGet m_G_fromAt 6 1 8 := ⟨38, _, by decide +kernel, rfl, by decide, rfl, Or.inl wd_51⟩
theorem i_G_fromAt_9 : decode m_G_fromAt.2.1 9 = .ok (.if_icmp .ge 12, 3) := by decide +kernel
theorem i_G_fromAt_12 : decode m_G_fromAt.2.1 12 = .ok (.aload_n 0, 1) := by decide +kernel
theorem i_G_fromAt_13 : qGet m_G_fromAt 13 1 2 := ⟨19, _, by decide +kernel, rfl, by decide, rfl, Or.inl wd_39⟩
theorem i_G_fromAt_16 : decode m_G_fromAt.2.1 16 = .ok (.iload_n 1, 1) := by decide +kernel
theorem i_G_fromAt_17 : decode m_G_fromAt.2.1 17 = .ok (.iaload, 1) := by decide +kernel
theorem i_G_fromAt_18 : decode m_G_fromAt.2.1 18 = .ok (.goto 4, 3) := by decide +kernel
theorem i_G_fromAt_21 : decode m_G_fromAt.2.1 21 = .ok (.iconst 0, 1) := by decide +kernel
theorem i_G_fromAt_22 : decode m_G_fromAt.2.1 22 = .ok (.ireturn, 1) := by decide +kernel
theorem i_G_toAt_0 : decode m_G_toAt.2.1 0 = .ok (.iload_n 1, 1) := by decide +kernel
theorem i_G_toAt_1 : decode m_G_toAt.2.1 1 = .ok (.ifCond .lt 20, 3) := by decide +kernel
theorem i_G_toAt_4 : decode m_G_toAt.2.1 4 = .ok (.iload_n 1, 1) := by decide +kernel
theorem i_G_toAt_5 : decode m_G_toAt.2.1 5 = .ok (.aload_n 0, 1) := by decide +kernel
theorem i_G_toAt_6 : qGet m_G_toAt 6 1 8 := ⟨38, _, by decide +kernel, rfl, by decide, rfl, Or.inl wd_51⟩
theorem i_G_toAt_9 : decode m_G_toAt.2.1 9 = .ok (.if_icmp .ge 12, 3) := by decide +kernel
theorem i_G_toAt_12 : decode m_G_toAt.2.1 12 = .ok (.aload_n 0, 1) := by decide +kernel
theorem i_G_toAt_13 : qGet m_G_toAt 13 1 3 := ⟨22, _, by decide +kernel, rfl, by decide, rfl, Or.inl wd_40⟩
theorem i_G_toAt_16 : decode m_G_toAt.2.1 16 = .ok (.iload_n 1, 1) := by decide +kernel
theorem i_G_toAt_17 : decode m_G_toAt.2.1 17 = .ok (.iaload, 1) := by decide +kernel
theorem i_G_toAt_18 : decode m_G_toAt.2.1 18 = .ok (.goto 4, 3) := by decide +kernel
theorem i_G_toAt_21 : decode m_G_toAt.2.1 21 = .ok (.iconst (-1), 1) := by decide +kernel
theorem i_G_toAt_22 : decode m_G_toAt.2.1 22 = .ok (.ireturn, 1) := by decide +kernel
theorem i_G_whatAt_0 : decode m_G_whatAt.2.1 0 = .ok (.iload_n 1, 1) := by decide +kernel
theorem i_G_whatAt_1 : decode m_G_whatAt.2.1 1 = .ok (.ifCond .lt 20, 3) := by decide +kernel
theorem i_G_whatAt_4 : decode m_G_whatAt.2.1 4 = .ok (.iload_n 1, 1) := by decide +kernel
theorem i_G_whatAt_5 : decode m_G_whatAt.2.1 5 = .ok (.aload_n 0, 1) := by decide +kernel
theorem i_G_whatAt_6 : qGet m_G_whatAt 6 1 8 := ⟨38, _, by decide +kernel, rfl, by decide, rfl, Or.inl wd_51⟩
theorem i_G_whatAt_9 : decode m_G_whatAt.2.1 9 = .ok (.if_icmp .ge 12, 3) := by decide +kernel
theorem i_G_whatAt_12 : decode m_G_whatAt.2.1 12 = .ok (.aload_n 0, 1) := by decide +kernel
theorem i_G_whatAt_13 : qGet m_G_whatAt 13 1 4 := ⟨25, _, by decide +kernel, rfl, by decide, rfl, Or.inl wd_41⟩
theorem i_G_whatAt_16 : decode m_G_whatAt.2.1 16 = .ok (.iload_n 1, 1) := by decide +kernel
theorem i_G_whatAt_17 : decode m_G_whatAt.2.1 17 = .ok (.laload, 1) := by decide +kernel
theorem i_G_whatAt_18 : decode m_G_whatAt.2.1 18 = .ok (.goto 4, 3) := by decide +kernel
theorem i_G_whatAt_21 : decode m_G_whatAt.2.1 21 = .ok (.lconst 0, 1) := by decide +kernel
theorem i_G_whatAt_22 : decode m_G_whatAt.2.1 22 = .ok (.lreturn, 1) := by decide +kernel
theorem i_G_hasRoomFor_0 : decode m_G_hasRoomFor.2.1 0 = .ok (.aload_n 0, 1) := by decide +kernel
theorem i_G_hasRoomFor_1 : qGet m_G_hasRoomFor 1 1 8 := ⟨38, _, by decide +kernel, rfl, by decide, rfl, Or.inl wd_51⟩
theorem i_G_hasRoomFor_4 : decode m_G_hasRoomFor.2.1 4 = .ok (.iload_n 1, 1) := by decide +kernel
theorem i_G_hasRoomFor_5 : decode m_G_hasRoomFor.2.1 5 = .ok (.iadd, 1) := by decide +kernel
theorem i_G_hasRoomFor_6 : decode m_G_hasRoomFor.2.1 6 = .ok (.bipush 16, 2) := by decide +kernel
theorem i_G_hasRoomFor_8 : decode m_G_hasRoomFor.2.1 8 = .ok (.if_icmp .gt 7, 3) := by decide +kernel
theorem i_G_hasRoomFor_11 : decode m_G_hasRoomFor.2.1 11 = .ok (.iconst 1, 1) := by decide +kernel
theorem i_G_hasRoomFor_12 : decode m_G_hasRoomFor.2.1 12 = .ok (.goto 4, 3) := by decide +kernel
theorem i_G_hasRoomFor_15 : decode m_G_hasRoomFor.2.1 15 = .ok (.iconst 0, 1) := by decide +kernel
theorem i_G_hasRoomFor_16 : decode m_G_hasRoomFor.2.1 16 = .ok (.ireturn, 1) := by decide +kernel
theorem i_G_take_0 : decode m_G_take.2.1 0 = .ok (.iload_n 2, 1) := by decide +kernel
theorem i_G_take_1 : decode m_G_take.2.1 1 = .ok (.istore 5, 2) := by decide +kernel
theorem i_G_take_3 : decode m_G_take.2.1 3 = .ok (.iload 5, 2) := by decide +kernel
theorem i_G_take_5 : decode m_G_take.2.1 5 = .ok (.ifCond .lt 96, 3) := by decide +kernel
theorem i_G_take_8 : decode m_G_take.2.1 8 = .ok (.iload 5, 2) := by decide +kernel
theorem i_G_take_10 : decode m_G_take.2.1 10 = .ok (.iload_n 3, 1) := by decide +kernel
theorem i_G_take_11 : decode m_G_take.2.1 11 = .ok (.if_icmp .ge 90, 3) := by decide +kernel
theorem i_G_take_14 : decode m_G_take.2.1 14 = .ok (.iload 5, 2) := by decide +kernel
theorem i_G_take_16 : decode m_G_take.2.1 16 = .ok (.aload_n 1, 1) := by decide +kernel
theorem i_G_take_17 : qGet m_G_take 17 2 2 := ⟨45, _, by decide +kernel, rfl, by decide, rfl, Or.inr ⟨"PastTree", wd_92⟩⟩
theorem i_G_take_20 : decode m_G_take.2.1 20 = .ok (.if_icmp .ge 81, 3) := by decide +kernel
theorem i_G_take_23 : decode m_G_take.2.1 23 = .ok (.aload_n 0, 1) := by decide +kernel
theorem i_G_take_24 : qGet m_G_take 24 1 8 := ⟨38, _, by decide +kernel, rfl, by decide, rfl, Or.inl wd_51⟩
theorem i_G_take_27 : decode m_G_take.2.1 27 = .ok (.bipush 16, 2) := by decide +kernel
theorem i_G_take_29 : decode m_G_take.2.1 29 = .ok (.if_icmp .ge 72, 3) := by decide +kernel
theorem i_G_take_32 : decode m_G_take.2.1 32 = .ok (.aload_n 0, 1) := by decide +kernel
theorem i_G_take_33 : qGet m_G_take 33 1 1 := ⟨15, _, by decide +kernel, rfl, by decide, rfl, Or.inl wd_38⟩
theorem i_G_take_36 : decode m_G_take.2.1 36 = .ok (.aload_n 0, 1) := by decide +kernel
theorem i_G_take_37 : qGet m_G_take 37 1 8 := ⟨38, _, by decide +kernel, rfl, by decide, rfl, Or.inl wd_51⟩
theorem i_G_take_40 : decode m_G_take.2.1 40 = .ok (.aload_n 1, 1) := by decide +kernel
theorem i_G_take_41 : qGet m_G_take 41 2 0 := ⟨48, _, by decide +kernel, rfl, by decide, rfl, Or.inr ⟨"PastTree", wd_86⟩⟩
theorem i_G_take_44 : decode m_G_take.2.1 44 = .ok (.iload 5, 2) := by decide +kernel
theorem i_G_take_46 : decode m_G_take.2.1 46 = .ok (.iaload, 1) := by decide +kernel
theorem i_G_take_47 : decode m_G_take.2.1 47 = .ok (.iastore, 1) := by decide +kernel
theorem i_G_take_48 : decode m_G_take.2.1 48 = .ok (.aload_n 0, 1) := by decide +kernel
theorem i_G_take_49 : qGet m_G_take 49 1 2 := ⟨19, _, by decide +kernel, rfl, by decide, rfl, Or.inl wd_39⟩
theorem i_G_take_52 : decode m_G_take.2.1 52 = .ok (.aload_n 0, 1) := by decide +kernel
theorem i_G_take_53 : qGet m_G_take 53 1 8 := ⟨38, _, by decide +kernel, rfl, by decide, rfl, Or.inl wd_51⟩
theorem i_G_take_56 : decode m_G_take.2.1 56 = .ok (.iload 4, 2) := by decide +kernel
theorem i_G_take_58 : decode m_G_take.2.1 58 = .ok (.iastore, 1) := by decide +kernel
theorem i_G_take_59 : decode m_G_take.2.1 59 = .ok (.aload_n 0, 1) := by decide +kernel
theorem i_G_take_60 : qGet m_G_take 60 1 3 := ⟨22, _, by decide +kernel, rfl, by decide, rfl, Or.inl wd_40⟩
theorem i_G_take_63 : decode m_G_take.2.1 63 = .ok (.aload_n 0, 1) := by decide +kernel
theorem i_G_take_64 : qGet m_G_take 64 1 8 := ⟨38, _, by decide +kernel, rfl, by decide, rfl, Or.inl wd_51⟩
theorem i_G_take_67 : decode m_G_take.2.1 67 = .ok (.iconst (-1), 1) := by decide +kernel
theorem i_G_take_68 : decode m_G_take.2.1 68 = .ok (.iastore, 1) := by decide +kernel
theorem i_G_take_69 : decode m_G_take.2.1 69 = .ok (.aload_n 0, 1) := by decide +kernel
theorem i_G_take_70 : qGet m_G_take 70 1 4 := ⟨25, _, by decide +kernel, rfl, by decide, rfl, Or.inl wd_41⟩
theorem i_G_take_73 : decode m_G_take.2.1 73 = .ok (.aload_n 0, 1) := by decide +kernel
theorem i_G_take_74 : qGet m_G_take 74 1 8 := ⟨38, _, by decide +kernel, rfl, by decide, rfl, Or.inl wd_51⟩
theorem i_G_take_77 : decode m_G_take.2.1 77 = .ok (.aload_n 1, 1) := by decide +kernel
theorem i_G_take_78 : qGet m_G_take 78 2 1 := ⟨49, _, by decide +kernel, rfl, by decide, rfl, Or.inr ⟨"PastTree", wd_88⟩⟩
theorem i_G_take_81 : decode m_G_take.2.1 81 = .ok (.iload 5, 2) := by decide +kernel
theorem i_G_take_83 : decode m_G_take.2.1 83 = .ok (.laload, 1) := by decide +kernel
theorem i_G_take_84 : decode m_G_take.2.1 84 = .ok (.lastore, 1) := by decide +kernel
theorem i_G_take_85 : decode m_G_take.2.1 85 = .ok (.aload_n 0, 1) := by decide +kernel
theorem i_G_take_86 : decode m_G_take.2.1 86 = .ok (.dup, 1) := by decide +kernel
theorem i_G_take_87 : qGet m_G_take 87 1 8 := ⟨38, _, by decide +kernel, rfl, by decide, rfl, Or.inl wd_51⟩
theorem i_G_take_90 : decode m_G_take.2.1 90 = .ok (.iconst 1, 1) := by decide +kernel
theorem i_G_take_91 : decode m_G_take.2.1 91 = .ok (.iadd, 1) := by decide +kernel
theorem i_G_take_92 : qPut m_G_take 92 1 8 := ⟨38, _, by decide +kernel, rfl, by decide, rfl, Or.inl rfl, Or.inl wd_51⟩
theorem i_G_take_95 : decode m_G_take.2.1 95 = .ok (.iinc 5 1, 3) := by decide +kernel
theorem i_G_take_98 : decode m_G_take.2.1 98 = .ok (.goto (-95), 3) := by decide +kernel
theorem i_G_take_101 : decode m_G_take.2.1 101 = .ok (.return_, 1) := by decide +kernel
theorem i_G_end_0 : decode m_G_end.2.1 0 = .ok (.iload_n 1, 1) := by decide +kernel
theorem i_G_end_1 : decode m_G_end.2.1 1 = .ok (.ifCond .lt 18, 3) := by decide +kernel
theorem i_G_end_4 : decode m_G_end.2.1 4 = .ok (.iload_n 1, 1) := by decide +kernel
theorem i_G_end_5 : decode m_G_end.2.1 5 = .ok (.aload_n 0, 1) := by decide +kernel
theorem i_G_end_6 : qGet m_G_end 6 1 8 := ⟨38, _, by decide +kernel, rfl, by decide, rfl, Or.inl wd_51⟩
theorem i_G_end_9 : decode m_G_end.2.1 9 = .ok (.if_icmp .ge 10, 3) := by decide +kernel
theorem i_G_end_12 : decode m_G_end.2.1 12 = .ok (.aload_n 0, 1) := by decide +kernel
theorem i_G_end_13 : qGet m_G_end 13 1 3 := ⟨22, _, by decide +kernel, rfl, by decide, rfl, Or.inl wd_40⟩
theorem i_G_end_16 : decode m_G_end.2.1 16 = .ok (.iload_n 1, 1) := by decide +kernel
theorem i_G_end_17 : decode m_G_end.2.1 17 = .ok (.iload_n 2, 1) := by decide +kernel
theorem i_G_end_18 : decode m_G_end.2.1 18 = .ok (.iastore, 1) := by decide +kernel
theorem i_G_end_19 : decode m_G_end.2.1 19 = .ok (.return_, 1) := by decide +kernel
theorem i_G_atOrBelow_0 : decode m_G_atOrBelow.2.1 0 = .ok (.iconst (-1), 1) := by decide +kernel
theorem i_G_atOrBelow_1 : decode m_G_atOrBelow.2.1 1 = .ok (.istore 4, 2) := by decide +kernel
theorem i_G_atOrBelow_3 : decode m_G_atOrBelow.2.1 3 = .ok (.iconst 0, 1) := by decide +kernel
theorem i_G_atOrBelow_4 : decode m_G_atOrBelow.2.1 4 = .ok (.istore 5, 2) := by decide +kernel
theorem i_G_atOrBelow_6 : decode m_G_atOrBelow.2.1 6 = .ok (.iload 5, 2) := by decide +kernel
theorem i_G_atOrBelow_8 : decode m_G_atOrBelow.2.1 8 = .ok (.aload_n 0, 1) := by decide +kernel
theorem i_G_atOrBelow_9 : qGet m_G_atOrBelow 9 1 8 := ⟨38, _, by decide +kernel, rfl, by decide, rfl, Or.inl wd_51⟩
theorem i_G_atOrBelow_12 : decode m_G_atOrBelow.2.1 12 = .ok (.if_icmp .ge 59, 3) := by decide +kernel
theorem i_G_atOrBelow_15 : decode m_G_atOrBelow.2.1 15 = .ok (.aload_n 0, 1) := by decide +kernel
theorem i_G_atOrBelow_16 : decode m_G_atOrBelow.2.1 16 = .ok (.iload 5, 2) := by decide +kernel
theorem i_G_atOrBelow_18 : decode m_G_atOrBelow.2.1 18 = .ok (.iload_n 3, 1) := by decide +kernel
theorem i_G_atOrBelow_19 : qInv m_G_atOrBelow 19 m_G_livesAt 1 2 := ⟨41, _, by decide +kernel, rfl, rfl, wd_304, wd_305, wd_306, by decide +kernel⟩
theorem i_G_atOrBelow_22 : decode m_G_atOrBelow.2.1 22 = .ok (.ifCond .eq 43, 3) := by decide +kernel
theorem i_G_atOrBelow_25 : decode m_G_atOrBelow.2.1 25 = .ok (.aload_n 0, 1) := by decide +kernel
theorem i_G_atOrBelow_26 : qGet m_G_atOrBelow 26 1 1 := ⟨15, _, by decide +kernel, rfl, by decide, rfl, Or.inl wd_38⟩
theorem i_G_atOrBelow_29 : decode m_G_atOrBelow.2.1 29 = .ok (.iload 5, 2) := by decide +kernel
theorem i_G_atOrBelow_31 : decode m_G_atOrBelow.2.1 31 = .ok (.iaload, 1) := by decide +kernel
theorem i_G_atOrBelow_32 : decode m_G_atOrBelow.2.1 32 = .ok (.i2l, 1) := by decide +kernel
theorem i_G_atOrBelow_33 : decode m_G_atOrBelow.2.1 33 = .ok (.lload_n 1, 1) := by decide +kernel
theorem i_G_atOrBelow_34 : decode m_G_atOrBelow.2.1 34 = .ok (.lcmp, 1) := by decide +kernel
theorem i_G_atOrBelow_35 : decode m_G_atOrBelow.2.1 35 = .ok (.ifCond .gt 30, 3) := by decide +kernel
theorem i_G_atOrBelow_38 : decode m_G_atOrBelow.2.1 38 = .ok (.iload 4, 2) := by decide +kernel
theorem i_G_atOrBelow_40 : decode m_G_atOrBelow.2.1 40 = .ok (.iconst (-1), 1) := by decide +kernel
theorem i_G_atOrBelow_41 : decode m_G_atOrBelow.2.1 41 = .ok (.if_icmp .eq 20, 3) := by decide +kernel
theorem i_G_atOrBelow_44 : decode m_G_atOrBelow.2.1 44 = .ok (.aload_n 0, 1) := by decide +kernel
theorem i_G_atOrBelow_45 : qGet m_G_atOrBelow 45 1 1 := ⟨15, _, by decide +kernel, rfl, by decide, rfl, Or.inl wd_38⟩
theorem i_G_atOrBelow_48 : decode m_G_atOrBelow.2.1 48 = .ok (.iload 5, 2) := by decide +kernel
theorem i_G_atOrBelow_50 : decode m_G_atOrBelow.2.1 50 = .ok (.iaload, 1) := by decide +kernel
theorem i_G_atOrBelow_51 : decode m_G_atOrBelow.2.1 51 = .ok (.aload_n 0, 1) := by decide +kernel
theorem i_G_atOrBelow_52 : qGet m_G_atOrBelow 52 1 1 := ⟨15, _, by decide +kernel, rfl, by decide, rfl, Or.inl wd_38⟩
theorem i_G_atOrBelow_55 : decode m_G_atOrBelow.2.1 55 = .ok (.iload 4, 2) := by decide +kernel
theorem i_G_atOrBelow_57 : decode m_G_atOrBelow.2.1 57 = .ok (.iaload, 1) := by decide +kernel
theorem i_G_atOrBelow_58 : decode m_G_atOrBelow.2.1 58 = .ok (.if_icmp .le 7, 3) := by decide +kernel
theorem i_G_atOrBelow_61 : decode m_G_atOrBelow.2.1 61 = .ok (.iload 5, 2) := by decide +kernel
theorem i_G_atOrBelow_63 : decode m_G_atOrBelow.2.1 63 = .ok (.istore 4, 2) := by decide +kernel
theorem i_G_atOrBelow_65 : decode m_G_atOrBelow.2.1 65 = .ok (.iinc 5 1, 3) := by decide +kernel
theorem i_G_atOrBelow_68 : decode m_G_atOrBelow.2.1 68 = .ok (.goto (-62), 3) := by decide +kernel
theorem i_G_atOrBelow_71 : decode m_G_atOrBelow.2.1 71 = .ok (.iload 4, 2) := by decide +kernel
theorem i_G_atOrBelow_73 : decode m_G_atOrBelow.2.1 73 = .ok (.ireturn, 1) := by decide +kernel
theorem i_G_atOrAbove_0 : decode m_G_atOrAbove.2.1 0 = .ok (.iconst (-1), 1) := by decide +kernel
theorem i_G_atOrAbove_1 : decode m_G_atOrAbove.2.1 1 = .ok (.istore 4, 2) := by decide +kernel
theorem i_G_atOrAbove_3 : decode m_G_atOrAbove.2.1 3 = .ok (.iconst 0, 1) := by decide +kernel
theorem i_G_atOrAbove_4 : decode m_G_atOrAbove.2.1 4 = .ok (.istore 5, 2) := by decide +kernel
theorem i_G_atOrAbove_6 : decode m_G_atOrAbove.2.1 6 = .ok (.iload 5, 2) := by decide +kernel
theorem i_G_atOrAbove_8 : decode m_G_atOrAbove.2.1 8 = .ok (.aload_n 0, 1) := by decide +kernel
theorem i_G_atOrAbove_9 : qGet m_G_atOrAbove 9 1 8 := ⟨38, _, by decide +kernel, rfl, by decide, rfl, Or.inl wd_51⟩
theorem i_G_atOrAbove_12 : decode m_G_atOrAbove.2.1 12 = .ok (.if_icmp .ge 59, 3) := by decide +kernel
theorem i_G_atOrAbove_15 : decode m_G_atOrAbove.2.1 15 = .ok (.aload_n 0, 1) := by decide +kernel
theorem i_G_atOrAbove_16 : decode m_G_atOrAbove.2.1 16 = .ok (.iload 5, 2) := by decide +kernel
theorem i_G_atOrAbove_18 : decode m_G_atOrAbove.2.1 18 = .ok (.iload_n 3, 1) := by decide +kernel
theorem i_G_atOrAbove_19 : qInv m_G_atOrAbove 19 m_G_livesAt 1 2 := ⟨41, _, by decide +kernel, rfl, rfl, wd_304, wd_305, wd_306, by decide +kernel⟩
theorem i_G_atOrAbove_22 : decode m_G_atOrAbove.2.1 22 = .ok (.ifCond .eq 43, 3) := by decide +kernel
theorem i_G_atOrAbove_25 : decode m_G_atOrAbove.2.1 25 = .ok (.aload_n 0, 1) := by decide +kernel
theorem i_G_atOrAbove_26 : qGet m_G_atOrAbove 26 1 1 := ⟨15, _, by decide +kernel, rfl, by decide, rfl, Or.inl wd_38⟩
theorem i_G_atOrAbove_29 : decode m_G_atOrAbove.2.1 29 = .ok (.iload 5, 2) := by decide +kernel
theorem i_G_atOrAbove_31 : decode m_G_atOrAbove.2.1 31 = .ok (.iaload, 1) := by decide +kernel
theorem i_G_atOrAbove_32 : decode m_G_atOrAbove.2.1 32 = .ok (.i2l, 1) := by decide +kernel
theorem i_G_atOrAbove_33 : decode m_G_atOrAbove.2.1 33 = .ok (.lload_n 1, 1) := by decide +kernel
theorem i_G_atOrAbove_34 : decode m_G_atOrAbove.2.1 34 = .ok (.lcmp, 1) := by decide +kernel
theorem i_G_atOrAbove_35 : decode m_G_atOrAbove.2.1 35 = .ok (.ifCond .lt 30, 3) := by decide +kernel
theorem i_G_atOrAbove_38 : decode m_G_atOrAbove.2.1 38 = .ok (.iload 4, 2) := by decide +kernel
theorem i_G_atOrAbove_40 : decode m_G_atOrAbove.2.1 40 = .ok (.iconst (-1), 1) := by decide +kernel
theorem i_G_atOrAbove_41 : decode m_G_atOrAbove.2.1 41 = .ok (.if_icmp .eq 20, 3) := by decide +kernel
theorem i_G_atOrAbove_44 : decode m_G_atOrAbove.2.1 44 = .ok (.aload_n 0, 1) := by decide +kernel
theorem i_G_atOrAbove_45 : qGet m_G_atOrAbove 45 1 1 := ⟨15, _, by decide +kernel, rfl, by decide, rfl, Or.inl wd_38⟩
theorem i_G_atOrAbove_48 : decode m_G_atOrAbove.2.1 48 = .ok (.iload 5, 2) := by decide +kernel
theorem i_G_atOrAbove_50 : decode m_G_atOrAbove.2.1 50 = .ok (.iaload, 1) := by decide +kernel
theorem i_G_atOrAbove_51 : decode m_G_atOrAbove.2.1 51 = .ok (.aload_n 0, 1) := by decide +kernel
theorem i_G_atOrAbove_52 : qGet m_G_atOrAbove 52 1 1 := ⟨15, _, by decide +kernel, rfl, by decide, rfl, Or.inl wd_38⟩
theorem i_G_atOrAbove_55 : decode m_G_atOrAbove.2.1 55 = .ok (.iload 4, 2) := by decide +kernel
theorem i_G_atOrAbove_57 : decode m_G_atOrAbove.2.1 57 = .ok (.iaload, 1) := by decide +kernel
theorem i_G_atOrAbove_58 : decode m_G_atOrAbove.2.1 58 = .ok (.if_icmp .ge 7, 3) := by decide +kernel
theorem i_G_atOrAbove_61 : decode m_G_atOrAbove.2.1 61 = .ok (.iload 5, 2) := by decide +kernel
theorem i_G_atOrAbove_63 : decode m_G_atOrAbove.2.1 63 = .ok (.istore 4, 2) := by decide +kernel
theorem i_G_atOrAbove_65 : decode m_G_atOrAbove.2.1 65 = .ok (.iinc 5 1, 3) := by decide +kernel
theorem i_G_atOrAbove_68 : decode m_G_atOrAbove.2.1 68 = .ok (.goto (-62), 3) := by decide +kernel
theorem i_G_atOrAbove_71 : decode m_G_atOrAbove.2.1 71 = .ok (.iload 4, 2) := by decide +kernel
theorem i_G_atOrAbove_73 : decode m_G_atOrAbove.2.1 73 = .ok (.ireturn, 1) := by decide +kernel
theorem i_G_slotOf_0 : decode m_G_slotOf.2.1 0 = .ok (.aload_n 0, 1) := by decide +kernel
theorem i_G_slotOf_1 : decode m_G_slotOf.2.1 1 = .ok (.iload_n 1, 1) := by decide +kernel
theorem i_G_slotOf_2 : decode m_G_slotOf.2.1 2 = .ok (.i2l, 1) := by decide +kernel
theorem i_G_slotOf_3 : decode m_G_slotOf.2.1 3 = .ok (.iload_n 2, 1) := by decide +kernel
theorem i_G_slotOf_4 : qInv m_G_slotOf 4 m_G_atOrBelow 1 2 := ⟨50, _, by decide +kernel, rfl, rfl, wd_300, wd_301, wd_302, by decide +kernel⟩
theorem i_G_slotOf_7 : decode m_G_slotOf.2.1 7 = .ok (.istore_n 3, 1) := by decide +kernel
theorem i_G_slotOf_8 : decode m_G_slotOf.2.1 8 = .ok (.iload_n 3, 1) := by decide +kernel
theorem i_G_slotOf_9 : decode m_G_slotOf.2.1 9 = .ok (.iconst (-1), 1) := by decide +kernel
theorem i_G_slotOf_10 : decode m_G_slotOf.2.1 10 = .ok (.if_icmp .eq 16, 3) := by decide +kernel
theorem i_G_slotOf_13 : decode m_G_slotOf.2.1 13 = .ok (.aload_n 0, 1) := by decide +kernel
theorem i_G_slotOf_14 : decode m_G_slotOf.2.1 14 = .ok (.iload_n 3, 1) := by decide +kernel
theorem i_G_slotOf_15 : qInv m_G_slotOf 15 m_G_keyAt 1 1 := ⟨54, _, by decide +kernel, rfl, rfl, wd_316, wd_317, wd_318, by decide +kernel⟩
theorem i_G_slotOf_18 : decode m_G_slotOf.2.1 18 = .ok (.iload_n 1, 1) := by decide +kernel
theorem i_G_slotOf_19 : decode m_G_slotOf.2.1 19 = .ok (.if_icmp .ne 7, 3) := by decide +kernel
theorem i_G_slotOf_22 : decode m_G_slotOf.2.1 22 = .ok (.iload_n 3, 1) := by decide +kernel
theorem i_G_slotOf_23 : decode m_G_slotOf.2.1 23 = .ok (.goto 4, 3) := by decide +kernel
theorem i_G_slotOf_26 : decode m_G_slotOf.2.1 26 = .ok (.iconst (-1), 1) := by decide +kernel
theorem i_G_slotOf_27 : decode m_G_slotOf.2.1 27 = .ok (.ireturn, 1) := by decide +kernel
theorem i_G_standingFor_0 : decode m_G_standingFor.2.1 0 = .ok (.aload_n 0, 1) := by decide +kernel
theorem i_G_standingFor_1 : decode m_G_standingFor.2.1 1 = .ok (.iload_n 1, 1) := by decide +kernel
theorem i_G_standingFor_2 : decode m_G_standingFor.2.1 2 = .ok (.i2l, 1) := by decide +kernel
theorem i_G_standingFor_3 : decode m_G_standingFor.2.1 3 = .ok (.iload_n 2, 1) := by decide +kernel
theorem i_G_standingFor_4 : qInv m_G_standingFor 4 m_G_atOrBelow 1 2 := ⟨50, _, by decide +kernel, rfl, rfl, wd_300, wd_301, wd_302, by decide +kernel⟩
theorem i_G_standingFor_7 : decode m_G_standingFor.2.1 7 = .ok (.istore_n 3, 1) := by decide +kernel
theorem i_G_standingFor_8 : decode m_G_standingFor.2.1 8 = .ok (.iload_n 3, 1) := by decide +kernel
theorem i_G_standingFor_9 : decode m_G_standingFor.2.1 9 = .ok (.iconst (-1), 1) := by decide +kernel
theorem i_G_standingFor_10 : decode m_G_standingFor.2.1 10 = .ok (.if_icmp .eq 7, 3) := by decide +kernel
theorem i_G_standingFor_13 : decode m_G_standingFor.2.1 13 = .ok (.iload_n 3, 1) := by decide +kernel
theorem i_G_standingFor_14 : decode m_G_standingFor.2.1 14 = .ok (.goto 10, 3) := by decide +kernel
theorem i_G_standingFor_17 : decode m_G_standingFor.2.1 17 = .ok (.aload_n 0, 1) := by decide +kernel
theorem i_G_standingFor_18 : decode m_G_standingFor.2.1 18 = .ok (.iload_n 1, 1) := by decide +kernel
theorem i_G_standingFor_19 : decode m_G_standingFor.2.1 19 = .ok (.i2l, 1) := by decide +kernel
theorem i_G_standingFor_20 : decode m_G_standingFor.2.1 20 = .ok (.iload_n 2, 1) := by decide +kernel
theorem i_G_standingFor_21 : qInv m_G_standingFor 21 m_G_atOrAbove 1 2 := ⟨58, _, by decide +kernel, rfl, rfl, wd_308, wd_309, wd_310, by decide +kernel⟩
theorem i_G_standingFor_24 : decode m_G_standingFor.2.1 24 = .ok (.ireturn, 1) := by decide +kernel
theorem i_G_behind_0 : decode m_G_behind.2.1 0 = .ok (.aload_n 0, 1) := by decide +kernel
theorem i_G_behind_1 : decode m_G_behind.2.1 1 = .ok (.aload_n 0, 1) := by decide +kernel
theorem i_G_behind_2 : decode m_G_behind.2.1 2 = .ok (.iload_n 1, 1) := by decide +kernel
theorem i_G_behind_3 : qInv m_G_behind 3 m_G_keyAt 1 1 := ⟨54, _, by decide +kernel, rfl, rfl, wd_316, wd_317, wd_318, by decide +kernel⟩
theorem i_G_behind_6 : decode m_G_behind.2.1 6 = .ok (.i2l, 1) := by decide +kernel
theorem i_G_behind_7 : decode m_G_behind.2.1 7 = .ok (.lconst 1, 1) := by decide +kernel
theorem i_G_behind_8 : decode m_G_behind.2.1 8 = .ok (.ladd, 1) := by decide +kernel
theorem i_G_behind_9 : decode m_G_behind.2.1 9 = .ok (.iload_n 2, 1) := by decide +kernel
theorem i_G_behind_10 : qInv m_G_behind 10 m_G_atOrAbove 1 2 := ⟨58, _, by decide +kernel, rfl, rfl, wd_308, wd_309, wd_310, by decide +kernel⟩
theorem i_G_behind_13 : decode m_G_behind.2.1 13 = .ok (.ireturn, 1) := by decide +kernel
theorem i_G_neighbourOf_0 : decode m_G_neighbourOf.2.1 0 = .ok (.aload_n 0, 1) := by decide +kernel
theorem i_G_neighbourOf_1 : decode m_G_neighbourOf.2.1 1 = .ok (.aload_n 0, 1) := by decide +kernel
theorem i_G_neighbourOf_2 : decode m_G_neighbourOf.2.1 2 = .ok (.iload_n 1, 1) := by decide +kernel
theorem i_G_neighbourOf_3 : qInv m_G_neighbourOf 3 m_G_keyAt 1 1 := ⟨54, _, by decide +kernel, rfl, rfl, wd_316, wd_317, wd_318, by decide +kernel⟩
theorem i_G_neighbourOf_6 : decode m_G_neighbourOf.2.1 6 = .ok (.i2l, 1) := by decide +kernel
theorem i_G_neighbourOf_7 : decode m_G_neighbourOf.2.1 7 = .ok (.lconst 1, 1) := by decide +kernel
theorem i_G_neighbourOf_8 : decode m_G_neighbourOf.2.1 8 = .ok (.ladd, 1) := by decide +kernel
theorem i_G_neighbourOf_9 : decode m_G_neighbourOf.2.1 9 = .ok (.iload_n 2, 1) := by decide +kernel
theorem i_G_neighbourOf_10 : qInv m_G_neighbourOf 10 m_G_atOrAbove 1 2 := ⟨58, _, by decide +kernel, rfl, rfl, wd_308, wd_309, wd_310, by decide +kernel⟩
theorem i_G_neighbourOf_13 : decode m_G_neighbourOf.2.1 13 = .ok (.istore_n 3, 1) := by decide +kernel
theorem i_G_neighbourOf_14 : decode m_G_neighbourOf.2.1 14 = .ok (.iload_n 3, 1) := by decide +kernel
theorem i_G_neighbourOf_15 : decode m_G_neighbourOf.2.1 15 = .ok (.iconst (-1), 1) := by decide +kernel
theorem i_G_neighbourOf_16 : decode m_G_neighbourOf.2.1 16 = .ok (.if_icmp .eq 7, 3) := by decide +kernel
theorem i_G_neighbourOf_19 : decode m_G_neighbourOf.2.1 19 = .ok (.iload_n 3, 1) := by decide +kernel
theorem i_G_neighbourOf_20 : decode m_G_neighbourOf.2.1 20 = .ok (.goto 16, 3) := by decide +kernel
theorem i_G_neighbourOf_23 : decode m_G_neighbourOf.2.1 23 = .ok (.aload_n 0, 1) := by decide +kernel
theorem i_G_neighbourOf_24 : decode m_G_neighbourOf.2.1 24 = .ok (.aload_n 0, 1) := by decide +kernel
theorem i_G_neighbourOf_25 : decode m_G_neighbourOf.2.1 25 = .ok (.iload_n 1, 1) := by decide +kernel
theorem i_G_neighbourOf_26 : qInv m_G_neighbourOf 26 m_G_keyAt 1 1 := ⟨54, _, by decide +kernel, rfl, rfl, wd_316, wd_317, wd_318, by decide +kernel⟩
theorem i_G_neighbourOf_29 : decode m_G_neighbourOf.2.1 29 = .ok (.i2l, 1) := by decide +kernel
theorem i_G_neighbourOf_30 : decode m_G_neighbourOf.2.1 30 = .ok (.lconst 1, 1) := by decide +kernel
theorem i_G_neighbourOf_31 : decode m_G_neighbourOf.2.1 31 = .ok (.lsub, 1) := by decide +kernel
theorem i_G_neighbourOf_32 : decode m_G_neighbourOf.2.1 32 = .ok (.iload_n 2, 1) := by decide +kernel
theorem i_G_neighbourOf_33 : qInv m_G_neighbourOf 33 m_G_atOrBelow 1 2 := ⟨50, _, by decide +kernel, rfl, rfl, wd_300, wd_301, wd_302, by decide +kernel⟩
theorem i_G_neighbourOf_36 : decode m_G_neighbourOf.2.1 36 = .ok (.ireturn, 1) := by decide +kernel
theorem i_G_copyLiving_0 : decode m_G_copyLiving.2.1 0 = .ok (.iconst 0, 1) := by decide +kernel
theorem i_G_copyLiving_1 : decode m_G_copyLiving.2.1 1 = .ok (.istore 5, 2) := by decide +kernel
theorem i_G_copyLiving_3 : decode m_G_copyLiving.2.1 3 = .ok (.iload 5, 2) := by decide +kernel
theorem i_G_copyLiving_5 : decode m_G_copyLiving.2.1 5 = .ok (.aload_n 0, 1) := by decide +kernel
theorem i_G_copyLiving_6 : qGet m_G_copyLiving 6 1 8 := ⟨38, _, by decide +kernel, rfl, by decide, rfl, Or.inl wd_51⟩
theorem i_G_copyLiving_9 : decode m_G_copyLiving.2.1 9 = .ok (.if_icmp .ge 60, 3) := by decide +kernel
theorem i_G_copyLiving_12 : decode m_G_copyLiving.2.1 12 = .ok (.aload_n 0, 1) := by decide +kernel
theorem i_G_copyLiving_13 : decode m_G_copyLiving.2.1 13 = .ok (.iload 5, 2) := by decide +kernel
theorem i_G_copyLiving_15 : decode m_G_copyLiving.2.1 15 = .ok (.iload_n 1, 1) := by decide +kernel
theorem i_G_copyLiving_16 : qInv m_G_copyLiving 16 m_G_livesAt 1 2 := ⟨41, _, by decide +kernel, rfl, rfl, wd_304, wd_305, wd_306, by decide +kernel⟩
theorem i_G_copyLiving_19 : decode m_G_copyLiving.2.1 19 = .ok (.ifCond .eq 44, 3) := by decide +kernel
theorem i_G_copyLiving_22 : decode m_G_copyLiving.2.1 22 = .ok (.aload_n 0, 1) := by decide +kernel
theorem i_G_copyLiving_23 : qGet m_G_copyLiving 23 1 1 := ⟨15, _, by decide +kernel, rfl, by decide, rfl, Or.inl wd_38⟩
theorem i_G_copyLiving_26 : decode m_G_copyLiving.2.1 26 = .ok (.iload 5, 2) := by decide +kernel
theorem i_G_copyLiving_28 : decode m_G_copyLiving.2.1 28 = .ok (.iaload, 1) := by decide +kernel
theorem i_G_copyLiving_29 : decode m_G_copyLiving.2.1 29 = .ok (.iload_n 2, 1) := by decide +kernel
theorem i_G_copyLiving_30 : decode m_G_copyLiving.2.1 30 = .ok (.if_icmp .lt 33, 3) := by decide +kernel
theorem i_G_copyLiving_33 : decode m_G_copyLiving.2.1 33 = .ok (.aload_n 0, 1) := by decide +kernel
theorem i_G_copyLiving_34 : qGet m_G_copyLiving 34 1 1 := ⟨15, _, by decide +kernel, rfl, by decide, rfl, Or.inl wd_38⟩
theorem i_G_copyLiving_37 : decode m_G_copyLiving.2.1 37 = .ok (.iload 5, 2) := by decide +kernel
theorem i_G_copyLiving_39 : decode m_G_copyLiving.2.1 39 = .ok (.iaload, 1) := by decide +kernel
theorem i_G_copyLiving_40 : decode m_G_copyLiving.2.1 40 = .ok (.iload_n 3, 1) := by decide +kernel
theorem i_G_copyLiving_41 : decode m_G_copyLiving.2.1 41 = .ok (.if_icmp .gt 22, 3) := by decide +kernel
theorem i_G_copyLiving_44 : decode m_G_copyLiving.2.1 44 = .ok (.aload 4, 2) := by decide +kernel
theorem i_G_copyLiving_46 : decode m_G_copyLiving.2.1 46 = .ok (.aload_n 0, 1) := by decide +kernel
theorem i_G_copyLiving_47 : qGet m_G_copyLiving 47 1 1 := ⟨15, _, by decide +kernel, rfl, by decide, rfl, Or.inl wd_38⟩
theorem i_G_copyLiving_50 : decode m_G_copyLiving.2.1 50 = .ok (.iload 5, 2) := by decide +kernel
theorem i_G_copyLiving_52 : decode m_G_copyLiving.2.1 52 = .ok (.iaload, 1) := by decide +kernel
theorem i_G_copyLiving_53 : decode m_G_copyLiving.2.1 53 = .ok (.aload_n 0, 1) := by decide +kernel
theorem i_G_copyLiving_54 : qGet m_G_copyLiving 54 1 4 := ⟨25, _, by decide +kernel, rfl, by decide, rfl, Or.inl wd_41⟩
theorem i_G_copyLiving_57 : decode m_G_copyLiving.2.1 57 = .ok (.iload 5, 2) := by decide +kernel
theorem i_G_copyLiving_59 : decode m_G_copyLiving.2.1 59 = .ok (.laload, 1) := by decide +kernel
theorem i_G_copyLiving_60 : qInv m_G_copyLiving 60 m_R_insert 2 2 := ⟨61, _, by decide +kernel, rfl, rfl, wd_412, wd_334, wd_335, by decide +kernel⟩
theorem i_G_copyLiving_63 : decode m_G_copyLiving.2.1 63 = .ok (.iinc 5 1, 3) := by decide +kernel
theorem i_G_copyLiving_66 : decode m_G_copyLiving.2.1 66 = .ok (.goto (-63), 3) := by decide +kernel
theorem i_G_copyLiving_69 : decode m_G_copyLiving.2.1 69 = .ok (.return_, 1) := by decide +kernel
theorem i_G_isChangedSince_0 : decode m_G_isChangedSince.2.1 0 = .ok (.aload_n 0, 1) := by decide +kernel
theorem i_G_isChangedSince_1 : qGet m_G_isChangedSince 1 1 6 := ⟨35, _, by decide +kernel, rfl, by decide, rfl, Or.inl wd_45⟩
theorem i_G_isChangedSince_4 : decode m_G_isChangedSince.2.1 4 = .ok (.iload_n 1, 1) := by decide +kernel
theorem i_G_isChangedSince_5 : decode m_G_isChangedSince.2.1 5 = .ok (.if_icmp .gt 11, 3) := by decide +kernel
theorem i_G_isChangedSince_8 : decode m_G_isChangedSince.2.1 8 = .ok (.aload_n 0, 1) := by decide +kernel
theorem i_G_isChangedSince_9 : qGet m_G_isChangedSince 9 1 7 := ⟨29, _, by decide +kernel, rfl, by decide, rfl, Or.inl wd_48⟩
theorem i_G_isChangedSince_12 : decode m_G_isChangedSince.2.1 12 = .ok (.iload_n 1, 1) := by decide +kernel
theorem i_G_isChangedSince_13 : decode m_G_isChangedSince.2.1 13 = .ok (.if_icmp .le 7, 3) := by decide +kernel
theorem i_G_isChangedSince_16 : decode m_G_isChangedSince.2.1 16 = .ok (.iconst 1, 1) := by decide +kernel
theorem i_G_isChangedSince_17 : decode m_G_isChangedSince.2.1 17 = .ok (.goto 4, 3) := by decide +kernel
theorem i_G_isChangedSince_20 : decode m_G_isChangedSince.2.1 20 = .ok (.iconst 0, 1) := by decide +kernel
theorem i_G_isChangedSince_21 : decode m_G_isChangedSince.2.1 21 = .ok (.istore_n 2, 1) := by decide +kernel
theorem i_G_isChangedSince_22 : decode m_G_isChangedSince.2.1 22 = .ok (.iconst 0, 1) := by decide +kernel
theorem i_G_isChangedSince_23 : decode m_G_isChangedSince.2.1 23 = .ok (.istore_n 3, 1) := by decide +kernel
theorem i_G_isChangedSince_24 : decode m_G_isChangedSince.2.1 24 = .ok (.iload_n 3, 1) := by decide +kernel
theorem i_G_isChangedSince_25 : decode m_G_isChangedSince.2.1 25 = .ok (.aload_n 0, 1) := by decide +kernel
theorem i_G_isChangedSince_26 : qGet m_G_isChangedSince 26 1 8 := ⟨38, _, by decide +kernel, rfl, by decide, rfl, Or.inl wd_51⟩
theorem i_G_isChangedSince_29 : decode m_G_isChangedSince.2.1 29 = .ok (.if_icmp .ge 39, 3) := by decide +kernel
theorem i_G_isChangedSince_32 : decode m_G_isChangedSince.2.1 32 = .ok (.iload_n 2, 1) := by decide +kernel
theorem i_G_isChangedSince_33 : decode m_G_isChangedSince.2.1 33 = .ok (.ifCond .ne 35, 3) := by decide +kernel
theorem i_G_isChangedSince_36 : decode m_G_isChangedSince.2.1 36 = .ok (.aload_n 0, 1) := by decide +kernel
theorem i_G_isChangedSince_37 : qGet m_G_isChangedSince 37 1 2 := ⟨19, _, by decide +kernel, rfl, by decide, rfl, Or.inl wd_39⟩
theorem i_G_isChangedSince_40 : decode m_G_isChangedSince.2.1 40 = .ok (.iload_n 3, 1) := by decide +kernel
theorem i_G_isChangedSince_41 : decode m_G_isChangedSince.2.1 41 = .ok (.iaload, 1) := by decide +kernel
theorem i_G_isChangedSince_42 : decode m_G_isChangedSince.2.1 42 = .ok (.iload_n 1, 1) := by decide +kernel
theorem i_G_isChangedSince_43 : decode m_G_isChangedSince.2.1 43 = .ok (.if_icmp .gt 13, 3) := by decide +kernel
theorem i_G_isChangedSince_46 : decode m_G_isChangedSince.2.1 46 = .ok (.aload_n 0, 1) := by decide +kernel
theorem i_G_isChangedSince_47 : qGet m_G_isChangedSince 47 1 3 := ⟨22, _, by decide +kernel, rfl, by decide, rfl, Or.inl wd_40⟩
theorem i_G_isChangedSince_50 : decode m_G_isChangedSince.2.1 50 = .ok (.iload_n 3, 1) := by decide +kernel
theorem i_G_isChangedSince_51 : decode m_G_isChangedSince.2.1 51 = .ok (.iaload, 1) := by decide +kernel
theorem i_G_isChangedSince_52 : decode m_G_isChangedSince.2.1 52 = .ok (.iload_n 1, 1) := by decide +kernel
theorem i_G_isChangedSince_53 : decode m_G_isChangedSince.2.1 53 = .ok (.if_icmp .le 7, 3) := by decide +kernel
theorem i_G_isChangedSince_56 : decode m_G_isChangedSince.2.1 56 = .ok (.iconst 1, 1) := by decide +kernel
theorem i_G_isChangedSince_57 : decode m_G_isChangedSince.2.1 57 = .ok (.goto 4, 3) := by decide +kernel
theorem i_G_isChangedSince_60 : decode m_G_isChangedSince.2.1 60 = .ok (.iconst 0, 1) := by decide +kernel
theorem i_G_isChangedSince_61 : decode m_G_isChangedSince.2.1 61 = .ok (.istore_n 2, 1) := by decide +kernel
theorem i_G_isChangedSince_62 : decode m_G_isChangedSince.2.1 62 = .ok (.iinc 3 1, 3) := by decide +kernel
theorem i_G_isChangedSince_65 : decode m_G_isChangedSince.2.1 65 = .ok (.goto (-41), 3) := by decide +kernel
theorem i_G_isChangedSince_68 : decode m_G_isChangedSince.2.1 68 = .ok (.iload_n 2, 1) := by decide +kernel
theorem i_G_isChangedSince_69 : decode m_G_isChangedSince.2.1 69 = .ok (.ireturn, 1) := by decide +kernel
theorem i_G_goBackTo_0 : decode m_G_goBackTo.2.1 0 = .ok (.aload_n 0, 1) := by decide +kernel
theorem i_G_goBackTo_1 : decode m_G_goBackTo.2.1 1 = .ok (.aload_n 0, 1) := by decide +kernel
theorem i_G_goBackTo_2 : qGet m_G_goBackTo 2 1 7 := ⟨29, _, by decide +kernel, rfl, by decide, rfl, Or.inl wd_48⟩
theorem i_G_goBackTo_5 : decode m_G_goBackTo.2.1 5 = .ok (.iload_n 1, 1) := by decide +kernel
theorem i_G_goBackTo_6 : decode m_G_goBackTo.2.1 6 = .ok (.if_icmp .le 7, 3) := by decide +kernel
theorem i_G_goBackTo_9 : decode m_G_goBackTo.2.1 9 = .ok (.iconst (-1), 1) := by decide +kernel
theorem i_G_goBackTo_10 : decode m_G_goBackTo.2.1 10 = .ok (.goto 7, 3) := by decide +kernel
theorem i_G_goBackTo_13 : decode m_G_goBackTo.2.1 13 = .ok (.aload_n 0, 1) := by decide +kernel
theorem i_G_goBackTo_14 : qGet m_G_goBackTo 14 1 7 := ⟨29, _, by decide +kernel, rfl, by decide, rfl, Or.inl wd_48⟩
theorem i_G_goBackTo_17 : qPut m_G_goBackTo 17 1 7 := ⟨29, _, by decide +kernel, rfl, by decide, rfl, Or.inl rfl, Or.inl wd_48⟩
theorem i_G_goBackTo_20 : decode m_G_goBackTo.2.1 20 = .ok (.aload_n 0, 1) := by decide +kernel
theorem i_G_goBackTo_21 : qGet m_G_goBackTo 21 1 8 := ⟨38, _, by decide +kernel, rfl, by decide, rfl, Or.inl wd_51⟩
theorem i_G_goBackTo_24 : decode m_G_goBackTo.2.1 24 = .ok (.ifCond .le 31, 3) := by decide +kernel
theorem i_G_goBackTo_27 : decode m_G_goBackTo.2.1 27 = .ok (.aload_n 0, 1) := by decide +kernel
theorem i_G_goBackTo_28 : qGet m_G_goBackTo 28 1 2 := ⟨19, _, by decide +kernel, rfl, by decide, rfl, Or.inl wd_39⟩
theorem i_G_goBackTo_31 : decode m_G_goBackTo.2.1 31 = .ok (.aload_n 0, 1) := by decide +kernel
theorem i_G_goBackTo_32 : qGet m_G_goBackTo 32 1 8 := ⟨38, _, by decide +kernel, rfl, by decide, rfl, Or.inl wd_51⟩
theorem i_G_goBackTo_35 : decode m_G_goBackTo.2.1 35 = .ok (.iconst 1, 1) := by decide +kernel
theorem i_G_goBackTo_36 : decode m_G_goBackTo.2.1 36 = .ok (.isub, 1) := by decide +kernel
theorem i_G_goBackTo_37 : decode m_G_goBackTo.2.1 37 = .ok (.iaload, 1) := by decide +kernel
theorem i_G_goBackTo_38 : decode m_G_goBackTo.2.1 38 = .ok (.iload_n 1, 1) := by decide +kernel
theorem i_G_goBackTo_39 : decode m_G_goBackTo.2.1 39 = .ok (.if_icmp .le 16, 3) := by decide +kernel
theorem i_G_goBackTo_42 : decode m_G_goBackTo.2.1 42 = .ok (.aload_n 0, 1) := by decide +kernel
theorem i_G_goBackTo_43 : decode m_G_goBackTo.2.1 43 = .ok (.dup, 1) := by decide +kernel
theorem i_G_goBackTo_44 : qGet m_G_goBackTo 44 1 8 := ⟨38, _, by decide +kernel, rfl, by decide, rfl, Or.inl wd_51⟩
theorem i_G_goBackTo_47 : decode m_G_goBackTo.2.1 47 = .ok (.iconst 1, 1) := by decide +kernel
theorem i_G_goBackTo_48 : decode m_G_goBackTo.2.1 48 = .ok (.isub, 1) := by decide +kernel
theorem i_G_goBackTo_49 : qPut m_G_goBackTo 49 1 8 := ⟨38, _, by decide +kernel, rfl, by decide, rfl, Or.inl rfl, Or.inl wd_51⟩
theorem i_G_goBackTo_52 : decode m_G_goBackTo.2.1 52 = .ok (.goto (-32), 3) := by decide +kernel
theorem i_G_goBackTo_55 : decode m_G_goBackTo.2.1 55 = .ok (.iconst 0, 1) := by decide +kernel
theorem i_G_goBackTo_56 : decode m_G_goBackTo.2.1 56 = .ok (.istore_n 2, 1) := by decide +kernel
theorem i_G_goBackTo_57 : decode m_G_goBackTo.2.1 57 = .ok (.iload_n 2, 1) := by decide +kernel
theorem i_G_goBackTo_58 : decode m_G_goBackTo.2.1 58 = .ok (.aload_n 0, 1) := by decide +kernel
theorem i_G_goBackTo_59 : qGet m_G_goBackTo 59 1 8 := ⟨38, _, by decide +kernel, rfl, by decide, rfl, Or.inl wd_51⟩
theorem i_G_goBackTo_62 : decode m_G_goBackTo.2.1 62 = .ok (.if_icmp .ge 35, 3) := by decide +kernel
theorem i_G_goBackTo_65 : decode m_G_goBackTo.2.1 65 = .ok (.aload_n 0, 1) := by decide +kernel
theorem i_G_goBackTo_66 : qGet m_G_goBackTo 66 1 3 := ⟨22, _, by decide +kernel, rfl, by decide, rfl, Or.inl wd_40⟩
theorem i_G_goBackTo_69 : decode m_G_goBackTo.2.1 69 = .ok (.iload_n 2, 1) := by decide +kernel
theorem i_G_goBackTo_70 : decode m_G_goBackTo.2.1 70 = .ok (.aload_n 0, 1) := by decide +kernel
theorem i_G_goBackTo_71 : qGet m_G_goBackTo 71 1 3 := ⟨22, _, by decide +kernel, rfl, by decide, rfl, Or.inl wd_40⟩
theorem i_G_goBackTo_74 : decode m_G_goBackTo.2.1 74 = .ok (.iload_n 2, 1) := by decide +kernel
theorem i_G_goBackTo_75 : decode m_G_goBackTo.2.1 75 = .ok (.iaload, 1) := by decide +kernel
theorem i_G_goBackTo_76 : decode m_G_goBackTo.2.1 76 = .ok (.iload_n 1, 1) := by decide +kernel
theorem i_G_goBackTo_77 : decode m_G_goBackTo.2.1 77 = .ok (.if_icmp .le 7, 3) := by decide +kernel
theorem i_G_goBackTo_80 : decode m_G_goBackTo.2.1 80 = .ok (.iconst (-1), 1) := by decide +kernel
theorem i_G_goBackTo_81 : decode m_G_goBackTo.2.1 81 = .ok (.goto 9, 3) := by decide +kernel
theorem i_G_goBackTo_84 : decode m_G_goBackTo.2.1 84 = .ok (.aload_n 0, 1) := by decide +kernel
theorem i_G_goBackTo_85 : qGet m_G_goBackTo 85 1 3 := ⟨22, _, by decide +kernel, rfl, by decide, rfl, Or.inl wd_40⟩
theorem i_G_goBackTo_88 : decode m_G_goBackTo.2.1 88 = .ok (.iload_n 2, 1) := by decide +kernel
theorem i_G_goBackTo_89 : decode m_G_goBackTo.2.1 89 = .ok (.iaload, 1) := by decide +kernel
theorem i_G_goBackTo_90 : decode m_G_goBackTo.2.1 90 = .ok (.iastore, 1) := by decide +kernel
theorem i_G_goBackTo_91 : decode m_G_goBackTo.2.1 91 = .ok (.iinc 2 1, 3) := by decide +kernel
theorem i_G_goBackTo_94 : decode m_G_goBackTo.2.1 94 = .ok (.goto (-37), 3) := by decide +kernel
theorem i_G_goBackTo_97 : decode m_G_goBackTo.2.1 97 = .ok (.return_, 1) := by decide +kernel
