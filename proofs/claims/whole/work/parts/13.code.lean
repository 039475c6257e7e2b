theorem i_T_init_0 : decode m_T_init.2.1 0 = .ok (.aload_n 0, 1) := by decide +kernel
theorem i_T_init_1 : qObj m_T_init 1 := ⟨3, by decide +kernel, wd_29⟩
theorem i_T_init_4 : decode m_T_init.2.1 4 = .ok (.aload_n 0, 1) := by decide +kernel
theorem i_T_init_5 : qNew m_T_init 5 1 := ⟨9, _, by decide +kernel, rfl, wd_30, wd_31, wd_3⟩
theorem i_T_init_8 : decode m_T_init.2.1 8 = .ok (.dup, 1) := by decide +kernel
theorem i_T_init_9 : decode m_T_init.2.1 9 = .ok (.iconst 0, 1) := by decide +kernel
theorem i_T_init_10 : qInvI m_T_init 10 m_G_init 1 := ⟨11, by decide +kernel, rfl, rfl, rfl, wd_32, wd_33, by decide +kernel⟩
theorem i_T_init_13 : qPut m_T_init 13 3 0 := ⟨14, _, by decide +kernel, rfl, by decide, rfl, Or.inr ⟨rfl, rfl⟩, Or.inl wd_100⟩
theorem i_T_init_16 : decode m_T_init.2.1 16 = .ok (.aload_n 0, 1) := by decide +kernel
theorem i_T_init_17 : decode m_T_init.2.1 17 = .ok (.sipush 256, 3) := by decide +kernel
theorem i_T_init_20 : decode m_T_init.2.1 20 = .ok (.anewarray 9, 3) := by decide +kernel
theorem i_T_init_23 : qPut m_T_init 23 3 1 := ⟨20, _, by decide +kernel, rfl, by decide, rfl, Or.inr ⟨rfl, rfl⟩, Or.inl wd_101⟩
theorem i_T_init_26 : decode m_T_init.2.1 26 = .ok (.aload_n 0, 1) := by decide +kernel
theorem i_T_init_27 : qGet m_T_init 27 3 1 := ⟨20, _, by decide +kernel, rfl, by decide, rfl, Or.inl wd_101⟩
theorem i_T_init_30 : decode m_T_init.2.1 30 = .ok (.iconst 0, 1) := by decide +kernel
theorem i_T_init_31 : decode m_T_init.2.1 31 = .ok (.aload_n 0, 1) := by decide +kernel
theorem i_T_init_32 : qGet m_T_init 32 3 0 := ⟨14, _, by decide +kernel, rfl, by decide, rfl, Or.inl wd_100⟩
theorem i_T_init_35 : decode m_T_init.2.1 35 = .ok (.aastore, 1) := by decide +kernel
theorem i_T_init_36 : decode m_T_init.2.1 36 = .ok (.aload_n 0, 1) := by decide +kernel
theorem i_T_init_37 : decode m_T_init.2.1 37 = .ok (.iconst 1, 1) := by decide +kernel
theorem i_T_init_38 : qPut m_T_init 38 3 3 := ⟨24, _, by decide +kernel, rfl, by decide, rfl, Or.inl rfl, Or.inl wd_103⟩
theorem i_T_init_41 : decode m_T_init.2.1 41 = .ok (.aload_n 0, 1) := by decide +kernel
theorem i_T_init_42 : decode m_T_init.2.1 42 = .ok (.sipush 801, 3) := by decide +kernel
theorem i_T_init_45 : decode m_T_init.2.1 45 = .ok (.newarray .int, 2) := by decide +kernel
theorem i_T_init_47 : qPut m_T_init 47 3 2 := ⟨28, _, by decide +kernel, rfl, by decide, rfl, Or.inr ⟨rfl, rfl⟩, Or.inl wd_102⟩
theorem i_T_init_50 : decode m_T_init.2.1 50 = .ok (.aload_n 0, 1) := by decide +kernel
theorem i_T_init_51 : decode m_T_init.2.1 51 = .ok (.bipush 16, 2) := by decide +kernel
theorem i_T_init_53 : decode m_T_init.2.1 53 = .ok (.anewarray 9, 3) := by decide +kernel
theorem i_T_init_56 : qPut m_T_init 56 3 5 := ⟨32, _, by decide +kernel, rfl, by decide, rfl, Or.inr ⟨rfl, rfl⟩, Or.inl wd_107⟩
theorem i_T_init_59 : decode m_T_init.2.1 59 = .ok (.aload_n 0, 1) := by decide +kernel
theorem i_T_init_60 : qNew m_T_init 60 2 := ⟨35, _, by decide +kernel, rfl, wd_76, wd_77, wd_4⟩
theorem i_T_init_63 : decode m_T_init.2.1 63 = .ok (.dup, 1) := by decide +kernel
theorem i_T_init_64 : decode m_T_init.2.1 64 = .ok (.iconst 2, 1) := by decide +kernel
theorem i_T_init_65 : qInvI m_T_init 65 m_R_init 1 := ⟨37, by decide +kernel, rfl, rfl, rfl, wd_78, wd_79, by decide +kernel⟩
theorem i_T_init_68 : qPut m_T_init 68 3 9 := ⟨38, _, by decide +kernel, rfl, by decide, rfl, Or.inr ⟨rfl, rfl⟩, Or.inl wd_111⟩
theorem i_T_init_71 : decode m_T_init.2.1 71 = .ok (.aload_n 0, 1) := by decide +kernel
theorem i_T_init_72 : qNew m_T_init 72 2 := ⟨35, _, by decide +kernel, rfl, wd_76, wd_77, wd_4⟩
theorem i_T_init_75 : decode m_T_init.2.1 75 = .ok (.dup, 1) := by decide +kernel
theorem i_T_init_76 : decode m_T_init.2.1 76 = .ok (.bipush 34, 2) := by decide +kernel
theorem i_T_init_78 : qInvI m_T_init 78 m_R_init 1 := ⟨37, by decide +kernel, rfl, rfl, rfl, wd_78, wd_79, by decide +kernel⟩
theorem i_T_init_81 : qPut m_T_init 81 3 10 := ⟨42, _, by decide +kernel, rfl, by decide, rfl, Or.inr ⟨rfl, rfl⟩, Or.inl wd_112⟩
theorem i_T_init_84 : decode m_T_init.2.1 84 = .ok (.return_, 1) := by decide +kernel
theorem i_T_pageAt_0 : decode m_T_pageAt.2.1 0 = .ok (.lload_n 1, 1) := by decide +kernel
theorem i_T_pageAt_1 : decode m_T_pageAt.2.1 1 = .ok (.lconst 0, 1) := by decide +kernel
theorem i_T_pageAt_2 : decode m_T_pageAt.2.1 2 = .ok (.lcmp, 1) := by decide +kernel
theorem i_T_pageAt_3 : decode m_T_pageAt.2.1 3 = .ok (.ifCond .lt 24, 3) := by decide +kernel
theorem i_T_pageAt_6 : decode m_T_pageAt.2.1 6 = .ok (.lload_n 1, 1) := by decide +kernel
theorem i_T_pageAt_7 : decode m_T_pageAt.2.1 7 = .ok (.aload_n 0, 1) := by decide +kernel
theorem i_T_pageAt_8 : qGet m_T_pageAt 8 3 3 := ⟨24, _, by decide +kernel, rfl, by decide, rfl, Or.inl wd_103⟩
theorem i_T_pageAt_11 : decode m_T_pageAt.2.1 11 = .ok (.i2l, 1) := by decide +kernel
theorem i_T_pageAt_12 : decode m_T_pageAt.2.1 12 = .ok (.lcmp, 1) := by decide +kernel
theorem i_T_pageAt_13 : decode m_T_pageAt.2.1 13 = .ok (.ifCond .ge 14, 3) := by decide +kernel
theorem i_T_pageAt_16 : decode m_T_pageAt.2.1 16 = .ok (.lload_n 1, 1) := by decide +kernel
theorem i_T_pageAt_17 : decode m_T_pageAt.2.1 17 = .ok (.aload_n 0, 1) := by decide +kernel
theorem i_T_pageAt_18 : qGet m_T_pageAt 18 3 1 := ⟨20, _, by decide +kernel, rfl, by decide, rfl, Or.inl wd_101⟩
theorem i_T_pageAt_21 : decode m_T_pageAt.2.1 21 = .ok (.arraylength, 1) := by decide +kernel
theorem i_T_pageAt_22 : decode m_T_pageAt.2.1 22 = .ok (.i2l, 1) := by decide +kernel
theorem i_T_pageAt_23 : decode m_T_pageAt.2.1 23 = .ok (.lcmp, 1) := by decide +kernel
theorem i_T_pageAt_24 : decode m_T_pageAt.2.1 24 = .ok (.ifCond .lt 8, 3) := by decide +kernel
theorem i_T_pageAt_27 : decode m_T_pageAt.2.1 27 = .ok (.aload_n 0, 1) := by decide +kernel
theorem i_T_pageAt_28 : qGet m_T_pageAt 28 3 0 := ⟨14, _, by decide +kernel, rfl, by decide, rfl, Or.inl wd_100⟩
theorem i_T_pageAt_31 : decode m_T_pageAt.2.1 31 = .ok (.areturn, 1) := by decide +kernel
theorem i_T_pageAt_32 : decode m_T_pageAt.2.1 32 = .ok (.aload_n 0, 1) := by decide +kernel
theorem i_T_pageAt_33 : qGet m_T_pageAt 33 3 1 := ⟨20, _, by decide +kernel, rfl, by decide, rfl, Or.inl wd_101⟩
theorem i_T_pageAt_36 : decode m_T_pageAt.2.1 36 = .ok (.lload_n 1, 1) := by decide +kernel
theorem i_T_pageAt_37 : decode m_T_pageAt.2.1 37 = .ok (.l2i, 1) := by decide +kernel
theorem i_T_pageAt_38 : decode m_T_pageAt.2.1 38 = .ok (.aaload, 1) := by decide +kernel
theorem i_T_pageAt_39 : decode m_T_pageAt.2.1 39 = .ok (.astore_n 3, 1) := by decide +kernel
theorem i_T_pageAt_40 : decode m_T_pageAt.2.1 40 = .ok (.aload_n 3, 1) := by decide +kernel
theorem i_T_pageAt_41 : decode m_T_pageAt.2.1 41 = .ok (.ifnull 7, 3) := by decide +kernel
theorem i_T_pageAt_44 : decode m_T_pageAt.2.1 44 = .ok (.aload_n 3, 1) := by decide +kernel
theorem i_T_pageAt_45 : decode m_T_pageAt.2.1 45 = .ok (.goto 7, 3) := by decide +kernel
theorem i_T_pageAt_48 : decode m_T_pageAt.2.1 48 = .ok (.aload_n 0, 1) := by decide +kernel
theorem i_T_pageAt_49 : qGet m_T_pageAt 49 3 0 := ⟨14, _, by decide +kernel, rfl, by decide, rfl, Or.inl wd_100⟩
theorem i_T_pageAt_52 : decode m_T_pageAt.2.1 52 = .ok (.areturn, 1) := by decide +kernel
theorem i_T_rootOf_0 : decode m_T_rootOf.2.1 0 = .ok (.iload_n 1, 1) := by decide +kernel
theorem i_T_rootOf_1 : decode m_T_rootOf.2.1 1 = .ok (.ifCond .lt 21, 3) := by decide +kernel
theorem i_T_rootOf_4 : decode m_T_rootOf.2.1 4 = .ok (.iload_n 1, 1) := by decide +kernel
theorem i_T_rootOf_5 : decode m_T_rootOf.2.1 5 = .ok (.aload_n 0, 1) := by decide +kernel
theorem i_T_rootOf_6 : qGet m_T_rootOf 6 3 2 := ⟨28, _, by decide +kernel, rfl, by decide, rfl, Or.inl wd_102⟩
theorem i_T_rootOf_9 : decode m_T_rootOf.2.1 9 = .ok (.arraylength, 1) := by decide +kernel
theorem i_T_rootOf_10 : decode m_T_rootOf.2.1 10 = .ok (.if_icmp .ge 12, 3) := by decide +kernel
theorem i_T_rootOf_13 : decode m_T_rootOf.2.1 13 = .ok (.aload_n 0, 1) := by decide +kernel
theorem i_T_rootOf_14 : qGet m_T_rootOf 14 3 2 := ⟨28, _, by decide +kernel, rfl, by decide, rfl, Or.inl wd_102⟩
theorem i_T_rootOf_17 : decode m_T_rootOf.2.1 17 = .ok (.iload_n 1, 1) := by decide +kernel
theorem i_T_rootOf_18 : decode m_T_rootOf.2.1 18 = .ok (.iaload, 1) := by decide +kernel
theorem i_T_rootOf_19 : decode m_T_rootOf.2.1 19 = .ok (.goto 4, 3) := by decide +kernel
theorem i_T_rootOf_22 : decode m_T_rootOf.2.1 22 = .ok (.iconst 0, 1) := by decide +kernel
theorem i_T_rootOf_23 : decode m_T_rootOf.2.1 23 = .ok (.ireturn, 1) := by decide +kernel
theorem i_T_gather_0 : decode m_T_gather.2.1 0 = .ok (.aload_n 0, 1) := by decide +kernel
theorem i_T_gather_1 : decode m_T_gather.2.1 1 = .ok (.iload_n 1, 1) := by decide +kernel
theorem i_T_gather_2 : decode m_T_gather.2.1 2 = .ok (.iload_n 2, 1) := by decide +kernel
theorem i_T_gather_3 : decode m_T_gather.2.1 3 = .ok (.iload_n 3, 1) := by decide +kernel
theorem i_T_gather_4 : decode m_T_gather.2.1 4 = .ok (.ldc 45, 2) := by decide +kernel
theorem i_T_gather_4_w : qIn (Cond.constant m_T_gather.1.cls 45 2147483647) := wd_407
theorem i_T_gather_6 : decode m_T_gather.2.1 6 = .ok (.aload 4, 2) := by decide +kernel
theorem i_T_gather_8 : qInv m_T_gather 8 m_T_gatherSome 3 5 := ⟨46, _, by decide +kernel, rfl, rfl, wd_448, wd_449, wd_450, by decide +kernel⟩
theorem i_T_gather_11 : decode m_T_gather.2.1 11 = .ok (.return_, 1) := by decide +kernel
theorem i_T_gatherSome_0 : decode m_T_gatherSome.2.1 0 = .ok (.aload 5, 2) := by decide +kernel
theorem i_T_gatherSome_2 : qInv m_T_gatherSome 2 m_R_clear 2 0 := ⟨50, _, by decide +kernel, rfl, rfl, wd_329, wd_330, wd_331, by decide +kernel⟩
theorem i_T_gatherSome_5 : decode m_T_gatherSome.2.1 5 = .ok (.iload_n 2, 1) := by decide +kernel
theorem i_T_gatherSome_6 : decode m_T_gatherSome.2.1 6 = .ok (.i2l, 1) := by decide +kernel
theorem i_T_gatherSome_7 : decode m_T_gatherSome.2.1 7 = .ok (.lstore 6, 2) := by decide +kernel
theorem i_T_gatherSome_9 : decode m_T_gatherSome.2.1 9 = .ok (.iconst 0, 1) := by decide +kernel
theorem i_T_gatherSome_10 : decode m_T_gatherSome.2.1 10 = .ok (.istore 8, 2) := by decide +kernel
theorem i_T_gatherSome_12 : decode m_T_gatherSome.2.1 12 = .ok (.iload 8, 2) := by decide +kernel
theorem i_T_gatherSome_14 : decode m_T_gatherSome.2.1 14 = .ok (.sipush 256, 3) := by decide +kernel
theorem i_T_gatherSome_17 : decode m_T_gatherSome.2.1 17 = .ok (.if_icmp .ge 53, 3) := by decide +kernel
theorem i_T_gatherSome_20 : decode m_T_gatherSome.2.1 20 = .ok (.lload 6, 2) := by decide +kernel
theorem i_T_gatherSome_22 : decode m_T_gatherSome.2.1 22 = .ok (.iload_n 3, 1) := by decide +kernel
theorem i_T_gatherSome_23 : decode m_T_gatherSome.2.1 23 = .ok (.i2l, 1) := by decide +kernel
theorem i_T_gatherSome_24 : decode m_T_gatherSome.2.1 24 = .ok (.lcmp, 1) := by decide +kernel
theorem i_T_gatherSome_25 : decode m_T_gatherSome.2.1 25 = .ok (.ifCond .gt 45, 3) := by decide +kernel
theorem i_T_gatherSome_28 : decode m_T_gatherSome.2.1 28 = .ok (.aload 5, 2) := by decide +kernel
theorem i_T_gatherSome_30 : qGet m_T_gatherSome 30 2 2 := ⟨53, _, by decide +kernel, rfl, by decide, rfl, Or.inr ⟨"PastTree", wd_91⟩⟩
theorem i_T_gatherSome_33 : decode m_T_gatherSome.2.1 33 = .ok (.iload 4, 2) := by decide +kernel
theorem i_T_gatherSome_35 : decode m_T_gatherSome.2.1 35 = .ok (.if_icmp .ge 35, 3) := by decide +kernel
theorem i_T_gatherSome_38 : decode m_T_gatherSome.2.1 38 = .ok (.aload_n 0, 1) := by decide +kernel
theorem i_T_gatherSome_39 : decode m_T_gatherSome.2.1 39 = .ok (.iload_n 1, 1) := by decide +kernel
theorem i_T_gatherSome_40 : decode m_T_gatherSome.2.1 40 = .ok (.lload 6, 2) := by decide +kernel
theorem i_T_gatherSome_42 : decode m_T_gatherSome.2.1 42 = .ok (.l2i, 1) := by decide +kernel
theorem i_T_gatherSome_43 : qInv m_T_gatherSome 43 m_T_descend 3 2 := ⟨56, _, by decide +kernel, rfl, rfl, wd_287, wd_289, ws_3, by decide +kernel⟩
theorem i_T_gatherSome_46 : decode m_T_gatherSome.2.1 46 = .ok (.astore 9, 2) := by decide +kernel
theorem i_T_gatherSome_48 : decode m_T_gatherSome.2.1 48 = .ok (.aload 9, 2) := by decide +kernel
theorem i_T_gatherSome_50 : decode m_T_gatherSome.2.1 50 = .ok (.iload_n 1, 1) := by decide +kernel
theorem i_T_gatherSome_51 : decode m_T_gatherSome.2.1 51 = .ok (.iload_n 2, 1) := by decide +kernel
theorem i_T_gatherSome_52 : decode m_T_gatherSome.2.1 52 = .ok (.iload_n 3, 1) := by decide +kernel
theorem i_T_gatherSome_53 : decode m_T_gatherSome.2.1 53 = .ok (.aload 5, 2) := by decide +kernel
theorem i_T_gatherSome_55 : qInv m_T_gatherSome 55 m_G_copyLiving 1 4 := ⟨60, _, by decide +kernel, rfl, rfl, wd_408, wd_409, wd_410, by decide +kernel⟩
theorem i_T_gatherSome_58 : decode m_T_gatherSome.2.1 58 = .ok (.aload_n 0, 1) := by decide +kernel
theorem i_T_gatherSome_59 : qGet m_T_gatherSome 59 3 6 := ⟨64, _, by decide +kernel, rfl, by decide, rfl, Or.inl wd_108⟩
theorem i_T_gatherSome_62 : decode m_T_gatherSome.2.1 62 = .ok (.lstore 6, 2) := by decide +kernel
theorem i_T_gatherSome_64 : decode m_T_gatherSome.2.1 64 = .ok (.iinc 8 1, 3) := by decide +kernel
theorem i_T_gatherSome_67 : decode m_T_gatherSome.2.1 67 = .ok (.goto (-55), 3) := by decide +kernel
theorem i_T_gatherSome_70 : decode m_T_gatherSome.2.1 70 = .ok (.return_, 1) := by decide +kernel
theorem i_T_descend_0 : decode m_T_descend.2.1 0 = .ok (.aload_n 0, 1) := by decide +kernel
theorem i_T_descend_1 : decode m_T_descend.2.1 1 = .ok (.aload_n 0, 1) := by decide +kernel
theorem i_T_descend_2 : decode m_T_descend.2.1 2 = .ok (.iload_n 1, 1) := by decide +kernel
theorem i_T_descend_3 : qInv m_T_descend 3 m_T_rootOf 3 1 := ⟨68, _, by decide +kernel, rfl, rfl, wd_279, wd_280, wd_281, by decide +kernel⟩
theorem i_T_descend_6 : decode m_T_descend.2.1 6 = .ok (.i2l, 1) := by decide +kernel
theorem i_T_descend_7 : qInv m_T_descend 7 m_T_pageAt 3 1 := ⟨72, _, by decide +kernel, rfl, rfl, wd_283, wd_284, wd_285, by decide +kernel⟩
theorem i_T_descend_10 : decode m_T_descend.2.1 10 = .ok (.astore_n 3, 1) := by decide +kernel
theorem i_T_descend_11 : decode m_T_descend.2.1 11 = .ok (.aload_n 0, 1) := by decide +kernel
theorem i_T_descend_12 : decode m_T_descend.2.1 12 = .ok (.ldc2_w 76, 3) := by decide +kernel
theorem i_T_descend_12_w : qIn (Cond.constantLong m_T_descend.1.cls 76 9223372036854775807) := wd_291
theorem i_T_descend_15 : qPut m_T_descend 15 3 6 := ⟨64, _, by decide +kernel, rfl, by decide, rfl, Or.inl rfl, Or.inl wd_108⟩
theorem i_T_descend_18 : decode m_T_descend.2.1 18 = .ok (.iconst 0, 1) := by decide +kernel
theorem i_T_descend_19 : decode m_T_descend.2.1 19 = .ok (.istore 4, 2) := by decide +kernel
theorem i_T_descend_21 : decode m_T_descend.2.1 21 = .ok (.iload 4, 2) := by decide +kernel
theorem i_T_descend_23 : decode m_T_descend.2.1 23 = .ok (.bipush 16, 2) := by decide +kernel
theorem i_T_descend_25 : decode m_T_descend.2.1 25 = .ok (.if_icmp .ge 73, 3) := by decide +kernel
theorem i_T_descend_28 : decode m_T_descend.2.1 28 = .ok (.aload_n 3, 1) := by decide +kernel
theorem i_T_descend_29 : qGet m_T_descend 29 1 5 := ⟨78, _, by decide +kernel, rfl, by decide, rfl, Or.inr ⟨"PastTree", wd_43⟩⟩
theorem i_T_descend_32 : decode m_T_descend.2.1 32 = .ok (.ifCond .le 66, 3) := by decide +kernel
theorem i_T_descend_35 : decode m_T_descend.2.1 35 = .ok (.aload_n 0, 1) := by decide +kernel
theorem i_T_descend_36 : decode m_T_descend.2.1 36 = .ok (.aload_n 3, 1) := by decide +kernel
theorem i_T_descend_37 : qInv m_T_descend 37 m_T_remember 3 1 := ⟨81, _, by decide +kernel, rfl, rfl, wd_292, wd_294, ws_4, by decide +kernel⟩
theorem i_T_descend_40 : decode m_T_descend.2.1 40 = .ok (.aload_n 3, 1) := by decide +kernel
theorem i_T_descend_41 : decode m_T_descend.2.1 41 = .ok (.iload_n 2, 1) := by decide +kernel
theorem i_T_descend_42 : decode m_T_descend.2.1 42 = .ok (.iload_n 1, 1) := by decide +kernel
theorem i_T_descend_43 : qInv m_T_descend 43 m_G_standingFor 1 2 := ⟨85, _, by decide +kernel, rfl, rfl, wd_296, wd_297, wd_298, by decide +kernel⟩
theorem i_T_descend_46 : decode m_T_descend.2.1 46 = .ok (.istore 5, 2) := by decide +kernel
theorem i_T_descend_48 : decode m_T_descend.2.1 48 = .ok (.aload_n 3, 1) := by decide +kernel
theorem i_T_descend_49 : decode m_T_descend.2.1 49 = .ok (.iload 5, 2) := by decide +kernel
theorem i_T_descend_51 : decode m_T_descend.2.1 51 = .ok (.iload_n 1, 1) := by decide +kernel
theorem i_T_descend_52 : qInv m_T_descend 52 m_G_behind 1 2 := ⟨89, _, by decide +kernel, rfl, rfl, wd_312, wd_313, wd_314, by decide +kernel⟩
theorem i_T_descend_55 : decode m_T_descend.2.1 55 = .ok (.istore 6, 2) := by decide +kernel
theorem i_T_descend_57 : decode m_T_descend.2.1 57 = .ok (.aload_n 0, 1) := by decide +kernel
theorem i_T_descend_58 : decode m_T_descend.2.1 58 = .ok (.iload 6, 2) := by decide +kernel
theorem i_T_descend_60 : decode m_T_descend.2.1 60 = .ok (.iconst (-1), 1) := by decide +kernel
theorem i_T_descend_61 : decode m_T_descend.2.1 61 = .ok (.if_icmp .eq 13, 3) := by decide +kernel
theorem i_T_descend_64 : decode m_T_descend.2.1 64 = .ok (.aload_n 3, 1) := by decide +kernel
theorem i_T_descend_65 : decode m_T_descend.2.1 65 = .ok (.iload 6, 2) := by decide +kernel
theorem i_T_descend_67 : qInv m_T_descend 67 m_G_keyAt 1 1 := ⟨92, _, by decide +kernel, rfl, rfl, wd_320, wd_317, wd_318, by decide +kernel⟩
theorem i_T_descend_70 : decode m_T_descend.2.1 70 = .ok (.i2l, 1) := by decide +kernel
theorem i_T_descend_71 : decode m_T_descend.2.1 71 = .ok (.goto 7, 3) := by decide +kernel
theorem i_T_descend_74 : decode m_T_descend.2.1 74 = .ok (.aload_n 0, 1) := by decide +kernel
theorem i_T_descend_75 : qGet m_T_descend 75 3 6 := ⟨64, _, by decide +kernel, rfl, by decide, rfl, Or.inl wd_108⟩
theorem i_T_descend_78 : qPut m_T_descend 78 3 6 := ⟨64, _, by decide +kernel, rfl, by decide, rfl, Or.inl rfl, Or.inl wd_108⟩
theorem i_T_descend_81 : decode m_T_descend.2.1 81 = .ok (.aload_n 0, 1) := by decide +kernel
theorem i_T_descend_82 : decode m_T_descend.2.1 82 = .ok (.aload_n 3, 1) := by decide +kernel
theorem i_T_descend_83 : decode m_T_descend.2.1 83 = .ok (.iload 5, 2) := by decide +kernel
theorem i_T_descend_85 : qInv m_T_descend 85 m_G_whatAt 1 1 := ⟨95, _, by decide +kernel, rfl, rfl, wd_321, wd_322, wd_323, by decide +kernel⟩
theorem i_T_descend_88 : qInv m_T_descend 88 m_T_pageAt 3 1 := ⟨72, _, by decide +kernel, rfl, rfl, wd_283, wd_284, wd_285, by decide +kernel⟩
theorem i_T_descend_91 : decode m_T_descend.2.1 91 = .ok (.astore_n 3, 1) := by decide +kernel
theorem i_T_descend_92 : decode m_T_descend.2.1 92 = .ok (.iinc 4 1, 3) := by decide +kernel
theorem i_T_descend_95 : decode m_T_descend.2.1 95 = .ok (.goto (-74), 3) := by decide +kernel
theorem i_T_descend_98 : decode m_T_descend.2.1 98 = .ok (.aload_n 0, 1) := by decide +kernel
theorem i_T_descend_99 : decode m_T_descend.2.1 99 = .ok (.aload_n 3, 1) := by decide +kernel
theorem i_T_descend_100 : qInv m_T_descend 100 m_T_remember 3 1 := ⟨81, _, by decide +kernel, rfl, rfl, wd_292, wd_294, ws_4, by decide +kernel⟩
theorem i_T_descend_103 : decode m_T_descend.2.1 103 = .ok (.aload_n 3, 1) := by decide +kernel
theorem i_T_descend_104 : decode m_T_descend.2.1 104 = .ok (.areturn, 1) := by decide +kernel
theorem i_T_remember_0 : decode m_T_remember.2.1 0 = .ok (.aload_n 1, 1) := by decide +kernel
theorem i_T_remember_1 : qGet m_T_remember 1 1 5 := ⟨78, _, by decide +kernel, rfl, by decide, rfl, Or.inr ⟨"PastTree", wd_43⟩⟩
theorem i_T_remember_4 : decode m_T_remember.2.1 4 = .ok (.ifCond .lt 25, 3) := by decide +kernel
theorem i_T_remember_7 : decode m_T_remember.2.1 7 = .ok (.aload_n 1, 1) := by decide +kernel
theorem i_T_remember_8 : qGet m_T_remember 8 1 5 := ⟨78, _, by decide +kernel, rfl, by decide, rfl, Or.inr ⟨"PastTree", wd_43⟩⟩
theorem i_T_remember_11 : decode m_T_remember.2.1 11 = .ok (.aload_n 0, 1) := by decide +kernel
theorem i_T_remember_12 : qGet m_T_remember 12 3 5 := ⟨32, _, by decide +kernel, rfl, by decide, rfl, Or.inl wd_107⟩
theorem i_T_remember_15 : decode m_T_remember.2.1 15 = .ok (.arraylength, 1) := by decide +kernel
theorem i_T_remember_16 : decode m_T_remember.2.1 16 = .ok (.if_icmp .ge 13, 3) := by decide +kernel
theorem i_T_remember_19 : decode m_T_remember.2.1 19 = .ok (.aload_n 0, 1) := by decide +kernel
theorem i_T_remember_20 : qGet m_T_remember 20 3 5 := ⟨32, _, by decide +kernel, rfl, by decide, rfl, Or.inl wd_107⟩
theorem i_T_remember_23 : decode m_T_remember.2.1 23 = .ok (.aload_n 1, 1) := by decide +kernel
theorem i_T_remember_24 : qGet m_T_remember 24 1 5 := ⟨78, _, by decide +kernel, rfl, by decide, rfl, Or.inr ⟨"PastTree", wd_43⟩⟩
theorem i_T_remember_27 : decode m_T_remember.2.1 27 = .ok (.aload_n 1, 1) := by decide +kernel
theorem i_T_remember_28 : decode m_T_remember.2.1 28 = .ok (.aastore, 1) := by decide +kernel
theorem i_T_remember_29 : decode m_T_remember.2.1 29 = .ok (.return_, 1) := by decide +kernel
theorem i_T_passed_0 : decode m_T_passed.2.1 0 = .ok (.iload_n 1, 1) := by decide +kernel
theorem i_T_passed_1 : decode m_T_passed.2.1 1 = .ok (.ifCond .lt 21, 3) := by decide +kernel
theorem i_T_passed_4 : decode m_T_passed.2.1 4 = .ok (.iload_n 1, 1) := by decide +kernel
theorem i_T_passed_5 : decode m_T_passed.2.1 5 = .ok (.aload_n 0, 1) := by decide +kernel
theorem i_T_passed_6 : qGet m_T_passed 6 3 5 := ⟨32, _, by decide +kernel, rfl, by decide, rfl, Or.inl wd_107⟩
theorem i_T_passed_9 : decode m_T_passed.2.1 9 = .ok (.arraylength, 1) := by decide +kernel
theorem i_T_passed_10 : decode m_T_passed.2.1 10 = .ok (.if_icmp .ge 12, 3) := by decide +kernel
theorem i_T_passed_13 : decode m_T_passed.2.1 13 = .ok (.aload_n 0, 1) := by decide +kernel
theorem i_T_passed_14 : qGet m_T_passed 14 3 5 := ⟨32, _, by decide +kernel, rfl, by decide, rfl, Or.inl wd_107⟩
theorem i_T_passed_17 : decode m_T_passed.2.1 17 = .ok (.iload_n 1, 1) := by decide +kernel
theorem i_T_passed_18 : decode m_T_passed.2.1 18 = .ok (.aaload, 1) := by decide +kernel
theorem i_T_passed_19 : decode m_T_passed.2.1 19 = .ok (.goto 4, 3) := by decide +kernel
theorem i_T_passed_22 : decode m_T_passed.2.1 22 = .ok (.aconst_null, 1) := by decide +kernel
theorem i_T_passed_23 : decode m_T_passed.2.1 23 = .ok (.astore_n 2, 1) := by decide +kernel
theorem i_T_passed_24 : decode m_T_passed.2.1 24 = .ok (.aload_n 2, 1) := by decide +kernel
theorem i_T_passed_25 : decode m_T_passed.2.1 25 = .ok (.ifnull 7, 3) := by decide +kernel
theorem i_T_passed_28 : decode m_T_passed.2.1 28 = .ok (.aload_n 2, 1) := by decide +kernel
theorem i_T_passed_29 : decode m_T_passed.2.1 29 = .ok (.goto 7, 3) := by decide +kernel
theorem i_T_passed_32 : decode m_T_passed.2.1 32 = .ok (.aload_n 0, 1) := by decide +kernel
theorem i_T_passed_33 : qGet m_T_passed 33 3 0 := ⟨14, _, by decide +kernel, rfl, by decide, rfl, Or.inl wd_100⟩
theorem i_T_passed_36 : decode m_T_passed.2.1 36 = .ok (.areturn, 1) := by decide +kernel
theorem i_T_isRefused_0 : decode m_T_isRefused.2.1 0 = .ok (.aload_n 0, 1) := by decide +kernel
theorem i_T_isRefused_1 : decode m_T_isRefused.2.1 1 = .ok (.aload_n 0, 1) := by decide +kernel
theorem i_T_isRefused_2 : decode m_T_isRefused.2.1 2 = .ok (.aload_n 0, 1) := by decide +kernel
theorem i_T_isRefused_3 : qGet m_T_isRefused 3 3 4 := ⟨99, _, by decide +kernel, rfl, by decide, rfl, Or.inl wd_106⟩
theorem i_T_isRefused_6 : qInv m_T_isRefused 6 m_T_rootOf 3 1 := ⟨68, _, by decide +kernel, rfl, rfl, wd_279, wd_280, wd_281, by decide +kernel⟩
theorem i_T_isRefused_9 : decode m_T_isRefused.2.1 9 = .ok (.i2l, 1) := by decide +kernel
theorem i_T_isRefused_10 : qInv m_T_isRefused 10 m_T_pageAt 3 1 := ⟨72, _, by decide +kernel, rfl, rfl, wd_283, wd_284, wd_285, by decide +kernel⟩
theorem i_T_isRefused_13 : qGet m_T_isRefused 13 1 5 := ⟨78, _, by decide +kernel, rfl, by decide, rfl, Or.inr ⟨"PastTree", wd_43⟩⟩
theorem i_T_isRefused_16 : decode m_T_isRefused.2.1 16 = .ok (.iconst 1, 1) := by decide +kernel
theorem i_T_isRefused_17 : decode m_T_isRefused.2.1 17 = .ok (.iadd, 1) := by decide +kernel
theorem i_T_isRefused_18 : decode m_T_isRefused.2.1 18 = .ok (.istore_n 1, 1) := by decide +kernel
theorem i_T_isRefused_19 : decode m_T_isRefused.2.1 19 = .ok (.sipush 256, 3) := by decide +kernel
theorem i_T_isRefused_22 : decode m_T_isRefused.2.1 22 = .ok (.aload_n 0, 1) := by decide +kernel
theorem i_T_isRefused_23 : qGet m_T_isRefused 23 3 3 := ⟨24, _, by decide +kernel, rfl, by decide, rfl, Or.inl wd_103⟩
theorem i_T_isRefused_26 : decode m_T_isRefused.2.1 26 = .ok (.isub, 1) := by decide +kernel
theorem i_T_isRefused_27 : decode m_T_isRefused.2.1 27 = .ok (.iconst 2, 1) := by decide +kernel
theorem i_T_isRefused_28 : decode m_T_isRefused.2.1 28 = .ok (.iload_n 1, 1) := by decide +kernel
theorem i_T_isRefused_29 : decode m_T_isRefused.2.1 29 = .ok (.imul, 1) := by decide +kernel
theorem i_T_isRefused_30 : decode m_T_isRefused.2.1 30 = .ok (.iconst 1, 1) := by decide +kernel
theorem i_T_isRefused_31 : decode m_T_isRefused.2.1 31 = .ok (.iadd, 1) := by decide +kernel
theorem i_T_isRefused_32 : decode m_T_isRefused.2.1 32 = .ok (.if_icmp .lt 13, 3) := by decide +kernel
theorem i_T_isRefused_35 : decode m_T_isRefused.2.1 35 = .ok (.aload_n 0, 1) := by decide +kernel
theorem i_T_isRefused_36 : qGet m_T_isRefused 36 3 4 := ⟨99, _, by decide +kernel, rfl, by decide, rfl, Or.inl wd_106⟩
theorem i_T_isRefused_39 : decode m_T_isRefused.2.1 39 = .ok (.sipush 800, 3) := by decide +kernel
theorem i_T_isRefused_42 : decode m_T_isRefused.2.1 42 = .ok (.if_icmp .lt 7, 3) := by decide +kernel
theorem i_T_isRefused_45 : decode m_T_isRefused.2.1 45 = .ok (.iconst 1, 1) := by decide +kernel
theorem i_T_isRefused_46 : decode m_T_isRefused.2.1 46 = .ok (.goto 4, 3) := by decide +kernel
theorem i_T_isRefused_49 : decode m_T_isRefused.2.1 49 = .ok (.iconst 0, 1) := by decide +kernel
theorem i_T_isRefused_50 : decode m_T_isRefused.2.1 50 = .ok (.ireturn, 1) := by decide +kernel
theorem i_T_update_0 : decode m_T_update.2.1 0 = .ok (.aload_n 0, 1) := by decide +kernel
theorem i_T_update_1 : qInv m_T_update 1 m_T_isRefused 3 0 := ⟨102, _, by decide +kernel, rfl, rfl, wd_275, wd_277, ws_2, by decide +kernel⟩
theorem i_T_update_4 : decode m_T_update.2.1 4 = .ok (.ifCond .eq 5, 3) := by decide +kernel
theorem i_T_update_7 : decode m_T_update.2.1 7 = .ok (.iconst (-1), 1) := by decide +kernel
theorem i_T_update_8 : decode m_T_update.2.1 8 = .ok (.ireturn, 1) := by decide +kernel
theorem i_T_update_9 : decode m_T_update.2.1 9 = .ok (.aload_n 0, 1) := by decide +kernel
theorem i_T_update_10 : decode m_T_update.2.1 10 = .ok (.aload_n 0, 1) := by decide +kernel
theorem i_T_update_11 : qGet m_T_update 11 3 4 := ⟨99, _, by decide +kernel, rfl, by decide, rfl, Or.inl wd_106⟩
theorem i_T_update_14 : decode m_T_update.2.1 14 = .ok (.iload_n 1, 1) := by decide +kernel
theorem i_T_update_15 : qInv m_T_update 15 m_T_descend 3 2 := ⟨56, _, by decide +kernel, rfl, rfl, wd_287, wd_289, ws_3, by decide +kernel⟩
theorem i_T_update_18 : decode m_T_update.2.1 18 = .ok (.astore 5, 2) := by decide +kernel
theorem i_T_update_20 : decode m_T_update.2.1 20 = .ok (.aload_n 0, 1) := by decide +kernel
theorem i_T_update_21 : decode m_T_update.2.1 21 = .ok (.aload 5, 2) := by decide +kernel
theorem i_T_update_23 : decode m_T_update.2.1 23 = .ok (.iload_n 1, 1) := by decide +kernel
theorem i_T_update_24 : decode m_T_update.2.1 24 = .ok (.aload_n 0, 1) := by decide +kernel
theorem i_T_update_25 : qGet m_T_update 25 3 4 := ⟨99, _, by decide +kernel, rfl, by decide, rfl, Or.inl wd_106⟩
theorem i_T_update_28 : qInv m_T_update 28 m_G_slotOf 1 2 := ⟨106, _, by decide +kernel, rfl, rfl, wd_325, wd_326, wd_327, by decide +kernel⟩
theorem i_T_update_31 : qPut m_T_update 31 3 7 := ⟨109, _, by decide +kernel, rfl, by decide, rfl, Or.inl rfl, Or.inl wd_109⟩
theorem i_T_update_34 : decode m_T_update.2.1 34 = .ok (.aload_n 0, 1) := by decide +kernel
theorem i_T_update_35 : decode m_T_update.2.1 35 = .ok (.iconst (-1), 1) := by decide +kernel
theorem i_T_update_36 : qPut m_T_update 36 3 8 := ⟨112, _, by decide +kernel, rfl, by decide, rfl, Or.inl rfl, Or.inl wd_110⟩
theorem i_T_update_39 : decode m_T_update.2.1 39 = .ok (.aload_n 0, 1) := by decide +kernel
theorem i_T_update_40 : qGet m_T_update 40 3 9 := ⟨38, _, by decide +kernel, rfl, by decide, rfl, Or.inl wd_111⟩
theorem i_T_update_43 : qInv m_T_update 43 m_R_clear 2 0 := ⟨50, _, by decide +kernel, rfl, rfl, wd_329, wd_330, wd_331, by decide +kernel⟩
theorem i_T_update_46 : decode m_T_update.2.1 46 = .ok (.iload 4, 2) := by decide +kernel
theorem i_T_update_48 : decode m_T_update.2.1 48 = .ok (.ifCond .eq 12, 3) := by decide +kernel
theorem i_T_update_51 : decode m_T_update.2.1 51 = .ok (.aload_n 0, 1) := by decide +kernel
theorem i_T_update_52 : qGet m_T_update 52 3 9 := ⟨38, _, by decide +kernel, rfl, by decide, rfl, Or.inl wd_111⟩
theorem i_T_update_55 : decode m_T_update.2.1 55 = .ok (.iload_n 1, 1) := by decide +kernel
theorem i_T_update_56 : decode m_T_update.2.1 56 = .ok (.lload_n 2, 1) := by decide +kernel
theorem i_T_update_57 : qInv m_T_update 57 m_R_insert 2 2 := ⟨115, _, by decide +kernel, rfl, rfl, wd_333, wd_334, wd_335, by decide +kernel⟩
theorem i_T_update_60 : decode m_T_update.2.1 60 = .ok (.aload_n 0, 1) := by decide +kernel
theorem i_T_update_61 : qGet m_T_update 61 3 4 := ⟨99, _, by decide +kernel, rfl, by decide, rfl, Or.inl wd_106⟩
theorem i_T_update_64 : decode m_T_update.2.1 64 = .ok (.iconst 1, 1) := by decide +kernel
theorem i_T_update_65 : decode m_T_update.2.1 65 = .ok (.iadd, 1) := by decide +kernel
theorem i_T_update_66 : decode m_T_update.2.1 66 = .ok (.istore 6, 2) := by decide +kernel
theorem i_T_update_68 : decode m_T_update.2.1 68 = .ok (.aload_n 0, 1) := by decide +kernel
theorem i_T_update_69 : decode m_T_update.2.1 69 = .ok (.iload 6, 2) := by decide +kernel
theorem i_T_update_71 : decode m_T_update.2.1 71 = .ok (.aload_n 0, 1) := by decide +kernel
theorem i_T_update_72 : decode m_T_update.2.1 72 = .ok (.aload_n 0, 1) := by decide +kernel
theorem i_T_update_73 : qGet m_T_update 73 3 4 := ⟨99, _, by decide +kernel, rfl, by decide, rfl, Or.inl wd_106⟩
theorem i_T_update_76 : qInv m_T_update 76 m_T_rootOf 3 1 := ⟨68, _, by decide +kernel, rfl, rfl, wd_279, wd_280, wd_281, by decide +kernel⟩
theorem i_T_update_79 : qInv m_T_update 79 m_T_setRoot 3 2 := ⟨119, _, by decide +kernel, rfl, rfl, wd_337, wd_339, ws_5, by decide +kernel⟩
theorem i_T_update_82 : decode m_T_update.2.1 82 = .ok (.iconst 1, 1) := by decide +kernel
theorem i_T_update_83 : decode m_T_update.2.1 83 = .ok (.istore 7, 2) := by decide +kernel
theorem i_T_update_85 : decode m_T_update.2.1 85 = .ok (.iconst 0, 1) := by decide +kernel
theorem i_T_update_86 : decode m_T_update.2.1 86 = .ok (.istore 8, 2) := by decide +kernel
theorem i_T_update_88 : decode m_T_update.2.1 88 = .ok (.iload 8, 2) := by decide +kernel
theorem i_T_update_90 : decode m_T_update.2.1 90 = .ok (.bipush 16, 2) := by decide +kernel
theorem i_T_update_92 : decode m_T_update.2.1 92 = .ok (.if_icmp .ge 25, 3) := by decide +kernel
theorem i_T_update_95 : decode m_T_update.2.1 95 = .ok (.iload 7, 2) := by decide +kernel
theorem i_T_update_97 : decode m_T_update.2.1 97 = .ok (.ifCond .eq 20, 3) := by decide +kernel
theorem i_T_update_100 : decode m_T_update.2.1 100 = .ok (.aload_n 0, 1) := by decide +kernel
theorem i_T_update_101 : decode m_T_update.2.1 101 = .ok (.iload 8, 2) := by decide +kernel
theorem i_T_update_103 : decode m_T_update.2.1 103 = .ok (.iload 6, 2) := by decide +kernel
theorem i_T_update_105 : decode m_T_update.2.1 105 = .ok (.iload_n 1, 1) := by decide +kernel
theorem i_T_update_106 : qInv m_T_update 106 m_T_changePage 3 3 := ⟨123, _, by decide +kernel, rfl, rfl, wd_341, wd_343, ws_6, by decide +kernel⟩
theorem i_T_update_109 : decode m_T_update.2.1 109 = .ok (.istore 7, 2) := by decide +kernel
theorem i_T_update_111 : decode m_T_update.2.1 111 = .ok (.iinc 8 1, 3) := by decide +kernel
theorem i_T_update_114 : decode m_T_update.2.1 114 = .ok (.goto (-26), 3) := by decide +kernel
theorem i_T_update_117 : decode m_T_update.2.1 117 = .ok (.aload_n 0, 1) := by decide +kernel
theorem i_T_update_118 : decode m_T_update.2.1 118 = .ok (.iload 6, 2) := by decide +kernel
theorem i_T_update_120 : qPut m_T_update 120 3 4 := ⟨99, _, by decide +kernel, rfl, by decide, rfl, Or.inl rfl, Or.inl wd_106⟩
theorem i_T_update_123 : decode m_T_update.2.1 123 = .ok (.iload 6, 2) := by decide +kernel
theorem i_T_update_125 : decode m_T_update.2.1 125 = .ok (.ireturn, 1) := by decide +kernel
theorem i_T_setRoot_0 : decode m_T_setRoot.2.1 0 = .ok (.iload_n 1, 1) := by decide +kernel
theorem i_T_setRoot_1 : decode m_T_setRoot.2.1 1 = .ok (.ifCond .lt 19, 3) := by decide +kernel
theorem i_T_setRoot_4 : decode m_T_setRoot.2.1 4 = .ok (.iload_n 1, 1) := by decide +kernel
theorem i_T_setRoot_5 : decode m_T_setRoot.2.1 5 = .ok (.aload_n 0, 1) := by decide +kernel
theorem i_T_setRoot_6 : qGet m_T_setRoot 6 3 2 := ⟨28, _, by decide +kernel, rfl, by decide, rfl, Or.inl wd_102⟩
theorem i_T_setRoot_9 : decode m_T_setRoot.2.1 9 = .ok (.arraylength, 1) := by decide +kernel
theorem i_T_setRoot_10 : decode m_T_setRoot.2.1 10 = .ok (.if_icmp .ge 10, 3) := by decide +kernel
theorem i_T_setRoot_13 : decode m_T_setRoot.2.1 13 = .ok (.aload_n 0, 1) := by decide +kernel
theorem i_T_setRoot_14 : qGet m_T_setRoot 14 3 2 := ⟨28, _, by decide +kernel, rfl, by decide, rfl, Or.inl wd_102⟩
theorem i_T_setRoot_17 : decode m_T_setRoot.2.1 17 = .ok (.iload_n 1, 1) := by decide +kernel
theorem i_T_setRoot_18 : decode m_T_setRoot.2.1 18 = .ok (.iload_n 2, 1) := by decide +kernel
theorem i_T_setRoot_19 : decode m_T_setRoot.2.1 19 = .ok (.iastore, 1) := by decide +kernel
theorem i_T_setRoot_20 : decode m_T_setRoot.2.1 20 = .ok (.return_, 1) := by decide +kernel
theorem i_T_changePage_0 : decode m_T_changePage.2.1 0 = .ok (.aload_n 0, 1) := by decide +kernel
theorem i_T_changePage_1 : decode m_T_changePage.2.1 1 = .ok (.iload_n 1, 1) := by decide +kernel
theorem i_T_changePage_2 : qInv m_T_changePage 2 m_T_passed 3 1 := ⟨127, _, by decide +kernel, rfl, rfl, wd_345, wd_347, ws_7, by decide +kernel⟩
theorem i_T_changePage_5 : decode m_T_changePage.2.1 5 = .ok (.astore 4, 2) := by decide +kernel
theorem i_T_changePage_7 : decode m_T_changePage.2.1 7 = .ok (.aload 4, 2) := by decide +kernel
theorem i_T_changePage_9 : qGet m_T_changePage 9 1 0 := ⟨131, _, by decide +kernel, rfl, by decide, rfl, Or.inr ⟨"PastTree", wd_37⟩⟩
theorem i_T_changePage_12 : decode m_T_changePage.2.1 12 = .ok (.aload_n 0, 1) := by decide +kernel
theorem i_T_changePage_13 : decode m_T_changePage.2.1 13 = .ok (.iload_n 2, 1) := by decide +kernel
theorem i_T_changePage_14 : qInv m_T_changePage 14 m_T_rootOf 3 1 := ⟨68, _, by decide +kernel, rfl, rfl, wd_279, wd_280, wd_281, by decide +kernel⟩
theorem i_T_changePage_17 : decode m_T_changePage.2.1 17 = .ok (.if_icmp .ne 7, 3) := by decide +kernel
theorem i_T_changePage_20 : decode m_T_changePage.2.1 20 = .ok (.iconst 1, 1) := by decide +kernel
theorem i_T_changePage_21 : decode m_T_changePage.2.1 21 = .ok (.goto 4, 3) := by decide +kernel
theorem i_T_changePage_24 : decode m_T_changePage.2.1 24 = .ok (.iconst 0, 1) := by decide +kernel
theorem i_T_changePage_25 : decode m_T_changePage.2.1 25 = .ok (.istore 5, 2) := by decide +kernel
theorem i_T_changePage_27 : decode m_T_changePage.2.1 27 = .ok (.aload_n 0, 1) := by decide +kernel
theorem i_T_changePage_28 : decode m_T_changePage.2.1 28 = .ok (.aload 4, 2) := by decide +kernel
theorem i_T_changePage_30 : qInv m_T_changePage 30 m_T_listWhatStays 3 1 := ⟨134, _, by decide +kernel, rfl, rfl, wd_349, wd_351, ws_8, by decide +kernel⟩
theorem i_T_changePage_33 : decode m_T_changePage.2.1 33 = .ok (.iload 5, 2) := by decide +kernel
theorem i_T_changePage_35 : decode m_T_changePage.2.1 35 = .ok (.ifCond .eq 40, 3) := by decide +kernel
theorem i_T_changePage_38 : decode m_T_changePage.2.1 38 = .ok (.iload_n 1, 1) := by decide +kernel
theorem i_T_changePage_39 : decode m_T_changePage.2.1 39 = .ok (.ifCond .le 36, 3) := by decide +kernel
theorem i_T_changePage_42 : decode m_T_changePage.2.1 42 = .ok (.aload_n 0, 1) := by decide +kernel
theorem i_T_changePage_43 : qGet m_T_changePage 43 3 10 := ⟨42, _, by decide +kernel, rfl, by decide, rfl, Or.inl wd_112⟩
theorem i_T_changePage_46 : qGet m_T_changePage 46 2 2 := ⟨53, _, by decide +kernel, rfl, by decide, rfl, Or.inr ⟨"PastTree", wd_91⟩⟩
theorem i_T_changePage_49 : decode m_T_changePage.2.1 49 = .ok (.iconst 1, 1) := by decide +kernel
theorem i_T_changePage_50 : decode m_T_changePage.2.1 50 = .ok (.if_icmp .ne 25, 3) := by decide +kernel
theorem i_T_changePage_53 : decode m_T_changePage.2.1 53 = .ok (.aload 4, 2) := by decide +kernel
theorem i_T_changePage_55 : decode m_T_changePage.2.1 55 = .ok (.iload_n 2, 1) := by decide +kernel
theorem i_T_changePage_56 : qPut m_T_changePage 56 1 7 := ⟨137, _, by decide +kernel, rfl, by decide, rfl, Or.inl rfl, Or.inr ⟨rfl, "PastTree", wd_49⟩⟩
theorem i_T_changePage_59 : decode m_T_changePage.2.1 59 = .ok (.aload_n 0, 1) := by decide +kernel
theorem i_T_changePage_60 : decode m_T_changePage.2.1 60 = .ok (.iload_n 2, 1) := by decide +kernel
theorem i_T_changePage_61 : decode m_T_changePage.2.1 61 = .ok (.aload_n 0, 1) := by decide +kernel
theorem i_T_changePage_62 : qGet m_T_changePage 62 3 10 := ⟨42, _, by decide +kernel, rfl, by decide, rfl, Or.inl wd_112⟩
theorem i_T_changePage_65 : decode m_T_changePage.2.1 65 = .ok (.iconst 0, 1) := by decide +kernel
theorem i_T_changePage_66 : qInv m_T_changePage 66 m_R_whatAt 2 1 := ⟨140, _, by decide +kernel, rfl, rfl, wd_359, wd_360, wd_361, by decide +kernel⟩
theorem i_T_changePage_69 : decode m_T_changePage.2.1 69 = .ok (.l2i, 1) := by decide +kernel
theorem i_T_changePage_70 : qInv m_T_changePage 70 m_T_setRoot 3 2 := ⟨119, _, by decide +kernel, rfl, rfl, wd_337, wd_339, ws_5, by decide +kernel⟩
theorem i_T_changePage_73 : decode m_T_changePage.2.1 73 = .ok (.iconst 0, 1) := by decide +kernel
theorem i_T_changePage_74 : decode m_T_changePage.2.1 74 = .ok (.ireturn, 1) := by decide +kernel
theorem i_T_changePage_75 : decode m_T_changePage.2.1 75 = .ok (.iload 5, 2) := by decide +kernel
theorem i_T_changePage_77 : decode m_T_changePage.2.1 77 = .ok (.ifCond .ne 14, 3) := by decide +kernel
theorem i_T_changePage_80 : decode m_T_changePage.2.1 80 = .ok (.aload_n 0, 1) := by decide +kernel
theorem i_T_changePage_81 : qGet m_T_changePage 81 3 10 := ⟨42, _, by decide +kernel, rfl, by decide, rfl, Or.inl wd_112⟩
theorem i_T_changePage_84 : qGet m_T_changePage 84 2 2 := ⟨53, _, by decide +kernel, rfl, by decide, rfl, Or.inr ⟨"PastTree", wd_91⟩⟩
theorem i_T_changePage_87 : decode m_T_changePage.2.1 87 = .ok (.iconst 3, 1) := by decide +kernel
theorem i_T_changePage_88 : decode m_T_changePage.2.1 88 = .ok (.if_icmp .lt 27, 3) := by decide +kernel
theorem i_T_changePage_91 : decode m_T_changePage.2.1 91 = .ok (.aload 4, 2) := by decide +kernel
theorem i_T_changePage_93 : decode m_T_changePage.2.1 93 = .ok (.aload_n 0, 1) := by decide +kernel
theorem i_T_changePage_94 : qGet m_T_changePage 94 3 9 := ⟨38, _, by decide +kernel, rfl, by decide, rfl, Or.inl wd_111⟩
theorem i_T_changePage_97 : qGet m_T_changePage 97 2 2 := ⟨53, _, by decide +kernel, rfl, by decide, rfl, Or.inr ⟨"PastTree", wd_91⟩⟩
theorem i_T_changePage_100 : qInv m_T_changePage 100 m_G_hasRoomFor 1 1 := ⟨141, _, by decide +kernel, rfl, rfl, wd_363, wd_364, wd_365, by decide +kernel⟩
theorem i_T_changePage_103 : decode m_T_changePage.2.1 103 = .ok (.ifCond .eq 12, 3) := by decide +kernel
theorem i_T_changePage_106 : decode m_T_changePage.2.1 106 = .ok (.aload_n 0, 1) := by decide +kernel
theorem i_T_changePage_107 : decode m_T_changePage.2.1 107 = .ok (.aload 4, 2) := by decide +kernel
theorem i_T_changePage_109 : decode m_T_changePage.2.1 109 = .ok (.iload_n 2, 1) := by decide +kernel
theorem i_T_changePage_110 : qInv m_T_changePage 110 m_T_letGoAndCome 3 2 := ⟨145, _, by decide +kernel, rfl, rfl, wd_367, wd_369, ws_9, by decide +kernel⟩
theorem i_T_changePage_113 : decode m_T_changePage.2.1 113 = .ok (.iconst 0, 1) := by decide +kernel
theorem i_T_changePage_114 : decode m_T_changePage.2.1 114 = .ok (.ireturn, 1) := by decide +kernel
theorem i_T_changePage_115 : decode m_T_changePage.2.1 115 = .ok (.aload 4, 2) := by decide +kernel
theorem i_T_changePage_117 : decode m_T_changePage.2.1 117 = .ok (.iload_n 2, 1) := by decide +kernel
theorem i_T_changePage_118 : qPut m_T_changePage 118 1 7 := ⟨137, _, by decide +kernel, rfl, by decide, rfl, Or.inl rfl, Or.inr ⟨rfl, "PastTree", wd_49⟩⟩
theorem i_T_changePage_121 : decode m_T_changePage.2.1 121 = .ok (.iload 5, 2) := by decide +kernel
theorem i_T_changePage_123 : decode m_T_changePage.2.1 123 = .ok (.ifCond .eq 11, 3) := by decide +kernel
theorem i_T_changePage_126 : decode m_T_changePage.2.1 126 = .ok (.aload_n 0, 1) := by decide +kernel
theorem i_T_changePage_127 : decode m_T_changePage.2.1 127 = .ok (.iload_n 1, 1) := by decide +kernel
theorem i_T_changePage_128 : decode m_T_changePage.2.1 128 = .ok (.iload_n 2, 1) := by decide +kernel
theorem i_T_changePage_129 : qInv m_T_changePage 129 m_T_remakeRoot 3 2 := ⟨149, _, by decide +kernel, rfl, rfl, wd_379, wd_381, ws_10, by decide +kernel⟩
theorem i_T_changePage_132 : decode m_T_changePage.2.1 132 = .ok (.iconst 0, 1) := by decide +kernel
theorem i_T_changePage_133 : decode m_T_changePage.2.1 133 = .ok (.ireturn, 1) := by decide +kernel
theorem i_T_changePage_134 : decode m_T_changePage.2.1 134 = .ok (.aload_n 0, 1) := by decide +kernel
theorem i_T_changePage_135 : decode m_T_changePage.2.1 135 = .ok (.aload_n 0, 1) := by decide +kernel
theorem i_T_changePage_136 : decode m_T_changePage.2.1 136 = .ok (.iload_n 1, 1) := by decide +kernel
theorem i_T_changePage_137 : decode m_T_changePage.2.1 137 = .ok (.iconst 1, 1) := by decide +kernel
theorem i_T_changePage_138 : decode m_T_changePage.2.1 138 = .ok (.iadd, 1) := by decide +kernel
theorem i_T_changePage_139 : qInv m_T_changePage 139 m_T_passed 3 1 := ⟨127, _, by decide +kernel, rfl, rfl, wd_345, wd_347, ws_7, by decide +kernel⟩
theorem i_T_changePage_142 : decode m_T_changePage.2.1 142 = .ok (.iload_n 1, 1) := by decide +kernel
theorem i_T_changePage_143 : decode m_T_changePage.2.1 143 = .ok (.iload_n 2, 1) := by decide +kernel
theorem i_T_changePage_144 : decode m_T_changePage.2.1 144 = .ok (.iload_n 3, 1) := by decide +kernel
theorem i_T_changePage_145 : qInv m_T_changePage 145 m_T_remakeBelow 3 4 := ⟨152, _, by decide +kernel, rfl, rfl, wd_398, wd_400, ws_13, by decide +kernel⟩
theorem i_T_changePage_148 : decode m_T_changePage.2.1 148 = .ok (.iconst 1, 1) := by decide +kernel
theorem i_T_changePage_149 : decode m_T_changePage.2.1 149 = .ok (.ireturn, 1) := by decide +kernel
theorem i_T_listWhatStays_0 : decode m_T_listWhatStays.2.1 0 = .ok (.aload_n 0, 1) := by decide +kernel
theorem i_T_listWhatStays_1 : qGet m_T_listWhatStays 1 3 10 := ⟨42, _, by decide +kernel, rfl, by decide, rfl, Or.inl wd_112⟩
theorem i_T_listWhatStays_4 : qInv m_T_listWhatStays 4 m_R_clear 2 0 := ⟨50, _, by decide +kernel, rfl, rfl, wd_329, wd_330, wd_331, by decide +kernel⟩
theorem i_T_listWhatStays_7 : decode m_T_listWhatStays.2.1 7 = .ok (.iconst 0, 1) := by decide +kernel
theorem i_T_listWhatStays_8 : decode m_T_listWhatStays.2.1 8 = .ok (.istore_n 2, 1) := by decide +kernel
theorem i_T_listWhatStays_9 : decode m_T_listWhatStays.2.1 9 = .ok (.iload_n 2, 1) := by decide +kernel
theorem i_T_listWhatStays_10 : decode m_T_listWhatStays.2.1 10 = .ok (.aload_n 1, 1) := by decide +kernel
theorem i_T_listWhatStays_11 : qGet m_T_listWhatStays 11 1 8 := ⟨156, _, by decide +kernel, rfl, by decide, rfl, Or.inr ⟨"PastTree", wd_53⟩⟩
theorem i_T_listWhatStays_14 : decode m_T_listWhatStays.2.1 14 = .ok (.if_icmp .ge 54, 3) := by decide +kernel
theorem i_T_listWhatStays_17 : decode m_T_listWhatStays.2.1 17 = .ok (.aload_n 1, 1) := by decide +kernel
theorem i_T_listWhatStays_18 : decode m_T_listWhatStays.2.1 18 = .ok (.iload_n 2, 1) := by decide +kernel
theorem i_T_listWhatStays_19 : decode m_T_listWhatStays.2.1 19 = .ok (.aload_n 0, 1) := by decide +kernel
theorem i_T_listWhatStays_20 : qGet m_T_listWhatStays 20 3 4 := ⟨99, _, by decide +kernel, rfl, by decide, rfl, Or.inl wd_106⟩
theorem i_T_listWhatStays_23 : qInv m_T_listWhatStays 23 m_G_livesAt 1 2 := ⟨157, _, by decide +kernel, rfl, rfl, wd_353, wd_305, wd_306, by decide +kernel⟩
theorem i_T_listWhatStays_26 : decode m_T_listWhatStays.2.1 26 = .ok (.ifCond .eq 36, 3) := by decide +kernel
theorem i_T_listWhatStays_29 : decode m_T_listWhatStays.2.1 29 = .ok (.iload_n 2, 1) := by decide +kernel
theorem i_T_listWhatStays_30 : decode m_T_listWhatStays.2.1 30 = .ok (.aload_n 0, 1) := by decide +kernel
theorem i_T_listWhatStays_31 : qGet m_T_listWhatStays 31 3 7 := ⟨109, _, by decide +kernel, rfl, by decide, rfl, Or.inl wd_109⟩
theorem i_T_listWhatStays_34 : decode m_T_listWhatStays.2.1 34 = .ok (.if_icmp .eq 28, 3) := by decide +kernel
theorem i_T_listWhatStays_37 : decode m_T_listWhatStays.2.1 37 = .ok (.iload_n 2, 1) := by decide +kernel
theorem i_T_listWhatStays_38 : decode m_T_listWhatStays.2.1 38 = .ok (.aload_n 0, 1) := by decide +kernel
theorem i_T_listWhatStays_39 : qGet m_T_listWhatStays 39 3 8 := ⟨112, _, by decide +kernel, rfl, by decide, rfl, Or.inl wd_110⟩
theorem i_T_listWhatStays_42 : decode m_T_listWhatStays.2.1 42 = .ok (.if_icmp .eq 20, 3) := by decide +kernel
theorem i_T_listWhatStays_45 : decode m_T_listWhatStays.2.1 45 = .ok (.aload_n 0, 1) := by decide +kernel
theorem i_T_listWhatStays_46 : qGet m_T_listWhatStays 46 3 10 := ⟨42, _, by decide +kernel, rfl, by decide, rfl, Or.inl wd_112⟩
theorem i_T_listWhatStays_49 : decode m_T_listWhatStays.2.1 49 = .ok (.aload_n 1, 1) := by decide +kernel
theorem i_T_listWhatStays_50 : decode m_T_listWhatStays.2.1 50 = .ok (.iload_n 2, 1) := by decide +kernel
theorem i_T_listWhatStays_51 : qInv m_T_listWhatStays 51 m_G_keyAt 1 1 := ⟨92, _, by decide +kernel, rfl, rfl, wd_320, wd_317, wd_318, by decide +kernel⟩
theorem i_T_listWhatStays_54 : decode m_T_listWhatStays.2.1 54 = .ok (.aload_n 1, 1) := by decide +kernel
theorem i_T_listWhatStays_55 : decode m_T_listWhatStays.2.1 55 = .ok (.iload_n 2, 1) := by decide +kernel
theorem i_T_listWhatStays_56 : qInv m_T_listWhatStays 56 m_G_whatAt 1 1 := ⟨95, _, by decide +kernel, rfl, rfl, wd_321, wd_322, wd_323, by decide +kernel⟩
theorem i_T_listWhatStays_59 : qInv m_T_listWhatStays 59 m_R_insert 2 2 := ⟨115, _, by decide +kernel, rfl, rfl, wd_333, wd_334, wd_335, by decide +kernel⟩
theorem i_T_listWhatStays_62 : decode m_T_listWhatStays.2.1 62 = .ok (.iinc 2 1, 3) := by decide +kernel
theorem i_T_listWhatStays_65 : decode m_T_listWhatStays.2.1 65 = .ok (.goto (-56), 3) := by decide +kernel
theorem i_T_listWhatStays_68 : decode m_T_listWhatStays.2.1 68 = .ok (.iconst 0, 1) := by decide +kernel
theorem i_T_listWhatStays_69 : decode m_T_listWhatStays.2.1 69 = .ok (.istore_n 2, 1) := by decide +kernel
theorem i_T_listWhatStays_70 : decode m_T_listWhatStays.2.1 70 = .ok (.iload_n 2, 1) := by decide +kernel
theorem i_T_listWhatStays_71 : decode m_T_listWhatStays.2.1 71 = .ok (.aload_n 0, 1) := by decide +kernel
theorem i_T_listWhatStays_72 : qGet m_T_listWhatStays 72 3 9 := ⟨38, _, by decide +kernel, rfl, by decide, rfl, Or.inl wd_111⟩
theorem i_T_listWhatStays_75 : qGet m_T_listWhatStays 75 2 2 := ⟨53, _, by decide +kernel, rfl, by decide, rfl, Or.inr ⟨"PastTree", wd_91⟩⟩
theorem i_T_listWhatStays_78 : decode m_T_listWhatStays.2.1 78 = .ok (.if_icmp .ge 33, 3) := by decide +kernel
theorem i_T_listWhatStays_81 : decode m_T_listWhatStays.2.1 81 = .ok (.aload_n 0, 1) := by decide +kernel
theorem i_T_listWhatStays_82 : qGet m_T_listWhatStays 82 3 10 := ⟨42, _, by decide +kernel, rfl, by decide, rfl, Or.inl wd_112⟩
theorem i_T_listWhatStays_85 : decode m_T_listWhatStays.2.1 85 = .ok (.aload_n 0, 1) := by decide +kernel
theorem i_T_listWhatStays_86 : qGet m_T_listWhatStays 86 3 9 := ⟨38, _, by decide +kernel, rfl, by decide, rfl, Or.inl wd_111⟩
theorem i_T_listWhatStays_89 : decode m_T_listWhatStays.2.1 89 = .ok (.iload_n 2, 1) := by decide +kernel
theorem i_T_listWhatStays_90 : qInv m_T_listWhatStays 90 m_R_keyAt 2 1 := ⟨161, _, by decide +kernel, rfl, rfl, wd_354, wd_355, wd_356, by decide +kernel⟩
theorem i_T_listWhatStays_93 : decode m_T_listWhatStays.2.1 93 = .ok (.l2i, 1) := by decide +kernel
theorem i_T_listWhatStays_94 : decode m_T_listWhatStays.2.1 94 = .ok (.aload_n 0, 1) := by decide +kernel
theorem i_T_listWhatStays_95 : qGet m_T_listWhatStays 95 3 9 := ⟨38, _, by decide +kernel, rfl, by decide, rfl, Or.inl wd_111⟩
theorem i_T_listWhatStays_98 : decode m_T_listWhatStays.2.1 98 = .ok (.iload_n 2, 1) := by decide +kernel
theorem i_T_listWhatStays_99 : qInv m_T_listWhatStays 99 m_R_whatAt 2 1 := ⟨140, _, by decide +kernel, rfl, rfl, wd_359, wd_360, wd_361, by decide +kernel⟩
theorem i_T_listWhatStays_102 : qInv m_T_listWhatStays 102 m_R_insert 2 2 := ⟨115, _, by decide +kernel, rfl, rfl, wd_333, wd_334, wd_335, by decide +kernel⟩
theorem i_T_listWhatStays_105 : decode m_T_listWhatStays.2.1 105 = .ok (.iinc 2 1, 3) := by decide +kernel
theorem i_T_listWhatStays_108 : decode m_T_listWhatStays.2.1 108 = .ok (.goto (-38), 3) := by decide +kernel
theorem i_T_listWhatStays_111 : decode m_T_listWhatStays.2.1 111 = .ok (.return_, 1) := by decide +kernel
theorem i_T_letGoAndCome_0 : decode m_T_letGoAndCome.2.1 0 = .ok (.aload_n 1, 1) := by decide +kernel
theorem i_T_letGoAndCome_1 : decode m_T_letGoAndCome.2.1 1 = .ok (.aload_n 0, 1) := by decide +kernel
theorem i_T_letGoAndCome_2 : qGet m_T_letGoAndCome 2 3 7 := ⟨109, _, by decide +kernel, rfl, by decide, rfl, Or.inl wd_109⟩
theorem i_T_letGoAndCome_5 : decode m_T_letGoAndCome.2.1 5 = .ok (.iload_n 2, 1) := by decide +kernel
theorem i_T_letGoAndCome_6 : qInv m_T_letGoAndCome 6 m_G_end 1 2 := ⟨163, _, by decide +kernel, rfl, rfl, wd_371, wd_372, wd_373, by decide +kernel⟩
theorem i_T_letGoAndCome_9 : decode m_T_letGoAndCome.2.1 9 = .ok (.aload_n 1, 1) := by decide +kernel
theorem i_T_letGoAndCome_10 : decode m_T_letGoAndCome.2.1 10 = .ok (.aload_n 0, 1) := by decide +kernel
theorem i_T_letGoAndCome_11 : qGet m_T_letGoAndCome 11 3 8 := ⟨112, _, by decide +kernel, rfl, by decide, rfl, Or.inl wd_110⟩
theorem i_T_letGoAndCome_14 : decode m_T_letGoAndCome.2.1 14 = .ok (.iload_n 2, 1) := by decide +kernel
theorem i_T_letGoAndCome_15 : qInv m_T_letGoAndCome 15 m_G_end 1 2 := ⟨163, _, by decide +kernel, rfl, rfl, wd_371, wd_372, wd_373, by decide +kernel⟩
theorem i_T_letGoAndCome_18 : decode m_T_letGoAndCome.2.1 18 = .ok (.aload_n 1, 1) := by decide +kernel
theorem i_T_letGoAndCome_19 : decode m_T_letGoAndCome.2.1 19 = .ok (.aload_n 0, 1) := by decide +kernel
theorem i_T_letGoAndCome_20 : qGet m_T_letGoAndCome 20 3 9 := ⟨38, _, by decide +kernel, rfl, by decide, rfl, Or.inl wd_111⟩
theorem i_T_letGoAndCome_23 : decode m_T_letGoAndCome.2.1 23 = .ok (.iconst 0, 1) := by decide +kernel
theorem i_T_letGoAndCome_24 : decode m_T_letGoAndCome.2.1 24 = .ok (.aload_n 0, 1) := by decide +kernel
theorem i_T_letGoAndCome_25 : qGet m_T_letGoAndCome 25 3 9 := ⟨38, _, by decide +kernel, rfl, by decide, rfl, Or.inl wd_111⟩
theorem i_T_letGoAndCome_28 : qGet m_T_letGoAndCome 28 2 2 := ⟨53, _, by decide +kernel, rfl, by decide, rfl, Or.inr ⟨"PastTree", wd_91⟩⟩
theorem i_T_letGoAndCome_31 : decode m_T_letGoAndCome.2.1 31 = .ok (.iload_n 2, 1) := by decide +kernel
theorem i_T_letGoAndCome_32 : qInv m_T_letGoAndCome 32 m_G_take 1 4 := ⟨166, _, by decide +kernel, rfl, rfl, wd_375, wd_376, wd_377, by decide +kernel⟩
theorem i_T_letGoAndCome_35 : decode m_T_letGoAndCome.2.1 35 = .ok (.return_, 1) := by decide +kernel
theorem i_T_remakeRoot_0 : decode m_T_remakeRoot.2.1 0 = .ok (.aload_n 0, 1) := by decide +kernel
theorem i_T_remakeRoot_1 : decode m_T_remakeRoot.2.1 1 = .ok (.iload_n 1, 1) := by decide +kernel
theorem i_T_remakeRoot_2 : decode m_T_remakeRoot.2.1 2 = .ok (.iload_n 2, 1) := by decide +kernel
theorem i_T_remakeRoot_3 : qInv m_T_remakeRoot 3 m_T_makeFromList 3 2 := ⟨170, _, by decide +kernel, rfl, rfl, wd_383, wd_385, ws_11, by decide +kernel⟩
theorem i_T_remakeRoot_6 : decode m_T_remakeRoot.2.1 6 = .ok (.aload_n 0, 1) := by decide +kernel
theorem i_T_remakeRoot_7 : qGet m_T_remakeRoot 7 3 9 := ⟨38, _, by decide +kernel, rfl, by decide, rfl, Or.inl wd_111⟩
theorem i_T_remakeRoot_10 : qGet m_T_remakeRoot 10 2 2 := ⟨53, _, by decide +kernel, rfl, by decide, rfl, Or.inr ⟨"PastTree", wd_91⟩⟩
theorem i_T_remakeRoot_13 : decode m_T_remakeRoot.2.1 13 = .ok (.iconst 1, 1) := by decide +kernel
theorem i_T_remakeRoot_14 : decode m_T_remakeRoot.2.1 14 = .ok (.if_icmp .ne 18, 3) := by decide +kernel
theorem i_T_remakeRoot_17 : decode m_T_remakeRoot.2.1 17 = .ok (.aload_n 0, 1) := by decide +kernel
theorem i_T_remakeRoot_18 : decode m_T_remakeRoot.2.1 18 = .ok (.iload_n 2, 1) := by decide +kernel
theorem i_T_remakeRoot_19 : decode m_T_remakeRoot.2.1 19 = .ok (.aload_n 0, 1) := by decide +kernel
theorem i_T_remakeRoot_20 : qGet m_T_remakeRoot 20 3 9 := ⟨38, _, by decide +kernel, rfl, by decide, rfl, Or.inl wd_111⟩
theorem i_T_remakeRoot_23 : decode m_T_remakeRoot.2.1 23 = .ok (.iconst 0, 1) := by decide +kernel
theorem i_T_remakeRoot_24 : qInv m_T_remakeRoot 24 m_R_whatAt 2 1 := ⟨140, _, by decide +kernel, rfl, rfl, wd_359, wd_360, wd_361, by decide +kernel⟩
theorem i_T_remakeRoot_27 : decode m_T_remakeRoot.2.1 27 = .ok (.l2i, 1) := by decide +kernel
theorem i_T_remakeRoot_28 : qInv m_T_remakeRoot 28 m_T_setRoot 3 2 := ⟨119, _, by decide +kernel, rfl, rfl, wd_337, wd_339, ws_5, by decide +kernel⟩
theorem i_T_remakeRoot_31 : decode m_T_remakeRoot.2.1 31 = .ok (.return_, 1) := by decide +kernel
theorem i_T_remakeRoot_32 : decode m_T_remakeRoot.2.1 32 = .ok (.aload_n 0, 1) := by decide +kernel
theorem i_T_remakeRoot_33 : decode m_T_remakeRoot.2.1 33 = .ok (.iload_n 1, 1) := by decide +kernel
theorem i_T_remakeRoot_34 : decode m_T_remakeRoot.2.1 34 = .ok (.iconst 1, 1) := by decide +kernel
theorem i_T_remakeRoot_35 : decode m_T_remakeRoot.2.1 35 = .ok (.iadd, 1) := by decide +kernel
theorem i_T_remakeRoot_36 : decode m_T_remakeRoot.2.1 36 = .ok (.iload_n 2, 1) := by decide +kernel
theorem i_T_remakeRoot_37 : decode m_T_remakeRoot.2.1 37 = .ok (.aload_n 0, 1) := by decide +kernel
theorem i_T_remakeRoot_38 : qGet m_T_remakeRoot 38 3 9 := ⟨38, _, by decide +kernel, rfl, by decide, rfl, Or.inl wd_111⟩
theorem i_T_remakeRoot_41 : decode m_T_remakeRoot.2.1 41 = .ok (.iconst 0, 1) := by decide +kernel
theorem i_T_remakeRoot_42 : decode m_T_remakeRoot.2.1 42 = .ok (.aload_n 0, 1) := by decide +kernel
theorem i_T_remakeRoot_43 : qGet m_T_remakeRoot 43 3 9 := ⟨38, _, by decide +kernel, rfl, by decide, rfl, Or.inl wd_111⟩
theorem i_T_remakeRoot_46 : qGet m_T_remakeRoot 46 2 2 := ⟨53, _, by decide +kernel, rfl, by decide, rfl, Or.inr ⟨"PastTree", wd_91⟩⟩
theorem i_T_remakeRoot_49 : qInv m_T_remakeRoot 49 m_T_makePage 3 5 := ⟨173, _, by decide +kernel, rfl, rfl, wd_387, wd_389, ws_12, by decide +kernel⟩
theorem i_T_remakeRoot_52 : decode m_T_remakeRoot.2.1 52 = .ok (.astore_n 3, 1) := by decide +kernel
theorem i_T_remakeRoot_53 : decode m_T_remakeRoot.2.1 53 = .ok (.aload_n 0, 1) := by decide +kernel
theorem i_T_remakeRoot_54 : decode m_T_remakeRoot.2.1 54 = .ok (.iload_n 2, 1) := by decide +kernel
theorem i_T_remakeRoot_55 : decode m_T_remakeRoot.2.1 55 = .ok (.aload_n 3, 1) := by decide +kernel
theorem i_T_remakeRoot_56 : qGet m_T_remakeRoot 56 1 0 := ⟨131, _, by decide +kernel, rfl, by decide, rfl, Or.inr ⟨"PastTree", wd_37⟩⟩
theorem i_T_remakeRoot_59 : qInv m_T_remakeRoot 59 m_T_setRoot 3 2 := ⟨119, _, by decide +kernel, rfl, rfl, wd_337, wd_339, ws_5, by decide +kernel⟩
theorem i_T_remakeRoot_62 : decode m_T_remakeRoot.2.1 62 = .ok (.return_, 1) := by decide +kernel
theorem i_T_remakeBelow_0 : decode m_T_remakeBelow.2.1 0 = .ok (.aload_n 0, 1) := by decide +kernel
theorem i_T_remakeBelow_1 : decode m_T_remakeBelow.2.1 1 = .ok (.aload_n 1, 1) := by decide +kernel
theorem i_T_remakeBelow_2 : decode m_T_remakeBelow.2.1 2 = .ok (.iload 4, 2) := by decide +kernel
theorem i_T_remakeBelow_4 : decode m_T_remakeBelow.2.1 4 = .ok (.aload_n 0, 1) := by decide +kernel
theorem i_T_remakeBelow_5 : qGet m_T_remakeBelow 5 3 4 := ⟨99, _, by decide +kernel, rfl, by decide, rfl, Or.inl wd_106⟩
theorem i_T_remakeBelow_8 : qInv m_T_remakeBelow 8 m_G_standingFor 1 2 := ⟨85, _, by decide +kernel, rfl, rfl, wd_296, wd_297, wd_298, by decide +kernel⟩
theorem i_T_remakeBelow_11 : qPut m_T_remakeBelow 11 3 7 := ⟨109, _, by decide +kernel, rfl, by decide, rfl, Or.inl rfl, Or.inl wd_109⟩
theorem i_T_remakeBelow_14 : decode m_T_remakeBelow.2.1 14 = .ok (.aload_n 0, 1) := by decide +kernel
theorem i_T_remakeBelow_15 : decode m_T_remakeBelow.2.1 15 = .ok (.iconst (-1), 1) := by decide +kernel
theorem i_T_remakeBelow_16 : qPut m_T_remakeBelow 16 3 8 := ⟨112, _, by decide +kernel, rfl, by decide, rfl, Or.inl rfl, Or.inl wd_110⟩
theorem i_T_remakeBelow_19 : decode m_T_remakeBelow.2.1 19 = .ok (.aload_n 1, 1) := by decide +kernel
theorem i_T_remakeBelow_20 : decode m_T_remakeBelow.2.1 20 = .ok (.aload_n 0, 1) := by decide +kernel
theorem i_T_remakeBelow_21 : qGet m_T_remakeBelow 21 3 7 := ⟨109, _, by decide +kernel, rfl, by decide, rfl, Or.inl wd_109⟩
theorem i_T_remakeBelow_24 : qInv m_T_remakeBelow 24 m_G_keyAt 1 1 := ⟨92, _, by decide +kernel, rfl, rfl, wd_320, wd_317, wd_318, by decide +kernel⟩
theorem i_T_remakeBelow_27 : decode m_T_remakeBelow.2.1 27 = .ok (.istore 5, 2) := by decide +kernel
theorem i_T_remakeBelow_29 : decode m_T_remakeBelow.2.1 29 = .ok (.aload_n 0, 1) := by decide +kernel
theorem i_T_remakeBelow_30 : qGet m_T_remakeBelow 30 3 10 := ⟨42, _, by decide +kernel, rfl, by decide, rfl, Or.inl wd_112⟩
theorem i_T_remakeBelow_33 : qGet m_T_remakeBelow 33 2 2 := ⟨53, _, by decide +kernel, rfl, by decide, rfl, Or.inr ⟨"PastTree", wd_91⟩⟩
theorem i_T_remakeBelow_36 : decode m_T_remakeBelow.2.1 36 = .ok (.iconst 5, 1) := by decide +kernel
theorem i_T_remakeBelow_37 : decode m_T_remakeBelow.2.1 37 = .ok (.if_icmp .ge 71, 3) := by decide +kernel
theorem i_T_remakeBelow_40 : decode m_T_remakeBelow.2.1 40 = .ok (.aload_n 0, 1) := by decide +kernel
theorem i_T_remakeBelow_41 : decode m_T_remakeBelow.2.1 41 = .ok (.aload_n 1, 1) := by decide +kernel
theorem i_T_remakeBelow_42 : decode m_T_remakeBelow.2.1 42 = .ok (.aload_n 0, 1) := by decide +kernel
theorem i_T_remakeBelow_43 : qGet m_T_remakeBelow 43 3 7 := ⟨109, _, by decide +kernel, rfl, by decide, rfl, Or.inl wd_109⟩
theorem i_T_remakeBelow_46 : decode m_T_remakeBelow.2.1 46 = .ok (.aload_n 0, 1) := by decide +kernel
theorem i_T_remakeBelow_47 : qGet m_T_remakeBelow 47 3 4 := ⟨99, _, by decide +kernel, rfl, by decide, rfl, Or.inl wd_106⟩
theorem i_T_remakeBelow_50 : qInv m_T_remakeBelow 50 m_G_neighbourOf 1 2 := ⟨177, _, by decide +kernel, rfl, rfl, wd_402, wd_403, wd_404, by decide +kernel⟩
theorem i_T_remakeBelow_53 : qPut m_T_remakeBelow 53 3 8 := ⟨112, _, by decide +kernel, rfl, by decide, rfl, Or.inl rfl, Or.inl wd_110⟩
theorem i_T_remakeBelow_56 : decode m_T_remakeBelow.2.1 56 = .ok (.iload 5, 2) := by decide +kernel
theorem i_T_remakeBelow_58 : decode m_T_remakeBelow.2.1 58 = .ok (.aload_n 1, 1) := by decide +kernel
theorem i_T_remakeBelow_59 : decode m_T_remakeBelow.2.1 59 = .ok (.aload_n 0, 1) := by decide +kernel
theorem i_T_remakeBelow_60 : qGet m_T_remakeBelow 60 3 8 := ⟨112, _, by decide +kernel, rfl, by decide, rfl, Or.inl wd_110⟩
theorem i_T_remakeBelow_63 : qInv m_T_remakeBelow 63 m_G_keyAt 1 1 := ⟨92, _, by decide +kernel, rfl, rfl, wd_320, wd_317, wd_318, by decide +kernel⟩
theorem i_T_remakeBelow_66 : qInvS m_T_remakeBelow 66 m_J_minI 2 := ⟨180, by decide +kernel, wd_391, wd_392, by decide +kernel⟩
theorem i_T_remakeBelow_69 : decode m_T_remakeBelow.2.1 69 = .ok (.istore 5, 2) := by decide +kernel
theorem i_T_remakeBelow_71 : decode m_T_remakeBelow.2.1 71 = .ok (.aload_n 0, 1) := by decide +kernel
theorem i_T_remakeBelow_72 : decode m_T_remakeBelow.2.1 72 = .ok (.aload_n 1, 1) := by decide +kernel
theorem i_T_remakeBelow_73 : decode m_T_remakeBelow.2.1 73 = .ok (.aload_n 0, 1) := by decide +kernel
theorem i_T_remakeBelow_74 : qGet m_T_remakeBelow 74 3 8 := ⟨112, _, by decide +kernel, rfl, by decide, rfl, Or.inl wd_110⟩
theorem i_T_remakeBelow_77 : qInv m_T_remakeBelow 77 m_G_whatAt 1 1 := ⟨95, _, by decide +kernel, rfl, rfl, wd_321, wd_322, wd_323, by decide +kernel⟩
theorem i_T_remakeBelow_80 : qInv m_T_remakeBelow 80 m_T_pageAt 3 1 := ⟨72, _, by decide +kernel, rfl, rfl, wd_283, wd_284, wd_285, by decide +kernel⟩
theorem i_T_remakeBelow_83 : decode m_T_remakeBelow.2.1 83 = .ok (.astore 6, 2) := by decide +kernel
theorem i_T_remakeBelow_85 : decode m_T_remakeBelow.2.1 85 = .ok (.aload 6, 2) := by decide +kernel
theorem i_T_remakeBelow_87 : decode m_T_remakeBelow.2.1 87 = .ok (.aload_n 0, 1) := by decide +kernel
theorem i_T_remakeBelow_88 : qGet m_T_remakeBelow 88 3 4 := ⟨99, _, by decide +kernel, rfl, by decide, rfl, Or.inl wd_106⟩
theorem i_T_remakeBelow_91 : decode m_T_remakeBelow.2.1 91 = .ok (.ldc 187, 2) := by decide +kernel
theorem i_T_remakeBelow_91_w : qIn (Cond.constant m_T_remakeBelow.1.cls 187 (-2147483648)) := wd_406
theorem i_T_remakeBelow_93 : decode m_T_remakeBelow.2.1 93 = .ok (.ldc 45, 2) := by decide +kernel
theorem i_T_remakeBelow_93_w : qIn (Cond.constant m_T_remakeBelow.1.cls 45 2147483647) := wd_407
theorem i_T_remakeBelow_95 : decode m_T_remakeBelow.2.1 95 = .ok (.aload_n 0, 1) := by decide +kernel
theorem i_T_remakeBelow_96 : qGet m_T_remakeBelow 96 3 10 := ⟨42, _, by decide +kernel, rfl, by decide, rfl, Or.inl wd_112⟩
theorem i_T_remakeBelow_99 : qInv m_T_remakeBelow 99 m_G_copyLiving 1 4 := ⟨60, _, by decide +kernel, rfl, rfl, wd_408, wd_409, wd_410, by decide +kernel⟩
theorem i_T_remakeBelow_102 : decode m_T_remakeBelow.2.1 102 = .ok (.aload 6, 2) := by decide +kernel
theorem i_T_remakeBelow_104 : decode m_T_remakeBelow.2.1 104 = .ok (.iload_n 3, 1) := by decide +kernel
theorem i_T_remakeBelow_105 : qPut m_T_remakeBelow 105 1 7 := ⟨137, _, by decide +kernel, rfl, by decide, rfl, Or.inl rfl, Or.inr ⟨rfl, "PastTree", wd_49⟩⟩
theorem i_T_remakeBelow_108 : decode m_T_remakeBelow.2.1 108 = .ok (.aload_n 0, 1) := by decide +kernel
theorem i_T_remakeBelow_109 : decode m_T_remakeBelow.2.1 109 = .ok (.iload_n 2, 1) := by decide +kernel
theorem i_T_remakeBelow_110 : decode m_T_remakeBelow.2.1 110 = .ok (.iload_n 3, 1) := by decide +kernel
theorem i_T_remakeBelow_111 : qInv m_T_remakeBelow 111 m_T_makeFromList 3 2 := ⟨170, _, by decide +kernel, rfl, rfl, wd_383, wd_385, ws_11, by decide +kernel⟩
theorem i_T_remakeBelow_114 : decode m_T_remakeBelow.2.1 114 = .ok (.aload_n 0, 1) := by decide +kernel
theorem i_T_remakeBelow_115 : qGet m_T_remakeBelow 115 3 9 := ⟨38, _, by decide +kernel, rfl, by decide, rfl, Or.inl wd_111⟩
theorem i_T_remakeBelow_118 : decode m_T_remakeBelow.2.1 118 = .ok (.iload 5, 2) := by decide +kernel
theorem i_T_remakeBelow_120 : qInv m_T_remakeBelow 120 m_R_lowerFirst 2 1 := ⟨188, _, by decide +kernel, rfl, rfl, wd_413, wd_414, wd_415, by decide +kernel⟩
theorem i_T_remakeBelow_123 : decode m_T_remakeBelow.2.1 123 = .ok (.return_, 1) := by decide +kernel
theorem i_T_makeFromList_0 : decode m_T_makeFromList.2.1 0 = .ok (.aload_n 0, 1) := by decide +kernel
theorem i_T_makeFromList_1 : qGet m_T_makeFromList 1 3 10 := ⟨42, _, by decide +kernel, rfl, by decide, rfl, Or.inl wd_112⟩
theorem i_T_makeFromList_4 : qGet m_T_makeFromList 4 2 2 := ⟨53, _, by decide +kernel, rfl, by decide, rfl, Or.inr ⟨"PastTree", wd_91⟩⟩
theorem i_T_makeFromList_7 : decode m_T_makeFromList.2.1 7 = .ok (.bipush 10, 2) := by decide +kernel
theorem i_T_makeFromList_9 : decode m_T_makeFromList.2.1 9 = .ok (.if_icmp .le 17, 3) := by decide +kernel
theorem i_T_makeFromList_12 : decode m_T_makeFromList.2.1 12 = .ok (.aload_n 0, 1) := by decide +kernel
theorem i_T_makeFromList_13 : qGet m_T_makeFromList 13 3 10 := ⟨42, _, by decide +kernel, rfl, by decide, rfl, Or.inl wd_112⟩
theorem i_T_makeFromList_16 : qGet m_T_makeFromList 16 2 2 := ⟨53, _, by decide +kernel, rfl, by decide, rfl, Or.inr ⟨"PastTree", wd_91⟩⟩
theorem i_T_makeFromList_19 : decode m_T_makeFromList.2.1 19 = .ok (.iconst 1, 1) := by decide +kernel
theorem i_T_makeFromList_20 : decode m_T_makeFromList.2.1 20 = .ok (.iadd, 1) := by decide +kernel
theorem i_T_makeFromList_21 : decode m_T_makeFromList.2.1 21 = .ok (.iconst 2, 1) := by decide +kernel
theorem i_T_makeFromList_22 : decode m_T_makeFromList.2.1 22 = .ok (.idiv, 1) := by decide +kernel
theorem i_T_makeFromList_23 : decode m_T_makeFromList.2.1 23 = .ok (.goto 10, 3) := by decide +kernel
theorem i_T_makeFromList_26 : decode m_T_makeFromList.2.1 26 = .ok (.aload_n 0, 1) := by decide +kernel
theorem i_T_makeFromList_27 : qGet m_T_makeFromList 27 3 10 := ⟨42, _, by decide +kernel, rfl, by decide, rfl, Or.inl wd_112⟩
theorem i_T_makeFromList_30 : qGet m_T_makeFromList 30 2 2 := ⟨53, _, by decide +kernel, rfl, by decide, rfl, Or.inr ⟨"PastTree", wd_91⟩⟩
theorem i_T_makeFromList_33 : decode m_T_makeFromList.2.1 33 = .ok (.istore_n 3, 1) := by decide +kernel
theorem i_T_makeFromList_34 : decode m_T_makeFromList.2.1 34 = .ok (.aload_n 0, 1) := by decide +kernel
theorem i_T_makeFromList_35 : qGet m_T_makeFromList 35 3 9 := ⟨38, _, by decide +kernel, rfl, by decide, rfl, Or.inl wd_111⟩
theorem i_T_makeFromList_38 : qInv m_T_makeFromList 38 m_R_clear 2 0 := ⟨50, _, by decide +kernel, rfl, rfl, wd_329, wd_330, wd_331, by decide +kernel⟩
theorem i_T_makeFromList_41 : decode m_T_makeFromList.2.1 41 = .ok (.aload_n 0, 1) := by decide +kernel
theorem i_T_makeFromList_42 : decode m_T_makeFromList.2.1 42 = .ok (.iload_n 1, 1) := by decide +kernel
theorem i_T_makeFromList_43 : decode m_T_makeFromList.2.1 43 = .ok (.iload_n 2, 1) := by decide +kernel
theorem i_T_makeFromList_44 : decode m_T_makeFromList.2.1 44 = .ok (.aload_n 0, 1) := by decide +kernel
theorem i_T_makeFromList_45 : qGet m_T_makeFromList 45 3 10 := ⟨42, _, by decide +kernel, rfl, by decide, rfl, Or.inl wd_112⟩
theorem i_T_makeFromList_48 : decode m_T_makeFromList.2.1 48 = .ok (.iconst 0, 1) := by decide +kernel
theorem i_T_makeFromList_49 : decode m_T_makeFromList.2.1 49 = .ok (.iload_n 3, 1) := by decide +kernel
theorem i_T_makeFromList_50 : qInv m_T_makeFromList 50 m_T_makePage 3 5 := ⟨173, _, by decide +kernel, rfl, rfl, wd_387, wd_389, ws_12, by decide +kernel⟩
theorem i_T_makeFromList_53 : decode m_T_makeFromList.2.1 53 = .ok (.astore 4, 2) := by decide +kernel
theorem i_T_makeFromList_55 : decode m_T_makeFromList.2.1 55 = .ok (.aload_n 0, 1) := by decide +kernel
theorem i_T_makeFromList_56 : qGet m_T_makeFromList 56 3 9 := ⟨38, _, by decide +kernel, rfl, by decide, rfl, Or.inl wd_111⟩
theorem i_T_makeFromList_59 : decode m_T_makeFromList.2.1 59 = .ok (.aload 4, 2) := by decide +kernel
theorem i_T_makeFromList_61 : decode m_T_makeFromList.2.1 61 = .ok (.iconst 0, 1) := by decide +kernel
theorem i_T_makeFromList_62 : qInv m_T_makeFromList 62 m_G_keyAt 1 1 := ⟨92, _, by decide +kernel, rfl, rfl, wd_320, wd_317, wd_318, by decide +kernel⟩
theorem i_T_makeFromList_65 : decode m_T_makeFromList.2.1 65 = .ok (.aload 4, 2) := by decide +kernel
theorem i_T_makeFromList_67 : qGet m_T_makeFromList 67 1 0 := ⟨131, _, by decide +kernel, rfl, by decide, rfl, Or.inr ⟨"PastTree", wd_37⟩⟩
theorem i_T_makeFromList_70 : decode m_T_makeFromList.2.1 70 = .ok (.i2l, 1) := by decide +kernel
theorem i_T_makeFromList_71 : qInv m_T_makeFromList 71 m_R_insert 2 2 := ⟨115, _, by decide +kernel, rfl, rfl, wd_333, wd_334, wd_335, by decide +kernel⟩
theorem i_T_makeFromList_74 : decode m_T_makeFromList.2.1 74 = .ok (.iload_n 3, 1) := by decide +kernel
theorem i_T_makeFromList_75 : decode m_T_makeFromList.2.1 75 = .ok (.aload_n 0, 1) := by decide +kernel
theorem i_T_makeFromList_76 : qGet m_T_makeFromList 76 3 10 := ⟨42, _, by decide +kernel, rfl, by decide, rfl, Or.inl wd_112⟩
theorem i_T_makeFromList_79 : qGet m_T_makeFromList 79 2 2 := ⟨53, _, by decide +kernel, rfl, by decide, rfl, Or.inr ⟨"PastTree", wd_91⟩⟩
theorem i_T_makeFromList_82 : decode m_T_makeFromList.2.1 82 = .ok (.if_icmp .ge 42, 3) := by decide +kernel
theorem i_T_makeFromList_85 : decode m_T_makeFromList.2.1 85 = .ok (.aload_n 0, 1) := by decide +kernel
theorem i_T_makeFromList_86 : decode m_T_makeFromList.2.1 86 = .ok (.iload_n 1, 1) := by decide +kernel
theorem i_T_makeFromList_87 : decode m_T_makeFromList.2.1 87 = .ok (.iload_n 2, 1) := by decide +kernel
theorem i_T_makeFromList_88 : decode m_T_makeFromList.2.1 88 = .ok (.aload_n 0, 1) := by decide +kernel
theorem i_T_makeFromList_89 : qGet m_T_makeFromList 89 3 10 := ⟨42, _, by decide +kernel, rfl, by decide, rfl, Or.inl wd_112⟩
theorem i_T_makeFromList_92 : decode m_T_makeFromList.2.1 92 = .ok (.iload_n 3, 1) := by decide +kernel
theorem i_T_makeFromList_93 : decode m_T_makeFromList.2.1 93 = .ok (.aload_n 0, 1) := by decide +kernel
theorem i_T_makeFromList_94 : qGet m_T_makeFromList 94 3 10 := ⟨42, _, by decide +kernel, rfl, by decide, rfl, Or.inl wd_112⟩
theorem i_T_makeFromList_97 : qGet m_T_makeFromList 97 2 2 := ⟨53, _, by decide +kernel, rfl, by decide, rfl, Or.inr ⟨"PastTree", wd_91⟩⟩
theorem i_T_makeFromList_100 : qInv m_T_makeFromList 100 m_T_makePage 3 5 := ⟨173, _, by decide +kernel, rfl, rfl, wd_387, wd_389, ws_12, by decide +kernel⟩
theorem i_T_makeFromList_103 : decode m_T_makeFromList.2.1 103 = .ok (.astore 5, 2) := by decide +kernel
theorem i_T_makeFromList_105 : decode m_T_makeFromList.2.1 105 = .ok (.aload_n 0, 1) := by decide +kernel
theorem i_T_makeFromList_106 : qGet m_T_makeFromList 106 3 9 := ⟨38, _, by decide +kernel, rfl, by decide, rfl, Or.inl wd_111⟩
theorem i_T_makeFromList_109 : decode m_T_makeFromList.2.1 109 = .ok (.aload 5, 2) := by decide +kernel
theorem i_T_makeFromList_111 : decode m_T_makeFromList.2.1 111 = .ok (.iconst 0, 1) := by decide +kernel
theorem i_T_makeFromList_112 : qInv m_T_makeFromList 112 m_G_keyAt 1 1 := ⟨92, _, by decide +kernel, rfl, rfl, wd_320, wd_317, wd_318, by decide +kernel⟩
theorem i_T_makeFromList_115 : decode m_T_makeFromList.2.1 115 = .ok (.aload 5, 2) := by decide +kernel
theorem i_T_makeFromList_117 : qGet m_T_makeFromList 117 1 0 := ⟨131, _, by decide +kernel, rfl, by decide, rfl, Or.inr ⟨"PastTree", wd_37⟩⟩
theorem i_T_makeFromList_120 : decode m_T_makeFromList.2.1 120 = .ok (.i2l, 1) := by decide +kernel
theorem i_T_makeFromList_121 : qInv m_T_makeFromList 121 m_R_insert 2 2 := ⟨115, _, by decide +kernel, rfl, rfl, wd_333, wd_334, wd_335, by decide +kernel⟩
theorem i_T_makeFromList_124 : decode m_T_makeFromList.2.1 124 = .ok (.return_, 1) := by decide +kernel
theorem i_T_makePage_0 : decode m_T_makePage.2.1 0 = .ok (.aload_n 0, 1) := by decide +kernel
theorem i_T_makePage_1 : qGet m_T_makePage 1 3 3 := ⟨24, _, by decide +kernel, rfl, by decide, rfl, Or.inl wd_103⟩
theorem i_T_makePage_4 : decode m_T_makePage.2.1 4 = .ok (.sipush 255, 3) := by decide +kernel
theorem i_T_makePage_7 : qInvS m_T_makePage 7 m_J_minI 2 := ⟨180, by decide +kernel, wd_391, wd_392, by decide +kernel⟩
theorem i_T_makePage_10 : decode m_T_makePage.2.1 10 = .ok (.istore 6, 2) := by decide +kernel
theorem i_T_makePage_12 : decode m_T_makePage.2.1 12 = .ok (.aload_n 0, 1) := by decide +kernel
theorem i_T_makePage_13 : qGet m_T_makePage 13 3 1 := ⟨20, _, by decide +kernel, rfl, by decide, rfl, Or.inl wd_101⟩
theorem i_T_makePage_16 : decode m_T_makePage.2.1 16 = .ok (.iload 6, 2) := by decide +kernel
theorem i_T_makePage_18 : decode m_T_makePage.2.1 18 = .ok (.aaload, 1) := by decide +kernel
theorem i_T_makePage_19 : decode m_T_makePage.2.1 19 = .ok (.astore 7, 2) := by decide +kernel
theorem i_T_makePage_21 : decode m_T_makePage.2.1 21 = .ok (.aload 7, 2) := by decide +kernel
theorem i_T_makePage_23 : decode m_T_makePage.2.1 23 = .ok (.ifnonnull 23, 3) := by decide +kernel
theorem i_T_makePage_26 : qNew m_T_makePage 26 1 := ⟨9, _, by decide +kernel, rfl, wd_30, wd_31, wd_3⟩
theorem i_T_makePage_29 : decode m_T_makePage.2.1 29 = .ok (.dup, 1) := by decide +kernel
theorem i_T_makePage_30 : decode m_T_makePage.2.1 30 = .ok (.iload 6, 2) := by decide +kernel
theorem i_T_makePage_32 : qInvI m_T_makePage 32 m_G_init 1 := ⟨11, by decide +kernel, rfl, rfl, rfl, wd_32, wd_33, by decide +kernel⟩
theorem i_T_makePage_35 : decode m_T_makePage.2.1 35 = .ok (.astore 7, 2) := by decide +kernel
theorem i_T_makePage_37 : decode m_T_makePage.2.1 37 = .ok (.aload_n 0, 1) := by decide +kernel
theorem i_T_makePage_38 : qGet m_T_makePage 38 3 1 := ⟨20, _, by decide +kernel, rfl, by decide, rfl, Or.inl wd_101⟩
theorem i_T_makePage_41 : decode m_T_makePage.2.1 41 = .ok (.iload 6, 2) := by decide +kernel
theorem i_T_makePage_43 : decode m_T_makePage.2.1 43 = .ok (.aload 7, 2) := by decide +kernel
theorem i_T_makePage_45 : decode m_T_makePage.2.1 45 = .ok (.aastore, 1) := by decide +kernel
theorem i_T_makePage_46 : decode m_T_makePage.2.1 46 = .ok (.aload 7, 2) := by decide +kernel
theorem i_T_makePage_48 : decode m_T_makePage.2.1 48 = .ok (.iload_n 1, 1) := by decide +kernel
theorem i_T_makePage_49 : decode m_T_makePage.2.1 49 = .ok (.iload_n 2, 1) := by decide +kernel
theorem i_T_makePage_50 : qInv m_T_makePage 50 m_G_renew 1 2 := ⟨191, _, by decide +kernel, rfl, rfl, wd_394, wd_395, wd_396, by decide +kernel⟩
theorem i_T_makePage_53 : decode m_T_makePage.2.1 53 = .ok (.aload 7, 2) := by decide +kernel
theorem i_T_makePage_55 : decode m_T_makePage.2.1 55 = .ok (.aload_n 3, 1) := by decide +kernel
theorem i_T_makePage_56 : decode m_T_makePage.2.1 56 = .ok (.iload 4, 2) := by decide +kernel
theorem i_T_makePage_58 : decode m_T_makePage.2.1 58 = .ok (.iload 5, 2) := by decide +kernel
theorem i_T_makePage_60 : decode m_T_makePage.2.1 60 = .ok (.iload_n 2, 1) := by decide +kernel
theorem i_T_makePage_61 : qInv m_T_makePage 61 m_G_take 1 4 := ⟨166, _, by decide +kernel, rfl, rfl, wd_375, wd_376, wd_377, by decide +kernel⟩
theorem i_T_makePage_64 : decode m_T_makePage.2.1 64 = .ok (.aload_n 0, 1) := by decide +kernel
theorem i_T_makePage_65 : decode m_T_makePage.2.1 65 = .ok (.iload 6, 2) := by decide +kernel
theorem i_T_makePage_67 : decode m_T_makePage.2.1 67 = .ok (.iconst 1, 1) := by decide +kernel
theorem i_T_makePage_68 : decode m_T_makePage.2.1 68 = .ok (.iadd, 1) := by decide +kernel
theorem i_T_makePage_69 : qPut m_T_makePage 69 3 3 := ⟨24, _, by decide +kernel, rfl, by decide, rfl, Or.inl rfl, Or.inl wd_103⟩
theorem i_T_makePage_72 : decode m_T_makePage.2.1 72 = .ok (.aload 7, 2) := by decide +kernel
theorem i_T_makePage_74 : decode m_T_makePage.2.1 74 = .ok (.areturn, 1) := by decide +kernel
theorem i_T_changedSince_0 : decode m_T_changedSince.2.1 0 = .ok (.iconst 0, 1) := by decide +kernel
theorem i_T_changedSince_1 : decode m_T_changedSince.2.1 1 = .ok (.istore_n 2, 1) := by decide +kernel
theorem i_T_changedSince_2 : decode m_T_changedSince.2.1 2 = .ok (.iconst 0, 1) := by decide +kernel
theorem i_T_changedSince_3 : decode m_T_changedSince.2.1 3 = .ok (.istore_n 3, 1) := by decide +kernel
theorem i_T_changedSince_4 : decode m_T_changedSince.2.1 4 = .ok (.iload_n 3, 1) := by decide +kernel
theorem i_T_changedSince_5 : decode m_T_changedSince.2.1 5 = .ok (.aload_n 0, 1) := by decide +kernel
theorem i_T_changedSince_6 : qGet m_T_changedSince 6 3 3 := ⟨24, _, by decide +kernel, rfl, by decide, rfl, Or.inl wd_103⟩
theorem i_T_changedSince_9 : decode m_T_changedSince.2.1 9 = .ok (.if_icmp .ge 30, 3) := by decide +kernel
theorem i_T_changedSince_12 : decode m_T_changedSince.2.1 12 = .ok (.iload_n 2, 1) := by decide +kernel
theorem i_T_changedSince_13 : decode m_T_changedSince.2.1 13 = .ok (.aload_n 0, 1) := by decide +kernel
theorem i_T_changedSince_14 : decode m_T_changedSince.2.1 14 = .ok (.iload_n 3, 1) := by decide +kernel
theorem i_T_changedSince_15 : decode m_T_changedSince.2.1 15 = .ok (.i2l, 1) := by decide +kernel
theorem i_T_changedSince_16 : qInv m_T_changedSince 16 m_T_pageAt 3 1 := ⟨72, _, by decide +kernel, rfl, rfl, wd_283, wd_284, wd_285, by decide +kernel⟩
theorem i_T_changedSince_19 : decode m_T_changedSince.2.1 19 = .ok (.iload_n 1, 1) := by decide +kernel
theorem i_T_changedSince_20 : qInv m_T_changedSince 20 m_G_isChangedSince 1 1 := ⟨194, _, by decide +kernel, rfl, rfl, wd_711, wd_598, wd_599, by decide +kernel⟩
theorem i_T_changedSince_23 : decode m_T_changedSince.2.1 23 = .ok (.ifCond .eq 7, 3) := by decide +kernel
theorem i_T_changedSince_26 : decode m_T_changedSince.2.1 26 = .ok (.iconst 1, 1) := by decide +kernel
theorem i_T_changedSince_27 : decode m_T_changedSince.2.1 27 = .ok (.goto 4, 3) := by decide +kernel
theorem i_T_changedSince_30 : decode m_T_changedSince.2.1 30 = .ok (.iconst 0, 1) := by decide +kernel
theorem i_T_changedSince_31 : decode m_T_changedSince.2.1 31 = .ok (.iadd, 1) := by decide +kernel
theorem i_T_changedSince_32 : decode m_T_changedSince.2.1 32 = .ok (.istore_n 2, 1) := by decide +kernel
theorem i_T_changedSince_33 : decode m_T_changedSince.2.1 33 = .ok (.iinc 3 1, 3) := by decide +kernel
theorem i_T_changedSince_36 : decode m_T_changedSince.2.1 36 = .ok (.goto (-32), 3) := by decide +kernel
theorem i_T_changedSince_39 : decode m_T_changedSince.2.1 39 = .ok (.iload_n 2, 1) := by decide +kernel
theorem i_T_changedSince_40 : decode m_T_changedSince.2.1 40 = .ok (.ireturn, 1) := by decide +kernel
theorem i_T_isDense_0 : decode m_T_isDense.2.1 0 = .ok (.aload_n 0, 1) := by decide +kernel
theorem i_T_isDense_1 : qGet m_T_isDense 1 3 11 := ⟨197, _, by decide +kernel, rfl, by decide, rfl, Or.inl wd_113⟩
theorem i_T_isDense_4 : decode m_T_isDense.2.1 4 = .ok (.aload_n 0, 1) := by decide +kernel
theorem i_T_isDense_5 : qGet m_T_isDense 5 3 4 := ⟨99, _, by decide +kernel, rfl, by decide, rfl, Or.inl wd_106⟩
theorem i_T_isDense_8 : decode m_T_isDense.2.1 8 = .ok (.if_icmp .gt 27, 3) := by decide +kernel
theorem i_T_isDense_11 : decode m_T_isDense.2.1 11 = .ok (.aload_n 0, 1) := by decide +kernel
theorem i_T_isDense_12 : decode m_T_isDense.2.1 12 = .ok (.aload_n 0, 1) := by decide +kernel
theorem i_T_isDense_13 : qGet m_T_isDense 13 3 11 := ⟨197, _, by decide +kernel, rfl, by decide, rfl, Or.inl wd_113⟩
theorem i_T_isDense_16 : qInv m_T_isDense 16 m_T_isDenseAt 3 1 := ⟨200, _, by decide +kernel, rfl, rfl, wd_662, wd_664, ws_16, by decide +kernel⟩
theorem i_T_isDense_19 : decode m_T_isDense.2.1 19 = .ok (.ifCond .eq 16, 3) := by decide +kernel
theorem i_T_isDense_22 : decode m_T_isDense.2.1 22 = .ok (.aload_n 0, 1) := by decide +kernel
theorem i_T_isDense_23 : decode m_T_isDense.2.1 23 = .ok (.dup, 1) := by decide +kernel
theorem i_T_isDense_24 : qGet m_T_isDense 24 3 11 := ⟨197, _, by decide +kernel, rfl, by decide, rfl, Or.inl wd_113⟩
theorem i_T_isDense_27 : decode m_T_isDense.2.1 27 = .ok (.iconst 1, 1) := by decide +kernel
theorem i_T_isDense_28 : decode m_T_isDense.2.1 28 = .ok (.iadd, 1) := by decide +kernel
theorem i_T_isDense_29 : qPut m_T_isDense 29 3 11 := ⟨197, _, by decide +kernel, rfl, by decide, rfl, Or.inl rfl, Or.inl wd_113⟩
theorem i_T_isDense_32 : decode m_T_isDense.2.1 32 = .ok (.goto (-32), 3) := by decide +kernel
theorem i_T_isDense_35 : decode m_T_isDense.2.1 35 = .ok (.aload_n 0, 1) := by decide +kernel
theorem i_T_isDense_36 : qGet m_T_isDense 36 3 11 := ⟨197, _, by decide +kernel, rfl, by decide, rfl, Or.inl wd_113⟩
theorem i_T_isDense_39 : decode m_T_isDense.2.1 39 = .ok (.aload_n 0, 1) := by decide +kernel
theorem i_T_isDense_40 : qGet m_T_isDense 40 3 4 := ⟨99, _, by decide +kernel, rfl, by decide, rfl, Or.inl wd_106⟩
theorem i_T_isDense_43 : decode m_T_isDense.2.1 43 = .ok (.if_icmp .le 7, 3) := by decide +kernel
theorem i_T_isDense_46 : decode m_T_isDense.2.1 46 = .ok (.iconst 1, 1) := by decide +kernel
theorem i_T_isDense_47 : decode m_T_isDense.2.1 47 = .ok (.goto 4, 3) := by decide +kernel
theorem i_T_isDense_50 : decode m_T_isDense.2.1 50 = .ok (.iconst 0, 1) := by decide +kernel
theorem i_T_isDense_51 : decode m_T_isDense.2.1 51 = .ok (.ireturn, 1) := by decide +kernel
theorem i_T_isDenseAt_0 : decode m_T_isDenseAt.2.1 0 = .ok (.iconst 0, 1) := by decide +kernel
theorem i_T_isDenseAt_1 : decode m_T_isDenseAt.2.1 1 = .ok (.istore_n 2, 1) := by decide +kernel
theorem i_T_isDenseAt_2 : decode m_T_isDenseAt.2.1 2 = .ok (.iload_n 2, 1) := by decide +kernel
theorem i_T_isDenseAt_3 : decode m_T_isDenseAt.2.1 3 = .ok (.aload_n 0, 1) := by decide +kernel
theorem i_T_isDenseAt_4 : qGet m_T_isDenseAt 4 3 3 := ⟨24, _, by decide +kernel, rfl, by decide, rfl, Or.inl wd_103⟩
theorem i_T_isDenseAt_7 : decode m_T_isDenseAt.2.1 7 = .ok (.if_icmp .ge 44, 3) := by decide +kernel
theorem i_T_isDenseAt_10 : decode m_T_isDenseAt.2.1 10 = .ok (.aload_n 0, 1) := by decide +kernel
theorem i_T_isDenseAt_11 : decode m_T_isDenseAt.2.1 11 = .ok (.iload_n 2, 1) := by decide +kernel
theorem i_T_isDenseAt_12 : decode m_T_isDenseAt.2.1 12 = .ok (.i2l, 1) := by decide +kernel
theorem i_T_isDenseAt_13 : qInv m_T_isDenseAt 13 m_T_pageAt 3 1 := ⟨72, _, by decide +kernel, rfl, rfl, wd_283, wd_284, wd_285, by decide +kernel⟩
theorem i_T_isDenseAt_16 : decode m_T_isDenseAt.2.1 16 = .ok (.astore_n 3, 1) := by decide +kernel
theorem i_T_isDenseAt_17 : decode m_T_isDenseAt.2.1 17 = .ok (.iload_n 2, 1) := by decide +kernel
theorem i_T_isDenseAt_18 : decode m_T_isDenseAt.2.1 18 = .ok (.aload_n 0, 1) := by decide +kernel
theorem i_T_isDenseAt_19 : decode m_T_isDenseAt.2.1 19 = .ok (.iload_n 1, 1) := by decide +kernel
theorem i_T_isDenseAt_20 : qInv m_T_isDenseAt 20 m_T_rootOf 3 1 := ⟨68, _, by decide +kernel, rfl, rfl, wd_279, wd_280, wd_281, by decide +kernel⟩
theorem i_T_isDenseAt_23 : decode m_T_isDenseAt.2.1 23 = .ok (.if_icmp .eq 22, 3) := by decide +kernel
theorem i_T_isDenseAt_26 : decode m_T_isDenseAt.2.1 26 = .ok (.aload_n 3, 1) := by decide +kernel
theorem i_T_isDenseAt_27 : decode m_T_isDenseAt.2.1 27 = .ok (.iload_n 1, 1) := by decide +kernel
theorem i_T_isDenseAt_28 : qInv m_T_isDenseAt 28 m_G_serves 1 1 := ⟨203, _, by decide +kernel, rfl, rfl, wd_666, wd_610, wd_611, by decide +kernel⟩
theorem i_T_isDenseAt_31 : decode m_T_isDenseAt.2.1 31 = .ok (.ifCond .eq 14, 3) := by decide +kernel
theorem i_T_isDenseAt_34 : decode m_T_isDenseAt.2.1 34 = .ok (.aload_n 3, 1) := by decide +kernel
theorem i_T_isDenseAt_35 : decode m_T_isDenseAt.2.1 35 = .ok (.iload_n 1, 1) := by decide +kernel
theorem i_T_isDenseAt_36 : qInv m_T_isDenseAt 36 m_G_living 1 1 := ⟨206, _, by decide +kernel, rfl, rfl, wd_667, wd_614, wd_615, by decide +kernel⟩
theorem i_T_isDenseAt_39 : decode m_T_isDenseAt.2.1 39 = .ok (.iconst 3, 1) := by decide +kernel
theorem i_T_isDenseAt_40 : decode m_T_isDenseAt.2.1 40 = .ok (.if_icmp .ge 5, 3) := by decide +kernel
theorem i_T_isDenseAt_43 : decode m_T_isDenseAt.2.1 43 = .ok (.iconst 0, 1) := by decide +kernel
theorem i_T_isDenseAt_44 : decode m_T_isDenseAt.2.1 44 = .ok (.ireturn, 1) := by decide +kernel
theorem i_T_isDenseAt_45 : decode m_T_isDenseAt.2.1 45 = .ok (.iinc 2 1, 3) := by decide +kernel
theorem i_T_isDenseAt_48 : decode m_T_isDenseAt.2.1 48 = .ok (.goto (-46), 3) := by decide +kernel
theorem i_T_isDenseAt_51 : decode m_T_isDenseAt.2.1 51 = .ok (.iconst 1, 1) := by decide +kernel
theorem i_T_isDenseAt_52 : decode m_T_isDenseAt.2.1 52 = .ok (.ireturn, 1) := by decide +kernel
theorem i_T_goBackTo_0 : decode m_T_goBackTo.2.1 0 = .ok (.aload_n 0, 1) := by decide +kernel
theorem i_T_goBackTo_1 : qGet m_T_goBackTo 1 3 3 := ⟨24, _, by decide +kernel, rfl, by decide, rfl, Or.inl wd_103⟩
theorem i_T_goBackTo_4 : decode m_T_goBackTo.2.1 4 = .ok (.iconst 1, 1) := by decide +kernel
theorem i_T_goBackTo_5 : decode m_T_goBackTo.2.1 5 = .ok (.if_icmp .le 34, 3) := by decide +kernel
theorem i_T_goBackTo_8 : decode m_T_goBackTo.2.1 8 = .ok (.aload_n 0, 1) := by decide +kernel
theorem i_T_goBackTo_9 : decode m_T_goBackTo.2.1 9 = .ok (.aload_n 0, 1) := by decide +kernel
theorem i_T_goBackTo_10 : qGet m_T_goBackTo 10 3 3 := ⟨24, _, by decide +kernel, rfl, by decide, rfl, Or.inl wd_103⟩
theorem i_T_goBackTo_13 : decode m_T_goBackTo.2.1 13 = .ok (.iconst 1, 1) := by decide +kernel
theorem i_T_goBackTo_14 : decode m_T_goBackTo.2.1 14 = .ok (.isub, 1) := by decide +kernel
theorem i_T_goBackTo_15 : decode m_T_goBackTo.2.1 15 = .ok (.i2l, 1) := by decide +kernel
theorem i_T_goBackTo_16 : qInv m_T_goBackTo 16 m_T_pageAt 3 1 := ⟨72, _, by decide +kernel, rfl, rfl, wd_283, wd_284, wd_285, by decide +kernel⟩
theorem i_T_goBackTo_19 : qGet m_T_goBackTo 19 1 6 := ⟨209, _, by decide +kernel, rfl, by decide, rfl, Or.inr ⟨"PastTree", wd_47⟩⟩
theorem i_T_goBackTo_22 : decode m_T_goBackTo.2.1 22 = .ok (.iload_n 1, 1) := by decide +kernel
theorem i_T_goBackTo_23 : decode m_T_goBackTo.2.1 23 = .ok (.if_icmp .le 16, 3) := by decide +kernel
theorem i_T_goBackTo_26 : decode m_T_goBackTo.2.1 26 = .ok (.aload_n 0, 1) := by decide +kernel
theorem i_T_goBackTo_27 : decode m_T_goBackTo.2.1 27 = .ok (.dup, 1) := by decide +kernel
theorem i_T_goBackTo_28 : qGet m_T_goBackTo 28 3 3 := ⟨24, _, by decide +kernel, rfl, by decide, rfl, Or.inl wd_103⟩
theorem i_T_goBackTo_31 : decode m_T_goBackTo.2.1 31 = .ok (.iconst 1, 1) := by decide +kernel
theorem i_T_goBackTo_32 : decode m_T_goBackTo.2.1 32 = .ok (.isub, 1) := by decide +kernel
theorem i_T_goBackTo_33 : qPut m_T_goBackTo 33 3 3 := ⟨24, _, by decide +kernel, rfl, by decide, rfl, Or.inl rfl, Or.inl wd_103⟩
theorem i_T_goBackTo_36 : decode m_T_goBackTo.2.1 36 = .ok (.goto (-36), 3) := by decide +kernel
theorem i_T_goBackTo_39 : decode m_T_goBackTo.2.1 39 = .ok (.iconst 0, 1) := by decide +kernel
theorem i_T_goBackTo_40 : decode m_T_goBackTo.2.1 40 = .ok (.istore_n 2, 1) := by decide +kernel
theorem i_T_goBackTo_41 : decode m_T_goBackTo.2.1 41 = .ok (.iload_n 2, 1) := by decide +kernel
theorem i_T_goBackTo_42 : decode m_T_goBackTo.2.1 42 = .ok (.aload_n 0, 1) := by decide +kernel
theorem i_T_goBackTo_43 : qGet m_T_goBackTo 43 3 3 := ⟨24, _, by decide +kernel, rfl, by decide, rfl, Or.inl wd_103⟩
theorem i_T_goBackTo_46 : decode m_T_goBackTo.2.1 46 = .ok (.if_icmp .ge 19, 3) := by decide +kernel
theorem i_T_goBackTo_49 : decode m_T_goBackTo.2.1 49 = .ok (.aload_n 0, 1) := by decide +kernel
theorem i_T_goBackTo_50 : decode m_T_goBackTo.2.1 50 = .ok (.iload_n 2, 1) := by decide +kernel
theorem i_T_goBackTo_51 : decode m_T_goBackTo.2.1 51 = .ok (.i2l, 1) := by decide +kernel
theorem i_T_goBackTo_52 : qInv m_T_goBackTo 52 m_T_pageAt 3 1 := ⟨72, _, by decide +kernel, rfl, rfl, wd_283, wd_284, wd_285, by decide +kernel⟩
theorem i_T_goBackTo_55 : decode m_T_goBackTo.2.1 55 = .ok (.iload_n 1, 1) := by decide +kernel
theorem i_T_goBackTo_56 : qInv m_T_goBackTo 56 m_G_goBackTo 1 1 := ⟨212, _, by decide +kernel, rfl, rfl, wd_759, wd_760, wd_761, by decide +kernel⟩
theorem i_T_goBackTo_59 : decode m_T_goBackTo.2.1 59 = .ok (.iinc 2 1, 3) := by decide +kernel
theorem i_T_goBackTo_62 : decode m_T_goBackTo.2.1 62 = .ok (.goto (-21), 3) := by decide +kernel
theorem i_T_goBackTo_65 : decode m_T_goBackTo.2.1 65 = .ok (.aload_n 0, 1) := by decide +kernel
theorem i_T_goBackTo_66 : decode m_T_goBackTo.2.1 66 = .ok (.iload_n 1, 1) := by decide +kernel
theorem i_T_goBackTo_67 : qPut m_T_goBackTo 67 3 4 := ⟨99, _, by decide +kernel, rfl, by decide, rfl, Or.inl rfl, Or.inl wd_106⟩
theorem i_T_goBackTo_70 : decode m_T_goBackTo.2.1 70 = .ok (.aload_n 0, 1) := by decide +kernel
theorem i_T_goBackTo_71 : decode m_T_goBackTo.2.1 71 = .ok (.aload_n 0, 1) := by decide +kernel
theorem i_T_goBackTo_72 : qGet m_T_goBackTo 72 3 11 := ⟨197, _, by decide +kernel, rfl, by decide, rfl, Or.inl wd_113⟩
theorem i_T_goBackTo_75 : decode m_T_goBackTo.2.1 75 = .ok (.iload_n 1, 1) := by decide +kernel
theorem i_T_goBackTo_76 : decode m_T_goBackTo.2.1 76 = .ok (.iconst 1, 1) := by decide +kernel
theorem i_T_goBackTo_77 : decode m_T_goBackTo.2.1 77 = .ok (.iadd, 1) := by decide +kernel
theorem i_T_goBackTo_78 : qInvS m_T_goBackTo 78 m_J_minI 2 := ⟨180, by decide +kernel, wd_391, wd_392, by decide +kernel⟩
theorem i_T_goBackTo_81 : qPut m_T_goBackTo 81 3 11 := ⟨197, _, by decide +kernel, rfl, by decide, rfl, Or.inl rfl, Or.inl wd_113⟩
theorem i_T_goBackTo_84 : decode m_T_goBackTo.2.1 84 = .ok (.return_, 1) := by decide +kernel
theorem i_P_init_0 : decode m_P_init.2.1 0 = .ok (.aload_n 0, 1) := by decide +kernel
theorem i_P_init_1 : qObj m_P_init 1 := ⟨5, by decide +kernel, wd_21⟩
theorem i_P_init_4 : decode m_P_init.2.1 4 = .ok (.aload_n 0, 1) := by decide +kernel
theorem i_P_init_5 : qNew m_P_init 5 3 := ⟨11, _, by decide +kernel, rfl, wd_24, wd_25, wd_2⟩
theorem i_P_init_8 : decode m_P_init.2.1 8 = .ok (.dup, 1) := by decide +kernel
theorem i_P_init_9 : qInvI m_P_init 9 m_T_init 0 := ⟨13, by decide +kernel, rfl, rfl, rfl, wd_26, wd_27, by decide +kernel⟩
theorem i_P_init_12 : qPut m_P_init 12 4 0 := ⟨14, _, by decide +kernel, rfl, by decide, rfl, Or.inr ⟨rfl, rfl⟩, Or.inl wd_175⟩
theorem i_P_init_15 : decode m_P_init.2.1 15 = .ok (.aload_n 0, 1) := by decide +kernel
theorem i_P_init_16 : qNew m_P_init 16 0 := ⟨20, _, by decide +kernel, rfl, wd_139, wd_140, wd_6⟩
theorem i_P_init_19 : decode m_P_init.2.1 19 = .ok (.dup, 1) := by decide +kernel
theorem i_P_init_20 : qInvI m_P_init 20 m_D_init 0 := ⟨22, by decide +kernel, rfl, rfl, rfl, wd_141, wd_142, by decide +kernel⟩
theorem i_P_init_23 : qPut m_P_init 23 4 1 := ⟨23, _, by decide +kernel, rfl, by decide, rfl, Or.inr ⟨rfl, rfl⟩, Or.inl wd_176⟩
theorem i_P_init_26 : decode m_P_init.2.1 26 = .ok (.aload_n 0, 1) := by decide +kernel
theorem i_P_init_27 : qNew m_P_init 27 2 := ⟨27, _, by decide +kernel, rfl, wd_173, wd_77, wd_4⟩
theorem i_P_init_30 : decode m_P_init.2.1 30 = .ok (.dup, 1) := by decide +kernel
theorem i_P_init_31 : decode m_P_init.2.1 31 = .ok (.sipush 800, 3) := by decide +kernel
theorem i_P_init_34 : qInvI m_P_init 34 m_R_init 1 := ⟨29, by decide +kernel, rfl, rfl, rfl, wd_174, wd_79, by decide +kernel⟩
theorem i_P_init_37 : qPut m_P_init 37 4 2 := ⟨32, _, by decide +kernel, rfl, by decide, rfl, Or.inr ⟨rfl, rfl⟩, Or.inl wd_177⟩
theorem i_P_init_40 : decode m_P_init.2.1 40 = .ok (.aload_n 0, 1) := by decide +kernel
theorem i_P_init_41 : qNew m_P_init 41 2 := ⟨27, _, by decide +kernel, rfl, wd_173, wd_77, wd_4⟩
theorem i_P_init_44 : decode m_P_init.2.1 44 = .ok (.dup, 1) := by decide +kernel
theorem i_P_init_45 : decode m_P_init.2.1 45 = .ok (.sipush 800, 3) := by decide +kernel
theorem i_P_init_48 : qInvI m_P_init 48 m_R_init 1 := ⟨29, by decide +kernel, rfl, rfl, rfl, wd_174, wd_79, by decide +kernel⟩
theorem i_P_init_51 : qPut m_P_init 51 4 3 := ⟨36, _, by decide +kernel, rfl, by decide, rfl, Or.inr ⟨rfl, rfl⟩, Or.inl wd_178⟩
theorem i_P_init_54 : decode m_P_init.2.1 54 = .ok (.return_, 1) := by decide +kernel
theorem i_P_put_0 : decode m_P_put.2.1 0 = .ok (.aload_n 0, 1) := by decide +kernel
theorem i_P_put_1 : qInv m_P_put 1 m_P_demandUp 4 0 := ⟨39, _, by decide +kernel, rfl, rfl, wd_197, wd_199, ws_0, by decide +kernel⟩
theorem i_P_put_4 : decode m_P_put.2.1 4 = .ok (.aload_n 0, 1) := by decide +kernel
theorem i_P_put_5 : qGet m_P_put 5 4 0 := ⟨14, _, by decide +kernel, rfl, by decide, rfl, Or.inl wd_175⟩
theorem i_P_put_8 : decode m_P_put.2.1 8 = .ok (.iload_n 1, 1) := by decide +kernel
theorem i_P_put_9 : decode m_P_put.2.1 9 = .ok (.lload_n 2, 1) := by decide +kernel
theorem i_P_put_10 : decode m_P_put.2.1 10 = .ok (.iconst 1, 1) := by decide +kernel
theorem i_P_put_11 : qInv m_P_put 11 m_T_update 3 3 := ⟨42, _, by decide +kernel, rfl, rfl, wd_271, wd_272, wd_273, by decide +kernel⟩
theorem i_P_put_14 : qInvS m_P_put 14 m_P_unlessRefused 1 := ⟨46, by decide +kernel, wd_417, wd_418, by decide +kernel⟩
theorem i_P_put_17 : decode m_P_put.2.1 17 = .ok (.ireturn, 1) := by decide +kernel
theorem i_P_remove_0 : decode m_P_remove.2.1 0 = .ok (.aload_n 0, 1) := by decide +kernel
theorem i_P_remove_1 : qInv m_P_remove 1 m_P_demandUp 4 0 := ⟨39, _, by decide +kernel, rfl, rfl, wd_197, wd_199, ws_0, by decide +kernel⟩
theorem i_P_remove_4 : decode m_P_remove.2.1 4 = .ok (.aload_n 0, 1) := by decide +kernel
theorem i_P_remove_5 : qGet m_P_remove 5 4 0 := ⟨14, _, by decide +kernel, rfl, by decide, rfl, Or.inl wd_175⟩
theorem i_P_remove_8 : decode m_P_remove.2.1 8 = .ok (.aload_n 0, 1) := by decide +kernel
theorem i_P_remove_9 : qGet m_P_remove 9 4 0 := ⟨14, _, by decide +kernel, rfl, by decide, rfl, Or.inl wd_175⟩
theorem i_P_remove_12 : qGet m_P_remove 12 3 4 := ⟨50, _, by decide +kernel, rfl, by decide, rfl, Or.inr ⟨"PastTree", wd_105⟩⟩
theorem i_P_remove_15 : decode m_P_remove.2.1 15 = .ok (.iload_n 1, 1) := by decide +kernel
theorem i_P_remove_16 : decode m_P_remove.2.1 16 = .ok (.iload_n 1, 1) := by decide +kernel
theorem i_P_remove_17 : decode m_P_remove.2.1 17 = .ok (.aload_n 0, 1) := by decide +kernel
theorem i_P_remove_18 : qGet m_P_remove 18 4 2 := ⟨32, _, by decide +kernel, rfl, by decide, rfl, Or.inl wd_177⟩
theorem i_P_remove_21 : qInv m_P_remove 21 m_T_gather 3 4 := ⟨54, _, by decide +kernel, rfl, rfl, wd_444, wd_445, wd_446, by decide +kernel⟩
theorem i_P_remove_24 : decode m_P_remove.2.1 24 = .ok (.aload_n 0, 1) := by decide +kernel
theorem i_P_remove_25 : qGet m_P_remove 25 4 2 := ⟨32, _, by decide +kernel, rfl, by decide, rfl, Or.inl wd_177⟩
theorem i_P_remove_28 : qGet m_P_remove 28 2 2 := ⟨58, _, by decide +kernel, rfl, by decide, rfl, Or.inr ⟨"PastTree", wd_90⟩⟩
theorem i_P_remove_31 : decode m_P_remove.2.1 31 = .ok (.ifCond .ne 13, 3) := by decide +kernel
theorem i_P_remove_34 : decode m_P_remove.2.1 34 = .ok (.new 61, 3) := by decide +kernel
theorem i_P_remove_37 : decode m_P_remove.2.1 37 = .ok (.dup, 1) := by decide +kernel
theorem i_P_remove_38 : decode m_P_remove.2.1 38 = .ok (.ldc 63, 2) := by decide +kernel
theorem i_P_remove_40 : decode m_P_remove.2.1 40 = .ok (.invokespecial 65, 3) := by decide +kernel
theorem i_P_remove_43 : decode m_P_remove.2.1 43 = .ok (.athrow, 1) := by decide +kernel
theorem i_P_remove_44 : decode m_P_remove.2.1 44 = .ok (.aload_n 0, 1) := by decide +kernel
theorem i_P_remove_45 : qGet m_P_remove 45 4 0 := ⟨14, _, by decide +kernel, rfl, by decide, rfl, Or.inl wd_175⟩
theorem i_P_remove_48 : decode m_P_remove.2.1 48 = .ok (.iload_n 1, 1) := by decide +kernel
theorem i_P_remove_49 : decode m_P_remove.2.1 49 = .ok (.lconst 0, 1) := by decide +kernel
theorem i_P_remove_50 : decode m_P_remove.2.1 50 = .ok (.iconst 0, 1) := by decide +kernel
theorem i_P_remove_51 : qInv m_P_remove 51 m_T_update 3 3 := ⟨42, _, by decide +kernel, rfl, rfl, wd_271, wd_272, wd_273, by decide +kernel⟩
theorem i_P_remove_54 : qInvS m_P_remove 54 m_P_unlessRefused 1 := ⟨46, by decide +kernel, wd_417, wd_418, by decide +kernel⟩
theorem i_P_remove_57 : decode m_P_remove.2.1 57 = .ok (.ireturn, 1) := by decide +kernel
theorem i_P_version_0 : decode m_P_version.2.1 0 = .ok (.aload_n 0, 1) := by decide +kernel
theorem i_P_version_1 : qInv m_P_version 1 m_P_demandUp 4 0 := ⟨39, _, by decide +kernel, rfl, rfl, wd_197, wd_199, ws_0, by decide +kernel⟩
theorem i_P_version_4 : decode m_P_version.2.1 4 = .ok (.aload_n 0, 1) := by decide +kernel
theorem i_P_version_5 : qGet m_P_version 5 4 0 := ⟨14, _, by decide +kernel, rfl, by decide, rfl, Or.inl wd_175⟩
theorem i_P_version_8 : qGet m_P_version 8 3 4 := ⟨50, _, by decide +kernel, rfl, by decide, rfl, Or.inr ⟨"PastTree", wd_105⟩⟩
theorem i_P_version_11 : decode m_P_version.2.1 11 = .ok (.ireturn, 1) := by decide +kernel
theorem i_P_has_0 : decode m_P_has.2.1 0 = .ok (.aload_n 0, 1) := by decide +kernel
theorem i_P_has_1 : qInv m_P_has 1 m_P_demandUp 4 0 := ⟨39, _, by decide +kernel, rfl, rfl, wd_197, wd_199, ws_0, by decide +kernel⟩
theorem i_P_has_4 : decode m_P_has.2.1 4 = .ok (.aload_n 0, 1) := by decide +kernel
theorem i_P_has_5 : decode m_P_has.2.1 5 = .ok (.iload_n 1, 1) := by decide +kernel
theorem i_P_has_6 : qInv m_P_has 6 m_P_demandVersion 4 1 := ⟨68, _, by decide +kernel, rfl, rfl, wd_483, wd_485, ws_14, by decide +kernel⟩
theorem i_P_has_9 : decode m_P_has.2.1 9 = .ok (.aload_n 0, 1) := by decide +kernel
theorem i_P_has_10 : qGet m_P_has 10 4 0 := ⟨14, _, by decide +kernel, rfl, by decide, rfl, Or.inl wd_175⟩
theorem i_P_has_13 : decode m_P_has.2.1 13 = .ok (.iload_n 1, 1) := by decide +kernel
theorem i_P_has_14 : decode m_P_has.2.1 14 = .ok (.iload_n 2, 1) := by decide +kernel
theorem i_P_has_15 : decode m_P_has.2.1 15 = .ok (.iload_n 2, 1) := by decide +kernel
theorem i_P_has_16 : decode m_P_has.2.1 16 = .ok (.aload_n 0, 1) := by decide +kernel
theorem i_P_has_17 : qGet m_P_has 17 4 2 := ⟨32, _, by decide +kernel, rfl, by decide, rfl, Or.inl wd_177⟩
theorem i_P_has_20 : qInv m_P_has 20 m_T_gather 3 4 := ⟨54, _, by decide +kernel, rfl, rfl, wd_444, wd_445, wd_446, by decide +kernel⟩
theorem i_P_has_23 : decode m_P_has.2.1 23 = .ok (.aload_n 0, 1) := by decide +kernel
theorem i_P_has_24 : qGet m_P_has 24 4 2 := ⟨32, _, by decide +kernel, rfl, by decide, rfl, Or.inl wd_177⟩
theorem i_P_has_27 : qGet m_P_has 27 2 2 := ⟨58, _, by decide +kernel, rfl, by decide, rfl, Or.inr ⟨"PastTree", wd_90⟩⟩
theorem i_P_has_30 : decode m_P_has.2.1 30 = .ok (.ifCond .le 7, 3) := by decide +kernel
theorem i_P_has_33 : decode m_P_has.2.1 33 = .ok (.iconst 1, 1) := by decide +kernel
theorem i_P_has_34 : decode m_P_has.2.1 34 = .ok (.goto 4, 3) := by decide +kernel
theorem i_P_has_37 : decode m_P_has.2.1 37 = .ok (.iconst 0, 1) := by decide +kernel
theorem i_P_has_38 : decode m_P_has.2.1 38 = .ok (.ireturn, 1) := by decide +kernel
theorem i_P_get_0 : decode m_P_get.2.1 0 = .ok (.aload_n 0, 1) := by decide +kernel
theorem i_P_get_1 : qInv m_P_get 1 m_P_demandUp 4 0 := ⟨39, _, by decide +kernel, rfl, rfl, wd_197, wd_199, ws_0, by decide +kernel⟩
theorem i_P_get_4 : decode m_P_get.2.1 4 = .ok (.aload_n 0, 1) := by decide +kernel
theorem i_P_get_5 : decode m_P_get.2.1 5 = .ok (.iload_n 1, 1) := by decide +kernel
theorem i_P_get_6 : qInv m_P_get 6 m_P_demandVersion 4 1 := ⟨68, _, by decide +kernel, rfl, rfl, wd_483, wd_485, ws_14, by decide +kernel⟩
theorem i_P_get_9 : decode m_P_get.2.1 9 = .ok (.aload_n 0, 1) := by decide +kernel
theorem i_P_get_10 : qGet m_P_get 10 4 0 := ⟨14, _, by decide +kernel, rfl, by decide, rfl, Or.inl wd_175⟩
theorem i_P_get_13 : decode m_P_get.2.1 13 = .ok (.iload_n 1, 1) := by decide +kernel
theorem i_P_get_14 : decode m_P_get.2.1 14 = .ok (.iload_n 2, 1) := by decide +kernel
theorem i_P_get_15 : decode m_P_get.2.1 15 = .ok (.iload_n 2, 1) := by decide +kernel
theorem i_P_get_16 : decode m_P_get.2.1 16 = .ok (.aload_n 0, 1) := by decide +kernel
theorem i_P_get_17 : qGet m_P_get 17 4 2 := ⟨32, _, by decide +kernel, rfl, by decide, rfl, Or.inl wd_177⟩
theorem i_P_get_20 : qInv m_P_get 20 m_T_gather 3 4 := ⟨54, _, by decide +kernel, rfl, rfl, wd_444, wd_445, wd_446, by decide +kernel⟩
theorem i_P_get_23 : decode m_P_get.2.1 23 = .ok (.aload_n 0, 1) := by decide +kernel
theorem i_P_get_24 : qGet m_P_get 24 4 2 := ⟨32, _, by decide +kernel, rfl, by decide, rfl, Or.inl wd_177⟩
theorem i_P_get_27 : qGet m_P_get 27 2 2 := ⟨58, _, by decide +kernel, rfl, by decide, rfl, Or.inr ⟨"PastTree", wd_90⟩⟩
theorem i_P_get_30 : decode m_P_get.2.1 30 = .ok (.ifCond .ne 13, 3) := by decide +kernel
theorem i_P_get_33 : decode m_P_get.2.1 33 = .ok (.new 61, 3) := by decide +kernel
theorem i_P_get_36 : decode m_P_get.2.1 36 = .ok (.dup, 1) := by decide +kernel
theorem i_P_get_37 : decode m_P_get.2.1 37 = .ok (.ldc 71, 2) := by decide +kernel
theorem i_P_get_39 : decode m_P_get.2.1 39 = .ok (.invokespecial 65, 3) := by decide +kernel
theorem i_P_get_42 : decode m_P_get.2.1 42 = .ok (.athrow, 1) := by decide +kernel
theorem i_P_get_43 : decode m_P_get.2.1 43 = .ok (.aload_n 0, 1) := by decide +kernel
theorem i_P_get_44 : qGet m_P_get 44 4 2 := ⟨32, _, by decide +kernel, rfl, by decide, rfl, Or.inl wd_177⟩
theorem i_P_get_47 : decode m_P_get.2.1 47 = .ok (.iconst 0, 1) := by decide +kernel
theorem i_P_get_48 : qInv m_P_get 48 m_R_whatAt 2 1 := ⟨73, _, by decide +kernel, rfl, rfl, wd_511, wd_360, wd_361, by decide +kernel⟩
theorem i_P_get_51 : decode m_P_get.2.1 51 = .ok (.lreturn, 1) := by decide +kernel
theorem i_P_next_0 : decode m_P_next.2.1 0 = .ok (.aload_n 0, 1) := by decide +kernel
theorem i_P_next_1 : qInv m_P_next 1 m_P_demandUp 4 0 := ⟨39, _, by decide +kernel, rfl, rfl, wd_197, wd_199, ws_0, by decide +kernel⟩
theorem i_P_next_4 : decode m_P_next.2.1 4 = .ok (.aload_n 0, 1) := by decide +kernel
theorem i_P_next_5 : decode m_P_next.2.1 5 = .ok (.iload_n 1, 1) := by decide +kernel
theorem i_P_next_6 : qInv m_P_next 6 m_P_demandVersion 4 1 := ⟨68, _, by decide +kernel, rfl, rfl, wd_483, wd_485, ws_14, by decide +kernel⟩
theorem i_P_next_9 : decode m_P_next.2.1 9 = .ok (.aload_n 0, 1) := by decide +kernel
theorem i_P_next_10 : qGet m_P_next 10 4 0 := ⟨14, _, by decide +kernel, rfl, by decide, rfl, Or.inl wd_175⟩
theorem i_P_next_13 : decode m_P_next.2.1 13 = .ok (.iload_n 1, 1) := by decide +kernel
theorem i_P_next_14 : decode m_P_next.2.1 14 = .ok (.iload_n 2, 1) := by decide +kernel
theorem i_P_next_15 : decode m_P_next.2.1 15 = .ok (.ldc 77, 2) := by decide +kernel
theorem i_P_next_15_w : qIn (Cond.constant m_P_next.1.cls 77 2147483647) := wd_519
theorem i_P_next_17 : decode m_P_next.2.1 17 = .ok (.iconst 1, 1) := by decide +kernel
theorem i_P_next_18 : decode m_P_next.2.1 18 = .ok (.aload_n 0, 1) := by decide +kernel
theorem i_P_next_19 : qGet m_P_next 19 4 2 := ⟨32, _, by decide +kernel, rfl, by decide, rfl, Or.inl wd_177⟩
theorem i_P_next_22 : qInv m_P_next 22 m_T_gatherSome 3 5 := ⟨78, _, by decide +kernel, rfl, rfl, wd_520, wd_449, wd_450, by decide +kernel⟩
theorem i_P_next_25 : decode m_P_next.2.1 25 = .ok (.aload_n 0, 1) := by decide +kernel
theorem i_P_next_26 : qGet m_P_next 26 4 2 := ⟨32, _, by decide +kernel, rfl, by decide, rfl, Or.inl wd_177⟩
theorem i_P_next_29 : qGet m_P_next 29 2 2 := ⟨58, _, by decide +kernel, rfl, by decide, rfl, Or.inr ⟨"PastTree", wd_90⟩⟩
theorem i_P_next_32 : decode m_P_next.2.1 32 = .ok (.ifCond .ne 13, 3) := by decide +kernel
theorem i_P_next_35 : decode m_P_next.2.1 35 = .ok (.new 61, 3) := by decide +kernel
theorem i_P_next_38 : decode m_P_next.2.1 38 = .ok (.dup, 1) := by decide +kernel
theorem i_P_next_39 : decode m_P_next.2.1 39 = .ok (.ldc 82, 2) := by decide +kernel
theorem i_P_next_41 : decode m_P_next.2.1 41 = .ok (.invokespecial 65, 3) := by decide +kernel
theorem i_P_next_44 : decode m_P_next.2.1 44 = .ok (.athrow, 1) := by decide +kernel
theorem i_P_next_45 : decode m_P_next.2.1 45 = .ok (.aload_n 0, 1) := by decide +kernel
theorem i_P_next_46 : qGet m_P_next 46 4 2 := ⟨32, _, by decide +kernel, rfl, by decide, rfl, Or.inl wd_177⟩
theorem i_P_next_49 : decode m_P_next.2.1 49 = .ok (.iconst 0, 1) := by decide +kernel
theorem i_P_next_50 : qInv m_P_next 50 m_R_keyAt 2 1 := ⟨84, _, by decide +kernel, rfl, rfl, wd_522, wd_355, wd_356, by decide +kernel⟩
theorem i_P_next_53 : decode m_P_next.2.1 53 = .ok (.l2i, 1) := by decide +kernel
theorem i_P_next_54 : decode m_P_next.2.1 54 = .ok (.ireturn, 1) := by decide +kernel
theorem i_P_count_0 : decode m_P_count.2.1 0 = .ok (.aload_n 0, 1) := by decide +kernel
theorem i_P_count_1 : qInv m_P_count 1 m_P_demandUp 4 0 := ⟨39, _, by decide +kernel, rfl, rfl, wd_197, wd_199, ws_0, by decide +kernel⟩
theorem i_P_count_4 : decode m_P_count.2.1 4 = .ok (.aload_n 0, 1) := by decide +kernel
theorem i_P_count_5 : decode m_P_count.2.1 5 = .ok (.iload_n 1, 1) := by decide +kernel
theorem i_P_count_6 : qInv m_P_count 6 m_P_demandVersion 4 1 := ⟨68, _, by decide +kernel, rfl, rfl, wd_483, wd_485, ws_14, by decide +kernel⟩
theorem i_P_count_9 : decode m_P_count.2.1 9 = .ok (.aload_n 0, 1) := by decide +kernel
theorem i_P_count_10 : qGet m_P_count 10 4 0 := ⟨14, _, by decide +kernel, rfl, by decide, rfl, Or.inl wd_175⟩
theorem i_P_count_13 : decode m_P_count.2.1 13 = .ok (.iload_n 1, 1) := by decide +kernel
theorem i_P_count_14 : decode m_P_count.2.1 14 = .ok (.iload_n 2, 1) := by decide +kernel
theorem i_P_count_15 : decode m_P_count.2.1 15 = .ok (.iload_n 3, 1) := by decide +kernel
theorem i_P_count_16 : decode m_P_count.2.1 16 = .ok (.aload_n 0, 1) := by decide +kernel
theorem i_P_count_17 : qGet m_P_count 17 4 2 := ⟨32, _, by decide +kernel, rfl, by decide, rfl, Or.inl wd_177⟩
theorem i_P_count_20 : qInv m_P_count 20 m_T_gather 3 4 := ⟨54, _, by decide +kernel, rfl, rfl, wd_444, wd_445, wd_446, by decide +kernel⟩
theorem i_P_count_23 : decode m_P_count.2.1 23 = .ok (.aload_n 0, 1) := by decide +kernel
theorem i_P_count_24 : qGet m_P_count 24 4 2 := ⟨32, _, by decide +kernel, rfl, by decide, rfl, Or.inl wd_177⟩
theorem i_P_count_27 : qGet m_P_count 27 2 2 := ⟨58, _, by decide +kernel, rfl, by decide, rfl, Or.inr ⟨"PastTree", wd_90⟩⟩
theorem i_P_count_30 : decode m_P_count.2.1 30 = .ok (.ireturn, 1) := by decide +kernel
theorem i_P_sum_0 : decode m_P_sum.2.1 0 = .ok (.aload_n 0, 1) := by decide +kernel
theorem i_P_sum_1 : qInv m_P_sum 1 m_P_demandUp 4 0 := ⟨39, _, by decide +kernel, rfl, rfl, wd_197, wd_199, ws_0, by decide +kernel⟩
theorem i_P_sum_4 : decode m_P_sum.2.1 4 = .ok (.aload_n 0, 1) := by decide +kernel
theorem i_P_sum_5 : decode m_P_sum.2.1 5 = .ok (.iload_n 1, 1) := by decide +kernel
theorem i_P_sum_6 : qInv m_P_sum 6 m_P_demandVersion 4 1 := ⟨68, _, by decide +kernel, rfl, rfl, wd_483, wd_485, ws_14, by decide +kernel⟩
theorem i_P_sum_9 : decode m_P_sum.2.1 9 = .ok (.aload_n 0, 1) := by decide +kernel
theorem i_P_sum_10 : qGet m_P_sum 10 4 0 := ⟨14, _, by decide +kernel, rfl, by decide, rfl, Or.inl wd_175⟩
theorem i_P_sum_13 : decode m_P_sum.2.1 13 = .ok (.iload_n 1, 1) := by decide +kernel
theorem i_P_sum_14 : decode m_P_sum.2.1 14 = .ok (.iload_n 2, 1) := by decide +kernel
theorem i_P_sum_15 : decode m_P_sum.2.1 15 = .ok (.iload_n 3, 1) := by decide +kernel
theorem i_P_sum_16 : decode m_P_sum.2.1 16 = .ok (.aload_n 0, 1) := by decide +kernel
theorem i_P_sum_17 : qGet m_P_sum 17 4 2 := ⟨32, _, by decide +kernel, rfl, by decide, rfl, Or.inl wd_177⟩
theorem i_P_sum_20 : qInv m_P_sum 20 m_T_gather 3 4 := ⟨54, _, by decide +kernel, rfl, rfl, wd_444, wd_445, wd_446, by decide +kernel⟩
theorem i_P_sum_23 : decode m_P_sum.2.1 23 = .ok (.aload_n 0, 1) := by decide +kernel
theorem i_P_sum_24 : qGet m_P_sum 24 4 2 := ⟨32, _, by decide +kernel, rfl, by decide, rfl, Or.inl wd_177⟩
theorem i_P_sum_27 : qInv m_P_sum 27 m_R_total 2 0 := ⟨87, _, by decide +kernel, rfl, rfl, wd_537, wd_538, wd_539, by decide +kernel⟩
theorem i_P_sum_30 : decode m_P_sum.2.1 30 = .ok (.lreturn, 1) := by decide +kernel
theorem i_P_differs_0 : decode m_P_differs.2.1 0 = .ok (.aload_n 0, 1) := by decide +kernel
theorem i_P_differs_1 : qInv m_P_differs 1 m_P_demandUp 4 0 := ⟨39, _, by decide +kernel, rfl, rfl, wd_197, wd_199, ws_0, by decide +kernel⟩
theorem i_P_differs_4 : decode m_P_differs.2.1 4 = .ok (.aload_n 0, 1) := by decide +kernel
theorem i_P_differs_5 : decode m_P_differs.2.1 5 = .ok (.iload_n 1, 1) := by decide +kernel
theorem i_P_differs_6 : qInv m_P_differs 6 m_P_demandVersion 4 1 := ⟨68, _, by decide +kernel, rfl, rfl, wd_483, wd_485, ws_14, by decide +kernel⟩
theorem i_P_differs_9 : decode m_P_differs.2.1 9 = .ok (.aload_n 0, 1) := by decide +kernel
theorem i_P_differs_10 : decode m_P_differs.2.1 10 = .ok (.iload_n 2, 1) := by decide +kernel
theorem i_P_differs_11 : qInv m_P_differs 11 m_P_demandVersion 4 1 := ⟨68, _, by decide +kernel, rfl, rfl, wd_483, wd_485, ws_14, by decide +kernel⟩
theorem i_P_differs_14 : decode m_P_differs.2.1 14 = .ok (.iload_n 3, 1) := by decide +kernel
theorem i_P_differs_15 : decode m_P_differs.2.1 15 = .ok (.ifCond .ge 13, 3) := by decide +kernel
theorem i_P_differs_18 : decode m_P_differs.2.1 18 = .ok (.new 91, 3) := by decide +kernel
theorem i_P_differs_21 : decode m_P_differs.2.1 21 = .ok (.dup, 1) := by decide +kernel
theorem i_P_differs_22 : decode m_P_differs.2.1 22 = .ok (.ldc 93, 2) := by decide +kernel
theorem i_P_differs_24 : decode m_P_differs.2.1 24 = .ok (.invokespecial 95, 3) := by decide +kernel
theorem i_P_differs_27 : decode m_P_differs.2.1 27 = .ok (.athrow, 1) := by decide +kernel
theorem i_P_differs_28 : decode m_P_differs.2.1 28 = .ok (.aload_n 0, 1) := by decide +kernel
theorem i_P_differs_29 : qGet m_P_differs 29 4 0 := ⟨14, _, by decide +kernel, rfl, by decide, rfl, Or.inl wd_175⟩
theorem i_P_differs_32 : decode m_P_differs.2.1 32 = .ok (.iload_n 1, 1) := by decide +kernel
theorem i_P_differs_33 : decode m_P_differs.2.1 33 = .ok (.ldc 96, 2) := by decide +kernel
theorem i_P_differs_33_w : qIn (Cond.constant m_P_differs.1.cls 96 (-2147483648)) := wd_565
theorem i_P_differs_35 : decode m_P_differs.2.1 35 = .ok (.ldc 77, 2) := by decide +kernel
theorem i_P_differs_35_w : qIn (Cond.constant m_P_differs.1.cls 77 2147483647) := wd_519
theorem i_P_differs_37 : decode m_P_differs.2.1 37 = .ok (.aload_n 0, 1) := by decide +kernel
theorem i_P_differs_38 : qGet m_P_differs 38 4 2 := ⟨32, _, by decide +kernel, rfl, by decide, rfl, Or.inl wd_177⟩
theorem i_P_differs_41 : qInv m_P_differs 41 m_T_gather 3 4 := ⟨54, _, by decide +kernel, rfl, rfl, wd_444, wd_445, wd_446, by decide +kernel⟩
theorem i_P_differs_44 : decode m_P_differs.2.1 44 = .ok (.aload_n 0, 1) := by decide +kernel
theorem i_P_differs_45 : qGet m_P_differs 45 4 0 := ⟨14, _, by decide +kernel, rfl, by decide, rfl, Or.inl wd_175⟩
theorem i_P_differs_48 : decode m_P_differs.2.1 48 = .ok (.iload_n 2, 1) := by decide +kernel
theorem i_P_differs_49 : decode m_P_differs.2.1 49 = .ok (.ldc 96, 2) := by decide +kernel
theorem i_P_differs_49_w : qIn (Cond.constant m_P_differs.1.cls 96 (-2147483648)) := wd_565
theorem i_P_differs_51 : decode m_P_differs.2.1 51 = .ok (.ldc 77, 2) := by decide +kernel
theorem i_P_differs_51_w : qIn (Cond.constant m_P_differs.1.cls 77 2147483647) := wd_519
theorem i_P_differs_53 : decode m_P_differs.2.1 53 = .ok (.aload_n 0, 1) := by decide +kernel
theorem i_P_differs_54 : qGet m_P_differs 54 4 3 := ⟨36, _, by decide +kernel, rfl, by decide, rfl, Or.inl wd_178⟩
theorem i_P_differs_57 : qInv m_P_differs 57 m_T_gather 3 4 := ⟨54, _, by decide +kernel, rfl, rfl, wd_444, wd_445, wd_446, by decide +kernel⟩
theorem i_P_differs_60 : decode m_P_differs.2.1 60 = .ok (.aload_n 0, 1) := by decide +kernel
theorem i_P_differs_61 : qGet m_P_differs 61 4 2 := ⟨32, _, by decide +kernel, rfl, by decide, rfl, Or.inl wd_177⟩
theorem i_P_differs_64 : decode m_P_differs.2.1 64 = .ok (.aload_n 0, 1) := by decide +kernel
theorem i_P_differs_65 : qGet m_P_differs 65 4 3 := ⟨36, _, by decide +kernel, rfl, by decide, rfl, Or.inl wd_178⟩
theorem i_P_differs_68 : decode m_P_differs.2.1 68 = .ok (.iload_n 3, 1) := by decide +kernel
theorem i_P_differs_69 : qInv m_P_differs 69 m_R_differing 2 2 := ⟨97, _, by decide +kernel, rfl, rfl, wd_566, wd_567, wd_568, by decide +kernel⟩
theorem i_P_differs_72 : decode m_P_differs.2.1 72 = .ok (.lstore 4, 2) := by decide +kernel
theorem i_P_differs_74 : decode m_P_differs.2.1 74 = .ok (.lload 4, 2) := by decide +kernel
theorem i_P_differs_76 : decode m_P_differs.2.1 76 = .ok (.ldc2_w 101, 3) := by decide +kernel
theorem i_P_differs_76_w : qIn (Cond.constantLong m_P_differs.1.cls 101 9223372036854775807) := wd_575
theorem i_P_differs_79 : decode m_P_differs.2.1 79 = .ok (.lcmp, 1) := by decide +kernel
theorem i_P_differs_80 : decode m_P_differs.2.1 80 = .ok (.ifCond .ne 13, 3) := by decide +kernel
theorem i_P_differs_83 : decode m_P_differs.2.1 83 = .ok (.new 61, 3) := by decide +kernel
theorem i_P_differs_86 : decode m_P_differs.2.1 86 = .ok (.dup, 1) := by decide +kernel
theorem i_P_differs_87 : decode m_P_differs.2.1 87 = .ok (.ldc 103, 2) := by decide +kernel
theorem i_P_differs_89 : decode m_P_differs.2.1 89 = .ok (.invokespecial 65, 3) := by decide +kernel
theorem i_P_differs_92 : decode m_P_differs.2.1 92 = .ok (.athrow, 1) := by decide +kernel
theorem i_P_differs_93 : decode m_P_differs.2.1 93 = .ok (.lload 4, 2) := by decide +kernel
theorem i_P_differs_95 : decode m_P_differs.2.1 95 = .ok (.l2i, 1) := by decide +kernel
theorem i_P_differs_96 : decode m_P_differs.2.1 96 = .ok (.ireturn, 1) := by decide +kernel
theorem i_P_pages_0 : decode m_P_pages.2.1 0 = .ok (.aload_n 0, 1) := by decide +kernel
theorem i_P_pages_1 : qInv m_P_pages 1 m_P_demandUp 4 0 := ⟨39, _, by decide +kernel, rfl, rfl, wd_197, wd_199, ws_0, by decide +kernel⟩
theorem i_P_pages_4 : decode m_P_pages.2.1 4 = .ok (.aload_n 0, 1) := by decide +kernel
theorem i_P_pages_5 : qGet m_P_pages 5 4 0 := ⟨14, _, by decide +kernel, rfl, by decide, rfl, Or.inl wd_175⟩
theorem i_P_pages_8 : qGet m_P_pages 8 3 3 := ⟨105, _, by decide +kernel, rfl, by decide, rfl, Or.inr ⟨"PastTree", wd_104⟩⟩
theorem i_P_pages_11 : decode m_P_pages.2.1 11 = .ok (.ireturn, 1) := by decide +kernel
theorem i_P_page_0 : decode m_P_page.2.1 0 = .ok (.aload_n 0, 1) := by decide +kernel
theorem i_P_page_1 : qInv m_P_page 1 m_P_demandUp 4 0 := ⟨39, _, by decide +kernel, rfl, rfl, wd_197, wd_199, ws_0, by decide +kernel⟩
theorem i_P_page_4 : decode m_P_page.2.1 4 = .ok (.aload_n 0, 1) := by decide +kernel
theorem i_P_page_5 : decode m_P_page.2.1 5 = .ok (.iload_n 1, 1) := by decide +kernel
theorem i_P_page_6 : qInv m_P_page 6 m_P_demandPage 4 1 := ⟨108, _, by decide +kernel, rfl, rfl, wd_591, wd_593, ws_15, by decide +kernel⟩
theorem i_P_page_9 : decode m_P_page.2.1 9 = .ok (.aload_n 0, 1) := by decide +kernel
theorem i_P_page_10 : qGet m_P_page 10 4 0 := ⟨14, _, by decide +kernel, rfl, by decide, rfl, Or.inl wd_175⟩
theorem i_P_page_13 : decode m_P_page.2.1 13 = .ok (.iload_n 1, 1) := by decide +kernel
theorem i_P_page_14 : decode m_P_page.2.1 14 = .ok (.i2l, 1) := by decide +kernel
theorem i_P_page_15 : qInv m_P_page 15 m_T_pageAt 3 1 := ⟨111, _, by decide +kernel, rfl, rfl, wd_596, wd_284, wd_285, by decide +kernel⟩
theorem i_P_page_18 : decode m_P_page.2.1 18 = .ok (.astore_n 3, 1) := by decide +kernel
theorem i_P_page_19 : decode m_P_page.2.1 19 = .ok (.iload_n 2, 1) := by decide +kernel
theorem i_P_page_20 : decode m_P_page.2.1 20 = .ok (.tableswitch 76 0 4 #[36, 41, 46, 51, 56], 36) := by decide +kernel
theorem i_P_page_56 : decode m_P_page.2.1 56 = .ok (.aload_n 3, 1) := by decide +kernel
theorem i_P_page_57 : qGet m_P_page 57 1 5 := ⟨115, _, by decide +kernel, rfl, by decide, rfl, Or.inr ⟨"PastTree", wd_44⟩⟩
theorem i_P_page_60 : decode m_P_page.2.1 60 = .ok (.ireturn, 1) := by decide +kernel
theorem i_P_page_61 : decode m_P_page.2.1 61 = .ok (.aload_n 3, 1) := by decide +kernel
theorem i_P_page_62 : qGet m_P_page 62 1 6 := ⟨120, _, by decide +kernel, rfl, by decide, rfl, Or.inr ⟨"PastTree", wd_46⟩⟩
theorem i_P_page_65 : decode m_P_page.2.1 65 = .ok (.ireturn, 1) := by decide +kernel
theorem i_P_page_66 : decode m_P_page.2.1 66 = .ok (.aload_n 3, 1) := by decide +kernel
theorem i_P_page_67 : qGet m_P_page 67 1 7 := ⟨123, _, by decide +kernel, rfl, by decide, rfl, Or.inr ⟨"PastTree", wd_50⟩⟩
theorem i_P_page_70 : decode m_P_page.2.1 70 = .ok (.ireturn, 1) := by decide +kernel
theorem i_P_page_71 : decode m_P_page.2.1 71 = .ok (.aload_n 3, 1) := by decide +kernel
theorem i_P_page_72 : qGet m_P_page 72 1 8 := ⟨126, _, by decide +kernel, rfl, by decide, rfl, Or.inr ⟨"PastTree", wd_52⟩⟩
theorem i_P_page_75 : decode m_P_page.2.1 75 = .ok (.ireturn, 1) := by decide +kernel
theorem i_P_page_76 : decode m_P_page.2.1 76 = .ok (.aload_n 3, 1) := by decide +kernel
theorem i_P_page_77 : decode m_P_page.2.1 77 = .ok (.aload_n 0, 1) := by decide +kernel
theorem i_P_page_78 : qGet m_P_page 78 4 1 := ⟨23, _, by decide +kernel, rfl, by decide, rfl, Or.inl wd_176⟩
theorem i_P_page_81 : qGet m_P_page 81 0 4 := ⟨127, _, by decide +kernel, rfl, by decide, rfl, Or.inr ⟨"PastTree", wd_152⟩⟩
theorem i_P_page_84 : qInv m_P_page 84 m_G_isChangedSince 1 1 := ⟨130, _, by decide +kernel, rfl, rfl, wd_597, wd_598, wd_599, by decide +kernel⟩
theorem i_P_page_87 : decode m_P_page.2.1 87 = .ok (.ifCond .eq 7, 3) := by decide +kernel
theorem i_P_page_90 : decode m_P_page.2.1 90 = .ok (.iconst 1, 1) := by decide +kernel
theorem i_P_page_91 : decode m_P_page.2.1 91 = .ok (.goto 4, 3) := by decide +kernel
theorem i_P_page_94 : decode m_P_page.2.1 94 = .ok (.iconst 0, 1) := by decide +kernel
theorem i_P_page_95 : decode m_P_page.2.1 95 = .ok (.ireturn, 1) := by decide +kernel
theorem i_P_page_96 : decode m_P_page.2.1 96 = .ok (.new 91, 3) := by decide +kernel
theorem i_P_page_99 : decode m_P_page.2.1 99 = .ok (.dup, 1) := by decide +kernel
theorem i_P_page_100 : decode m_P_page.2.1 100 = .ok (.ldc 134, 2) := by decide +kernel
theorem i_P_page_102 : decode m_P_page.2.1 102 = .ok (.invokespecial 95, 3) := by decide +kernel
theorem i_P_page_105 : decode m_P_page.2.1 105 = .ok (.athrow, 1) := by decide +kernel
theorem i_P_alive_0 : decode m_P_alive.2.1 0 = .ok (.aload_n 0, 1) := by decide +kernel
theorem i_P_alive_1 : qInv m_P_alive 1 m_P_demandUp 4 0 := ⟨39, _, by decide +kernel, rfl, rfl, wd_197, wd_199, ws_0, by decide +kernel⟩
theorem i_P_alive_4 : decode m_P_alive.2.1 4 = .ok (.aload_n 0, 1) := by decide +kernel
theorem i_P_alive_5 : decode m_P_alive.2.1 5 = .ok (.iload_n 1, 1) := by decide +kernel
theorem i_P_alive_6 : qInv m_P_alive 6 m_P_demandPage 4 1 := ⟨108, _, by decide +kernel, rfl, rfl, wd_591, wd_593, ws_15, by decide +kernel⟩
theorem i_P_alive_9 : decode m_P_alive.2.1 9 = .ok (.aload_n 0, 1) := by decide +kernel
theorem i_P_alive_10 : decode m_P_alive.2.1 10 = .ok (.iload_n 2, 1) := by decide +kernel
theorem i_P_alive_11 : qInv m_P_alive 11 m_P_demandVersion 4 1 := ⟨68, _, by decide +kernel, rfl, rfl, wd_483, wd_485, ws_14, by decide +kernel⟩
theorem i_P_alive_14 : decode m_P_alive.2.1 14 = .ok (.aload_n 0, 1) := by decide +kernel
theorem i_P_alive_15 : qGet m_P_alive 15 4 0 := ⟨14, _, by decide +kernel, rfl, by decide, rfl, Or.inl wd_175⟩
theorem i_P_alive_18 : decode m_P_alive.2.1 18 = .ok (.iload_n 1, 1) := by decide +kernel
theorem i_P_alive_19 : decode m_P_alive.2.1 19 = .ok (.i2l, 1) := by decide +kernel
theorem i_P_alive_20 : qInv m_P_alive 20 m_T_pageAt 3 1 := ⟨111, _, by decide +kernel, rfl, rfl, wd_596, wd_284, wd_285, by decide +kernel⟩
theorem i_P_alive_23 : decode m_P_alive.2.1 23 = .ok (.astore_n 3, 1) := by decide +kernel
theorem i_P_alive_24 : decode m_P_alive.2.1 24 = .ok (.aload_n 3, 1) := by decide +kernel
theorem i_P_alive_25 : decode m_P_alive.2.1 25 = .ok (.iload_n 2, 1) := by decide +kernel
theorem i_P_alive_26 : qInv m_P_alive 26 m_G_serves 1 1 := ⟨136, _, by decide +kernel, rfl, rfl, wd_609, wd_610, wd_611, by decide +kernel⟩
theorem i_P_alive_29 : decode m_P_alive.2.1 29 = .ok (.ifCond .eq 11, 3) := by decide +kernel
theorem i_P_alive_32 : decode m_P_alive.2.1 32 = .ok (.aload_n 3, 1) := by decide +kernel
theorem i_P_alive_33 : decode m_P_alive.2.1 33 = .ok (.iload_n 2, 1) := by decide +kernel
theorem i_P_alive_34 : qInv m_P_alive 34 m_G_living 1 1 := ⟨139, _, by decide +kernel, rfl, rfl, wd_613, wd_614, wd_615, by decide +kernel⟩
theorem i_P_alive_37 : decode m_P_alive.2.1 37 = .ok (.goto 4, 3) := by decide +kernel
theorem i_P_alive_40 : decode m_P_alive.2.1 40 = .ok (.iconst (-1), 1) := by decide +kernel
theorem i_P_alive_41 : decode m_P_alive.2.1 41 = .ok (.ireturn, 1) := by decide +kernel
theorem i_P_entry_0 : decode m_P_entry.2.1 0 = .ok (.aload_n 0, 1) := by decide +kernel
theorem i_P_entry_1 : qInv m_P_entry 1 m_P_demandUp 4 0 := ⟨39, _, by decide +kernel, rfl, rfl, wd_197, wd_199, ws_0, by decide +kernel⟩
theorem i_P_entry_4 : decode m_P_entry.2.1 4 = .ok (.aload_n 0, 1) := by decide +kernel
theorem i_P_entry_5 : decode m_P_entry.2.1 5 = .ok (.iload_n 1, 1) := by decide +kernel
theorem i_P_entry_6 : qInv m_P_entry 6 m_P_demandPage 4 1 := ⟨108, _, by decide +kernel, rfl, rfl, wd_591, wd_593, ws_15, by decide +kernel⟩
theorem i_P_entry_9 : decode m_P_entry.2.1 9 = .ok (.aload_n 0, 1) := by decide +kernel
theorem i_P_entry_10 : qGet m_P_entry 10 4 0 := ⟨14, _, by decide +kernel, rfl, by decide, rfl, Or.inl wd_175⟩
theorem i_P_entry_13 : decode m_P_entry.2.1 13 = .ok (.iload_n 1, 1) := by decide +kernel
theorem i_P_entry_14 : decode m_P_entry.2.1 14 = .ok (.i2l, 1) := by decide +kernel
theorem i_P_entry_15 : qInv m_P_entry 15 m_T_pageAt 3 1 := ⟨111, _, by decide +kernel, rfl, rfl, wd_596, wd_284, wd_285, by decide +kernel⟩
theorem i_P_entry_18 : decode m_P_entry.2.1 18 = .ok (.astore 4, 2) := by decide +kernel
theorem i_P_entry_20 : decode m_P_entry.2.1 20 = .ok (.iload_n 2, 1) := by decide +kernel
theorem i_P_entry_21 : decode m_P_entry.2.1 21 = .ok (.ifCond .lt 12, 3) := by decide +kernel
theorem i_P_entry_24 : decode m_P_entry.2.1 24 = .ok (.iload_n 2, 1) := by decide +kernel
theorem i_P_entry_25 : decode m_P_entry.2.1 25 = .ok (.aload 4, 2) := by decide +kernel
theorem i_P_entry_27 : qGet m_P_entry 27 1 8 := ⟨126, _, by decide +kernel, rfl, by decide, rfl, Or.inr ⟨"PastTree", wd_52⟩⟩
theorem i_P_entry_30 : decode m_P_entry.2.1 30 = .ok (.if_icmp .lt 13, 3) := by decide +kernel
theorem i_P_entry_33 : decode m_P_entry.2.1 33 = .ok (.new 142, 3) := by decide +kernel
theorem i_P_entry_36 : decode m_P_entry.2.1 36 = .ok (.dup, 1) := by decide +kernel
theorem i_P_entry_37 : decode m_P_entry.2.1 37 = .ok (.ldc 144, 2) := by decide +kernel
theorem i_P_entry_39 : decode m_P_entry.2.1 39 = .ok (.invokespecial 146, 3) := by decide +kernel
theorem i_P_entry_42 : decode m_P_entry.2.1 42 = .ok (.athrow, 1) := by decide +kernel
theorem i_P_entry_43 : decode m_P_entry.2.1 43 = .ok (.iload_n 3, 1) := by decide +kernel
theorem i_P_entry_44 : decode m_P_entry.2.1 44 = .ok (.tableswitch 63 0 3 #[32, 40, 48, 56], 32) := by decide +kernel
theorem i_P_entry_76 : decode m_P_entry.2.1 76 = .ok (.aload 4, 2) := by decide +kernel
theorem i_P_entry_78 : decode m_P_entry.2.1 78 = .ok (.iload_n 2, 1) := by decide +kernel
theorem i_P_entry_79 : qInv m_P_entry 79 m_G_keyAt 1 1 := ⟨147, _, by decide +kernel, rfl, rfl, wd_625, wd_317, wd_318, by decide +kernel⟩
theorem i_P_entry_82 : decode m_P_entry.2.1 82 = .ok (.i2l, 1) := by decide +kernel
theorem i_P_entry_83 : decode m_P_entry.2.1 83 = .ok (.lreturn, 1) := by decide +kernel
theorem i_P_entry_84 : decode m_P_entry.2.1 84 = .ok (.aload 4, 2) := by decide +kernel
theorem i_P_entry_86 : decode m_P_entry.2.1 86 = .ok (.iload_n 2, 1) := by decide +kernel
theorem i_P_entry_87 : qInv m_P_entry 87 m_G_fromAt 1 1 := ⟨149, _, by decide +kernel, rfl, rfl, wd_626, wd_627, wd_628, by decide +kernel⟩
theorem i_P_entry_90 : decode m_P_entry.2.1 90 = .ok (.i2l, 1) := by decide +kernel
theorem i_P_entry_91 : decode m_P_entry.2.1 91 = .ok (.lreturn, 1) := by decide +kernel
theorem i_P_entry_92 : decode m_P_entry.2.1 92 = .ok (.aload 4, 2) := by decide +kernel
theorem i_P_entry_94 : decode m_P_entry.2.1 94 = .ok (.iload_n 2, 1) := by decide +kernel
theorem i_P_entry_95 : qInv m_P_entry 95 m_G_toAt 1 1 := ⟨152, _, by decide +kernel, rfl, rfl, wd_630, wd_631, wd_632, by decide +kernel⟩
theorem i_P_entry_98 : decode m_P_entry.2.1 98 = .ok (.i2l, 1) := by decide +kernel
theorem i_P_entry_99 : decode m_P_entry.2.1 99 = .ok (.lreturn, 1) := by decide +kernel
theorem i_P_entry_100 : decode m_P_entry.2.1 100 = .ok (.aload 4, 2) := by decide +kernel
theorem i_P_entry_102 : decode m_P_entry.2.1 102 = .ok (.iload_n 2, 1) := by decide +kernel
theorem i_P_entry_103 : qInv m_P_entry 103 m_G_whatAt 1 1 := ⟨155, _, by decide +kernel, rfl, rfl, wd_634, wd_322, wd_323, by decide +kernel⟩
theorem i_P_entry_106 : decode m_P_entry.2.1 106 = .ok (.lreturn, 1) := by decide +kernel
theorem i_P_entry_107 : decode m_P_entry.2.1 107 = .ok (.new 91, 3) := by decide +kernel
theorem i_P_entry_110 : decode m_P_entry.2.1 110 = .ok (.dup, 1) := by decide +kernel
theorem i_P_entry_111 : decode m_P_entry.2.1 111 = .ok (.ldc 156, 2) := by decide +kernel
theorem i_P_entry_113 : decode m_P_entry.2.1 113 = .ok (.invokespecial 95, 3) := by decide +kernel
theorem i_P_entry_116 : decode m_P_entry.2.1 116 = .ok (.athrow, 1) := by decide +kernel
theorem i_P_root_0 : decode m_P_root.2.1 0 = .ok (.aload_n 0, 1) := by decide +kernel
theorem i_P_root_1 : qInv m_P_root 1 m_P_demandUp 4 0 := ⟨39, _, by decide +kernel, rfl, rfl, wd_197, wd_199, ws_0, by decide +kernel⟩
theorem i_P_root_4 : decode m_P_root.2.1 4 = .ok (.aload_n 0, 1) := by decide +kernel
theorem i_P_root_5 : decode m_P_root.2.1 5 = .ok (.iload_n 1, 1) := by decide +kernel
theorem i_P_root_6 : qInv m_P_root 6 m_P_demandVersion 4 1 := ⟨68, _, by decide +kernel, rfl, rfl, wd_483, wd_485, ws_14, by decide +kernel⟩
theorem i_P_root_9 : decode m_P_root.2.1 9 = .ok (.aload_n 0, 1) := by decide +kernel
theorem i_P_root_10 : qGet m_P_root 10 4 0 := ⟨14, _, by decide +kernel, rfl, by decide, rfl, Or.inl wd_175⟩
theorem i_P_root_13 : decode m_P_root.2.1 13 = .ok (.iload_n 1, 1) := by decide +kernel
theorem i_P_root_14 : qInv m_P_root 14 m_T_rootOf 3 1 := ⟨158, _, by decide +kernel, rfl, rfl, wd_643, wd_280, wd_281, by decide +kernel⟩
theorem i_P_root_17 : decode m_P_root.2.1 17 = .ok (.ireturn, 1) := by decide +kernel
theorem i_P_bound_0 : decode m_P_bound.2.1 0 = .ok (.aload_n 0, 1) := by decide +kernel
theorem i_P_bound_1 : qInv m_P_bound 1 m_P_demandUp 4 0 := ⟨39, _, by decide +kernel, rfl, rfl, wd_197, wd_199, ws_0, by decide +kernel⟩
theorem i_P_bound_4 : decode m_P_bound.2.1 4 = .ok (.iconst 2, 1) := by decide +kernel
theorem i_P_bound_5 : decode m_P_bound.2.1 5 = .ok (.iconst 2, 1) := by decide +kernel
theorem i_P_bound_6 : decode m_P_bound.2.1 6 = .ok (.aload_n 0, 1) := by decide +kernel
theorem i_P_bound_7 : qGet m_P_bound 7 4 0 := ⟨14, _, by decide +kernel, rfl, by decide, rfl, Or.inl wd_175⟩
theorem i_P_bound_10 : qGet m_P_bound 10 3 4 := ⟨50, _, by decide +kernel, rfl, by decide, rfl, Or.inr ⟨"PastTree", wd_105⟩⟩
theorem i_P_bound_13 : decode m_P_bound.2.1 13 = .ok (.imul, 1) := by decide +kernel
theorem i_P_bound_14 : decode m_P_bound.2.1 14 = .ok (.iadd, 1) := by decide +kernel
theorem i_P_bound_15 : decode m_P_bound.2.1 15 = .ok (.ireturn, 1) := by decide +kernel
theorem i_P_dense_0 : decode m_P_dense.2.1 0 = .ok (.aload_n 0, 1) := by decide +kernel
theorem i_P_dense_1 : qInv m_P_dense 1 m_P_demandUp 4 0 := ⟨39, _, by decide +kernel, rfl, rfl, wd_197, wd_199, ws_0, by decide +kernel⟩
theorem i_P_dense_4 : decode m_P_dense.2.1 4 = .ok (.aload_n 0, 1) := by decide +kernel
theorem i_P_dense_5 : qGet m_P_dense 5 4 0 := ⟨14, _, by decide +kernel, rfl, by decide, rfl, Or.inl wd_175⟩
theorem i_P_dense_8 : qInv m_P_dense 8 m_T_isDense 3 0 := ⟨161, _, by decide +kernel, rfl, rfl, wd_658, wd_659, wd_660, by decide +kernel⟩
theorem i_P_dense_11 : decode m_P_dense.2.1 11 = .ok (.ireturn, 1) := by decide +kernel
theorem i_P_sync_0 : decode m_P_sync.2.1 0 = .ok (.aload_n 0, 1) := by decide +kernel
theorem i_P_sync_1 : qInv m_P_sync 1 m_P_demandUp 4 0 := ⟨39, _, by decide +kernel, rfl, rfl, wd_197, wd_199, ws_0, by decide +kernel⟩
theorem i_P_sync_4 : decode m_P_sync.2.1 4 = .ok (.aload_n 0, 1) := by decide +kernel
theorem i_P_sync_5 : qInv m_P_sync 5 m_P_waitingRecords 4 0 := ⟨165, _, by decide +kernel, rfl, rfl, wd_675, wd_677, ws_17, by decide +kernel⟩
theorem i_P_sync_8 : decode m_P_sync.2.1 8 = .ok (.istore_n 1, 1) := by decide +kernel
theorem i_P_sync_9 : decode m_P_sync.2.1 9 = .ok (.aload_n 0, 1) := by decide +kernel
theorem i_P_sync_10 : qGet m_P_sync 10 4 1 := ⟨23, _, by decide +kernel, rfl, by decide, rfl, Or.inl wd_176⟩
theorem i_P_sync_13 : decode m_P_sync.2.1 13 = .ok (.iload_n 1, 1) := by decide +kernel
theorem i_P_sync_14 : qInv m_P_sync 14 m_D_hasRoomFor 0 1 := ⟨169, _, by decide +kernel, rfl, rfl, wd_683, wd_684, wd_685, by decide +kernel⟩
theorem i_P_sync_17 : decode m_P_sync.2.1 17 = .ok (.ifCond .ne 13, 3) := by decide +kernel
theorem i_P_sync_20 : decode m_P_sync.2.1 20 = .ok (.new 172, 3) := by decide +kernel
theorem i_P_sync_23 : decode m_P_sync.2.1 23 = .ok (.dup, 1) := by decide +kernel
theorem i_P_sync_24 : decode m_P_sync.2.1 24 = .ok (.ldc 174, 2) := by decide +kernel
theorem i_P_sync_26 : decode m_P_sync.2.1 26 = .ok (.invokespecial 176, 3) := by decide +kernel
theorem i_P_sync_29 : decode m_P_sync.2.1 29 = .ok (.athrow, 1) := by decide +kernel
theorem i_P_sync_30 : decode m_P_sync.2.1 30 = .ok (.aload_n 0, 1) := by decide +kernel
theorem i_P_sync_31 : qGet m_P_sync 31 4 1 := ⟨23, _, by decide +kernel, rfl, by decide, rfl, Or.inl wd_176⟩
theorem i_P_sync_34 : decode m_P_sync.2.1 34 = .ok (.iload_n 1, 1) := by decide +kernel
theorem i_P_sync_35 : qInv m_P_sync 35 m_D_writeRecords 0 1 := ⟨177, _, by decide +kernel, rfl, rfl, wd_691, wd_692, wd_693, by decide +kernel⟩
theorem i_P_sync_38 : decode m_P_sync.2.1 38 = .ok (.istore_n 2, 1) := by decide +kernel
theorem i_P_sync_39 : decode m_P_sync.2.1 39 = .ok (.aload_n 0, 1) := by decide +kernel
theorem i_P_sync_40 : qInv m_P_sync 40 m_P_demandUp 4 0 := ⟨39, _, by decide +kernel, rfl, rfl, wd_197, wd_199, ws_0, by decide +kernel⟩
theorem i_P_sync_43 : decode m_P_sync.2.1 43 = .ok (.iload_n 2, 1) := by decide +kernel
theorem i_P_sync_44 : decode m_P_sync.2.1 44 = .ok (.ireturn, 1) := by decide +kernel
theorem i_P_checkpoint_0 : decode m_P_checkpoint.2.1 0 = .ok (.aload_n 0, 1) := by decide +kernel
theorem i_P_checkpoint_1 : qInv m_P_checkpoint 1 m_P_demandUp 4 0 := ⟨39, _, by decide +kernel, rfl, rfl, wd_197, wd_199, ws_0, by decide +kernel⟩
theorem i_P_checkpoint_4 : decode m_P_checkpoint.2.1 4 = .ok (.aload_n 0, 1) := by decide +kernel
theorem i_P_checkpoint_5 : qGet m_P_checkpoint 5 4 1 := ⟨23, _, by decide +kernel, rfl, by decide, rfl, Or.inl wd_176⟩
theorem i_P_checkpoint_8 : decode m_P_checkpoint.2.1 8 = .ok (.aload_n 0, 1) := by decide +kernel
theorem i_P_checkpoint_9 : qGet m_P_checkpoint 9 4 0 := ⟨14, _, by decide +kernel, rfl, by decide, rfl, Or.inl wd_175⟩
theorem i_P_checkpoint_12 : decode m_P_checkpoint.2.1 12 = .ok (.aload_n 0, 1) := by decide +kernel
theorem i_P_checkpoint_13 : qGet m_P_checkpoint 13 4 1 := ⟨23, _, by decide +kernel, rfl, by decide, rfl, Or.inl wd_176⟩
theorem i_P_checkpoint_16 : qGet m_P_checkpoint 16 0 4 := ⟨127, _, by decide +kernel, rfl, by decide, rfl, Or.inr ⟨"PastTree", wd_152⟩⟩
theorem i_P_checkpoint_19 : qInv m_P_checkpoint 19 m_T_changedSince 3 1 := ⟨180, _, by decide +kernel, rfl, rfl, wd_707, wd_708, wd_709, by decide +kernel⟩
theorem i_P_checkpoint_22 : decode m_P_checkpoint.2.1 22 = .ok (.aload_n 0, 1) := by decide +kernel
theorem i_P_checkpoint_23 : qGet m_P_checkpoint 23 4 0 := ⟨14, _, by decide +kernel, rfl, by decide, rfl, Or.inl wd_175⟩
theorem i_P_checkpoint_26 : qGet m_P_checkpoint 26 3 4 := ⟨50, _, by decide +kernel, rfl, by decide, rfl, Or.inr ⟨"PastTree", wd_105⟩⟩
theorem i_P_checkpoint_29 : qInv m_P_checkpoint 29 m_D_writePages 0 2 := ⟨183, _, by decide +kernel, rfl, rfl, wd_712, wd_713, wd_714, by decide +kernel⟩
theorem i_P_checkpoint_32 : decode m_P_checkpoint.2.1 32 = .ok (.istore_n 1, 1) := by decide +kernel
theorem i_P_checkpoint_33 : decode m_P_checkpoint.2.1 33 = .ok (.aload_n 0, 1) := by decide +kernel
theorem i_P_checkpoint_34 : qInv m_P_checkpoint 34 m_P_demandUp 4 0 := ⟨39, _, by decide +kernel, rfl, rfl, wd_197, wd_199, ws_0, by decide +kernel⟩
theorem i_P_checkpoint_37 : decode m_P_checkpoint.2.1 37 = .ok (.iload_n 1, 1) := by decide +kernel
theorem i_P_checkpoint_38 : decode m_P_checkpoint.2.1 38 = .ok (.ireturn, 1) := by decide +kernel
theorem i_P_cut_0 : decode m_P_cut.2.1 0 = .ok (.aload_n 0, 1) := by decide +kernel
theorem i_P_cut_1 : qInv m_P_cut 1 m_P_demandUp 4 0 := ⟨39, _, by decide +kernel, rfl, rfl, wd_197, wd_199, ws_0, by decide +kernel⟩
theorem i_P_cut_4 : decode m_P_cut.2.1 4 = .ok (.iload_n 1, 1) := by decide +kernel
theorem i_P_cut_5 : decode m_P_cut.2.1 5 = .ok (.iconst (-1), 1) := by decide +kernel
theorem i_P_cut_6 : decode m_P_cut.2.1 6 = .ok (.if_icmp .ge 13, 3) := by decide +kernel
theorem i_P_cut_9 : decode m_P_cut.2.1 9 = .ok (.new 91, 3) := by decide +kernel
theorem i_P_cut_12 : decode m_P_cut.2.1 12 = .ok (.dup, 1) := by decide +kernel
theorem i_P_cut_13 : decode m_P_cut.2.1 13 = .ok (.ldc 187, 2) := by decide +kernel
theorem i_P_cut_15 : decode m_P_cut.2.1 15 = .ok (.invokespecial 95, 3) := by decide +kernel
theorem i_P_cut_18 : decode m_P_cut.2.1 18 = .ok (.athrow, 1) := by decide +kernel
theorem i_P_cut_19 : decode m_P_cut.2.1 19 = .ok (.aload_n 0, 1) := by decide +kernel
theorem i_P_cut_20 : qGet m_P_cut 20 4 1 := ⟨23, _, by decide +kernel, rfl, by decide, rfl, Or.inl wd_176⟩
theorem i_P_cut_23 : decode m_P_cut.2.1 23 = .ok (.iload_n 1, 1) := by decide +kernel
theorem i_P_cut_24 : qPut m_P_cut 24 0 5 := ⟨189, _, by decide +kernel, rfl, by decide, rfl, Or.inl rfl, Or.inr ⟨rfl, "PastTree", wd_154⟩⟩
theorem i_P_cut_27 : decode m_P_cut.2.1 27 = .ok (.return_, 1) := by decide +kernel
theorem i_P_down_0 : decode m_P_down.2.1 0 = .ok (.aload_n 0, 1) := by decide +kernel
theorem i_P_down_1 : qInv m_P_down 1 m_P_demandUp 4 0 := ⟨39, _, by decide +kernel, rfl, rfl, wd_197, wd_199, ws_0, by decide +kernel⟩
theorem i_P_down_4 : decode m_P_down.2.1 4 = .ok (.aload_n 0, 1) := by decide +kernel
theorem i_P_down_5 : qGet m_P_down 5 4 1 := ⟨23, _, by decide +kernel, rfl, by decide, rfl, Or.inl wd_176⟩
theorem i_P_down_8 : decode m_P_down.2.1 8 = .ok (.iconst 1, 1) := by decide +kernel
theorem i_P_down_9 : qPut m_P_down 9 0 6 := ⟨192, _, by decide +kernel, rfl, by decide, rfl, Or.inl rfl, Or.inr ⟨rfl, "PastTree", wd_156⟩⟩
theorem i_P_down_12 : decode m_P_down.2.1 12 = .ok (.return_, 1) := by decide +kernel
theorem i_P_spoil_0 : decode m_P_spoil.2.1 0 = .ok (.iload_n 1, 1) := by decide +kernel
theorem i_P_spoil_1 : decode m_P_spoil.2.1 1 = .ok (.ifCond .lt 14, 3) := by decide +kernel
theorem i_P_spoil_4 : decode m_P_spoil.2.1 4 = .ok (.iload_n 1, 1) := by decide +kernel
theorem i_P_spoil_5 : decode m_P_spoil.2.1 5 = .ok (.aload_n 0, 1) := by decide +kernel
theorem i_P_spoil_6 : qGet m_P_spoil 6 4 1 := ⟨23, _, by decide +kernel, rfl, by decide, rfl, Or.inl wd_176⟩
theorem i_P_spoil_9 : qGet m_P_spoil 9 0 2 := ⟨196, _, by decide +kernel, rfl, by decide, rfl, Or.inr ⟨"PastTree", wd_148⟩⟩
theorem i_P_spoil_12 : decode m_P_spoil.2.1 12 = .ok (.if_icmp .lt 13, 3) := by decide +kernel
theorem i_P_spoil_15 : decode m_P_spoil.2.1 15 = .ok (.new 142, 3) := by decide +kernel
theorem i_P_spoil_18 : decode m_P_spoil.2.1 18 = .ok (.dup, 1) := by decide +kernel
theorem i_P_spoil_19 : decode m_P_spoil.2.1 19 = .ok (.ldc 199, 2) := by decide +kernel
theorem i_P_spoil_21 : decode m_P_spoil.2.1 21 = .ok (.invokespecial 146, 3) := by decide +kernel
theorem i_P_spoil_24 : decode m_P_spoil.2.1 24 = .ok (.athrow, 1) := by decide +kernel
theorem i_P_spoil_25 : decode m_P_spoil.2.1 25 = .ok (.aload_n 0, 1) := by decide +kernel
theorem i_P_spoil_26 : qGet m_P_spoil 26 4 1 := ⟨23, _, by decide +kernel, rfl, by decide, rfl, Or.inl wd_176⟩
theorem i_P_spoil_29 : decode m_P_spoil.2.1 29 = .ok (.iload_n 1, 1) := by decide +kernel
theorem i_P_spoil_30 : qInv m_P_spoil 30 m_D_spoilBlock 0 1 := ⟨201, _, by decide +kernel, rfl, rfl, wd_739, wd_740, wd_741, by decide +kernel⟩
theorem i_P_spoil_33 : decode m_P_spoil.2.1 33 = .ok (.return_, 1) := by decide +kernel
theorem i_P_start_0 : decode m_P_start.2.1 0 = .ok (.aload_n 0, 1) := by decide +kernel
theorem i_P_start_1 : qGet m_P_start 1 4 1 := ⟨23, _, by decide +kernel, rfl, by decide, rfl, Or.inl wd_176⟩
theorem i_P_start_4 : qGet m_P_start 4 0 6 := ⟨192, _, by decide +kernel, rfl, by decide, rfl, Or.inr ⟨"PastTree", wd_156⟩⟩
theorem i_P_start_7 : decode m_P_start.2.1 7 = .ok (.ifCond .ne 13, 3) := by decide +kernel
theorem i_P_start_10 : decode m_P_start.2.1 10 = .ok (.new 204, 3) := by decide +kernel
theorem i_P_start_13 : decode m_P_start.2.1 13 = .ok (.dup, 1) := by decide +kernel
theorem i_P_start_14 : decode m_P_start.2.1 14 = .ok (.ldc 206, 2) := by decide +kernel
theorem i_P_start_16 : decode m_P_start.2.1 16 = .ok (.invokespecial 208, 3) := by decide +kernel
theorem i_P_start_19 : decode m_P_start.2.1 19 = .ok (.athrow, 1) := by decide +kernel
theorem i_P_start_20 : decode m_P_start.2.1 20 = .ok (.aload_n 0, 1) := by decide +kernel
theorem i_P_start_21 : qGet m_P_start 21 4 1 := ⟨23, _, by decide +kernel, rfl, by decide, rfl, Or.inl wd_176⟩
theorem i_P_start_24 : qInv m_P_start 24 m_D_comeUp 0 0 := ⟨209, _, by decide +kernel, rfl, rfl, wd_751, wd_752, wd_753, by decide +kernel⟩
theorem i_P_start_27 : decode m_P_start.2.1 27 = .ok (.aload_n 0, 1) := by decide +kernel
theorem i_P_start_28 : qGet m_P_start 28 4 0 := ⟨14, _, by decide +kernel, rfl, by decide, rfl, Or.inl wd_175⟩
theorem i_P_start_31 : decode m_P_start.2.1 31 = .ok (.aload_n 0, 1) := by decide +kernel
theorem i_P_start_32 : qGet m_P_start 32 4 1 := ⟨23, _, by decide +kernel, rfl, by decide, rfl, Or.inl wd_176⟩
theorem i_P_start_35 : qInv m_P_start 35 m_D_latestOnDisk 0 0 := ⟨212, _, by decide +kernel, rfl, rfl, wd_679, wd_680, wd_681, by decide +kernel⟩
theorem i_P_start_38 : qInv m_P_start 38 m_T_goBackTo 3 1 := ⟨215, _, by decide +kernel, rfl, rfl, wd_755, wd_756, wd_757, by decide +kernel⟩
theorem i_P_start_41 : decode m_P_start.2.1 41 = .ok (.aload_n 0, 1) := by decide +kernel
theorem i_P_start_42 : qGet m_P_start 42 4 0 := ⟨14, _, by decide +kernel, rfl, by decide, rfl, Or.inl wd_175⟩
theorem i_P_start_45 : qGet m_P_start 45 3 4 := ⟨50, _, by decide +kernel, rfl, by decide, rfl, Or.inr ⟨"PastTree", wd_105⟩⟩
theorem i_P_start_48 : decode m_P_start.2.1 48 = .ok (.ireturn, 1) := by decide +kernel
theorem i_P_disk_0 : decode m_P_disk.2.1 0 = .ok (.iload_n 1, 1) := by decide +kernel
theorem i_P_disk_1 : decode m_P_disk.2.1 1 = .ok (.tableswitch 107 0 4 #[35, 43, 62, 70, 78], 35) := by decide +kernel
theorem i_P_disk_36 : decode m_P_disk.2.1 36 = .ok (.aload_n 0, 1) := by decide +kernel
theorem i_P_disk_37 : qGet m_P_disk 37 4 1 := ⟨23, _, by decide +kernel, rfl, by decide, rfl, Or.inl wd_176⟩
theorem i_P_disk_40 : qGet m_P_disk 40 0 2 := ⟨196, _, by decide +kernel, rfl, by decide, rfl, Or.inr ⟨"PastTree", wd_148⟩⟩
theorem i_P_disk_43 : decode m_P_disk.2.1 43 = .ok (.ireturn, 1) := by decide +kernel
theorem i_P_disk_44 : decode m_P_disk.2.1 44 = .ok (.aload_n 0, 1) := by decide +kernel
theorem i_P_disk_45 : qGet m_P_disk 45 4 1 := ⟨23, _, by decide +kernel, rfl, by decide, rfl, Or.inl wd_176⟩
theorem i_P_disk_48 : qGet m_P_disk 48 0 6 := ⟨192, _, by decide +kernel, rfl, by decide, rfl, Or.inr ⟨"PastTree", wd_156⟩⟩
theorem i_P_disk_51 : decode m_P_disk.2.1 51 = .ok (.ifCond .eq 7, 3) := by decide +kernel
theorem i_P_disk_54 : decode m_P_disk.2.1 54 = .ok (.iconst 0, 1) := by decide +kernel
theorem i_P_disk_55 : decode m_P_disk.2.1 55 = .ok (.goto 7, 3) := by decide +kernel
theorem i_P_disk_58 : decode m_P_disk.2.1 58 = .ok (.aload_n 0, 1) := by decide +kernel
theorem i_P_disk_59 : qInv m_P_disk 59 m_P_waitingRecords 4 0 := ⟨165, _, by decide +kernel, rfl, rfl, wd_675, wd_677, ws_17, by decide +kernel⟩
theorem i_P_disk_62 : decode m_P_disk.2.1 62 = .ok (.ireturn, 1) := by decide +kernel
theorem i_P_disk_63 : decode m_P_disk.2.1 63 = .ok (.aload_n 0, 1) := by decide +kernel
theorem i_P_disk_64 : qGet m_P_disk 64 4 1 := ⟨23, _, by decide +kernel, rfl, by decide, rfl, Or.inl wd_176⟩
theorem i_P_disk_67 : qGet m_P_disk 67 0 4 := ⟨127, _, by decide +kernel, rfl, by decide, rfl, Or.inr ⟨"PastTree", wd_152⟩⟩
theorem i_P_disk_70 : decode m_P_disk.2.1 70 = .ok (.ireturn, 1) := by decide +kernel
theorem i_P_disk_71 : decode m_P_disk.2.1 71 = .ok (.aload_n 0, 1) := by decide +kernel
theorem i_P_disk_72 : qGet m_P_disk 72 4 1 := ⟨23, _, by decide +kernel, rfl, by decide, rfl, Or.inl wd_176⟩
theorem i_P_disk_75 : qGet m_P_disk 75 0 3 := ⟨218, _, by decide +kernel, rfl, by decide, rfl, Or.inr ⟨"PastTree", wd_150⟩⟩
theorem i_P_disk_78 : decode m_P_disk.2.1 78 = .ok (.ireturn, 1) := by decide +kernel
theorem i_P_disk_79 : decode m_P_disk.2.1 79 = .ok (.aload_n 0, 1) := by decide +kernel
theorem i_P_disk_80 : qGet m_P_disk 80 4 1 := ⟨23, _, by decide +kernel, rfl, by decide, rfl, Or.inl wd_176⟩
theorem i_P_disk_83 : qGet m_P_disk 83 0 6 := ⟨192, _, by decide +kernel, rfl, by decide, rfl, Or.inr ⟨"PastTree", wd_156⟩⟩
theorem i_P_disk_86 : decode m_P_disk.2.1 86 = .ok (.ifCond .eq 7, 3) := by decide +kernel
theorem i_P_disk_89 : decode m_P_disk.2.1 89 = .ok (.iconst 0, 1) := by decide +kernel
theorem i_P_disk_90 : decode m_P_disk.2.1 90 = .ok (.goto 17, 3) := by decide +kernel
theorem i_P_disk_93 : decode m_P_disk.2.1 93 = .ok (.aload_n 0, 1) := by decide +kernel
theorem i_P_disk_94 : qGet m_P_disk 94 4 0 := ⟨14, _, by decide +kernel, rfl, by decide, rfl, Or.inl wd_175⟩
theorem i_P_disk_97 : decode m_P_disk.2.1 97 = .ok (.aload_n 0, 1) := by decide +kernel
theorem i_P_disk_98 : qGet m_P_disk 98 4 1 := ⟨23, _, by decide +kernel, rfl, by decide, rfl, Or.inl wd_176⟩
theorem i_P_disk_101 : qGet m_P_disk 101 0 4 := ⟨127, _, by decide +kernel, rfl, by decide, rfl, Or.inr ⟨"PastTree", wd_152⟩⟩
theorem i_P_disk_104 : qInv m_P_disk 104 m_T_changedSince 3 1 := ⟨180, _, by decide +kernel, rfl, rfl, wd_707, wd_708, wd_709, by decide +kernel⟩
theorem i_P_disk_107 : decode m_P_disk.2.1 107 = .ok (.ireturn, 1) := by decide +kernel
theorem i_P_disk_108 : decode m_P_disk.2.1 108 = .ok (.new 91, 3) := by decide +kernel
theorem i_P_disk_111 : decode m_P_disk.2.1 111 = .ok (.dup, 1) := by decide +kernel
theorem i_P_disk_112 : decode m_P_disk.2.1 112 = .ok (.ldc 221, 2) := by decide +kernel
theorem i_P_disk_114 : decode m_P_disk.2.1 114 = .ok (.invokespecial 95, 3) := by decide +kernel
theorem i_P_disk_117 : decode m_P_disk.2.1 117 = .ok (.athrow, 1) := by decide +kernel
theorem i_P_unlessRefused_0 : decode m_P_unlessRefused.2.1 0 = .ok (.iload_n 0, 1) := by decide +kernel
theorem i_P_unlessRefused_1 : decode m_P_unlessRefused.2.1 1 = .ok (.iconst (-1), 1) := by decide +kernel
theorem i_P_unlessRefused_2 : decode m_P_unlessRefused.2.1 2 = .ok (.if_icmp .ne 13, 3) := by decide +kernel
theorem i_P_unlessRefused_5 : decode m_P_unlessRefused.2.1 5 = .ok (.new 172, 3) := by decide +kernel
theorem i_P_unlessRefused_8 : decode m_P_unlessRefused.2.1 8 = .ok (.dup, 1) := by decide +kernel
theorem i_P_unlessRefused_9 : decode m_P_unlessRefused.2.1 9 = .ok (.ldc 223, 2) := by decide +kernel
theorem i_P_unlessRefused_11 : decode m_P_unlessRefused.2.1 11 = .ok (.invokespecial 176, 3) := by decide +kernel
theorem i_P_unlessRefused_14 : decode m_P_unlessRefused.2.1 14 = .ok (.athrow, 1) := by decide +kernel
theorem i_P_unlessRefused_15 : decode m_P_unlessRefused.2.1 15 = .ok (.iload_n 0, 1) := by decide +kernel
theorem i_P_unlessRefused_16 : decode m_P_unlessRefused.2.1 16 = .ok (.ireturn, 1) := by decide +kernel
theorem i_P_waitingRecords_0 : decode m_P_waitingRecords.2.1 0 = .ok (.aload_n 0, 1) := by decide +kernel
theorem i_P_waitingRecords_1 : qGet m_P_waitingRecords 1 4 0 := ⟨14, _, by decide +kernel, rfl, by decide, rfl, Or.inl wd_175⟩
theorem i_P_waitingRecords_4 : qGet m_P_waitingRecords 4 3 4 := ⟨50, _, by decide +kernel, rfl, by decide, rfl, Or.inr ⟨"PastTree", wd_105⟩⟩
theorem i_P_waitingRecords_7 : decode m_P_waitingRecords.2.1 7 = .ok (.aload_n 0, 1) := by decide +kernel
theorem i_P_waitingRecords_8 : qGet m_P_waitingRecords 8 4 1 := ⟨23, _, by decide +kernel, rfl, by decide, rfl, Or.inl wd_176⟩
theorem i_P_waitingRecords_11 : qInv m_P_waitingRecords 11 m_D_latestOnDisk 0 0 := ⟨212, _, by decide +kernel, rfl, rfl, wd_679, wd_680, wd_681, by decide +kernel⟩
theorem i_P_waitingRecords_14 : decode m_P_waitingRecords.2.1 14 = .ok (.isub, 1) := by decide +kernel
theorem i_P_waitingRecords_15 : decode m_P_waitingRecords.2.1 15 = .ok (.ireturn, 1) := by decide +kernel
theorem i_P_demandUp_0 : decode m_P_demandUp.2.1 0 = .ok (.aload_n 0, 1) := by decide +kernel
theorem i_P_demandUp_1 : qGet m_P_demandUp 1 4 1 := ⟨23, _, by decide +kernel, rfl, by decide, rfl, Or.inl wd_176⟩
theorem i_P_demandUp_4 : qGet m_P_demandUp 4 0 6 := ⟨192, _, by decide +kernel, rfl, by decide, rfl, Or.inr ⟨"PastTree", wd_156⟩⟩
theorem i_P_demandUp_7 : decode m_P_demandUp.2.1 7 = .ok (.ifCond .eq 13, 3) := by decide +kernel
theorem i_P_demandUp_10 : decode m_P_demandUp.2.1 10 = .ok (.new 204, 3) := by decide +kernel
theorem i_P_demandUp_13 : decode m_P_demandUp.2.1 13 = .ok (.dup, 1) := by decide +kernel
theorem i_P_demandUp_14 : decode m_P_demandUp.2.1 14 = .ok (.ldc 225, 2) := by decide +kernel
theorem i_P_demandUp_16 : decode m_P_demandUp.2.1 16 = .ok (.invokespecial 208, 3) := by decide +kernel
theorem i_P_demandUp_19 : decode m_P_demandUp.2.1 19 = .ok (.athrow, 1) := by decide +kernel
theorem i_P_demandUp_20 : decode m_P_demandUp.2.1 20 = .ok (.return_, 1) := by decide +kernel
theorem i_P_demandVersion_0 : decode m_P_demandVersion.2.1 0 = .ok (.iload_n 1, 1) := by decide +kernel
theorem i_P_demandVersion_1 : decode m_P_demandVersion.2.1 1 = .ok (.ifCond .lt 14, 3) := by decide +kernel
theorem i_P_demandVersion_4 : decode m_P_demandVersion.2.1 4 = .ok (.iload_n 1, 1) := by decide +kernel
theorem i_P_demandVersion_5 : decode m_P_demandVersion.2.1 5 = .ok (.aload_n 0, 1) := by decide +kernel
theorem i_P_demandVersion_6 : qGet m_P_demandVersion 6 4 0 := ⟨14, _, by decide +kernel, rfl, by decide, rfl, Or.inl wd_175⟩
theorem i_P_demandVersion_9 : qGet m_P_demandVersion 9 3 4 := ⟨50, _, by decide +kernel, rfl, by decide, rfl, Or.inr ⟨"PastTree", wd_105⟩⟩
theorem i_P_demandVersion_12 : decode m_P_demandVersion.2.1 12 = .ok (.if_icmp .le 13, 3) := by decide +kernel
theorem i_P_demandVersion_15 : decode m_P_demandVersion.2.1 15 = .ok (.new 142, 3) := by decide +kernel
theorem i_P_demandVersion_18 : decode m_P_demandVersion.2.1 18 = .ok (.dup, 1) := by decide +kernel
theorem i_P_demandVersion_19 : decode m_P_demandVersion.2.1 19 = .ok (.ldc 227, 2) := by decide +kernel
theorem i_P_demandVersion_21 : decode m_P_demandVersion.2.1 21 = .ok (.invokespecial 146, 3) := by decide +kernel
theorem i_P_demandVersion_24 : decode m_P_demandVersion.2.1 24 = .ok (.athrow, 1) := by decide +kernel
theorem i_P_demandVersion_25 : decode m_P_demandVersion.2.1 25 = .ok (.return_, 1) := by decide +kernel
theorem i_P_demandPage_0 : decode m_P_demandPage.2.1 0 = .ok (.iload_n 1, 1) := by decide +kernel
theorem i_P_demandPage_1 : decode m_P_demandPage.2.1 1 = .ok (.ifCond .lt 14, 3) := by decide +kernel
theorem i_P_demandPage_4 : decode m_P_demandPage.2.1 4 = .ok (.iload_n 1, 1) := by decide +kernel
theorem i_P_demandPage_5 : decode m_P_demandPage.2.1 5 = .ok (.aload_n 0, 1) := by decide +kernel
theorem i_P_demandPage_6 : qGet m_P_demandPage 6 4 0 := ⟨14, _, by decide +kernel, rfl, by decide, rfl, Or.inl wd_175⟩
theorem i_P_demandPage_9 : qGet m_P_demandPage 9 3 3 := ⟨105, _, by decide +kernel, rfl, by decide, rfl, Or.inr ⟨"PastTree", wd_104⟩⟩
theorem i_P_demandPage_12 : decode m_P_demandPage.2.1 12 = .ok (.if_icmp .lt 13, 3) := by decide +kernel
theorem i_P_demandPage_15 : decode m_P_demandPage.2.1 15 = .ok (.new 142, 3) := by decide +kernel
theorem i_P_demandPage_18 : decode m_P_demandPage.2.1 18 = .ok (.dup, 1) := by decide +kernel
theorem i_P_demandPage_19 : decode m_P_demandPage.2.1 19 = .ok (.ldc 229, 2) := by decide +kernel
theorem i_P_demandPage_21 : decode m_P_demandPage.2.1 21 = .ok (.invokespecial 146, 3) := by decide +kernel
theorem i_P_demandPage_24 : decode m_P_demandPage.2.1 24 = .ok (.athrow, 1) := by decide +kernel
theorem i_P_demandPage_25 : decode m_P_demandPage.2.1 25 = .ok (.return_, 1) := by decide +kernel
