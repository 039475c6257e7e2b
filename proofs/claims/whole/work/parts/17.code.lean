theorem i_L_put_0 : decode m_L_put.2.1 0 = .ok (.aload 4, 2) := by decide +kernel
theorem i_L_put_2 : decode m_L_put.2.1 2 = .ok (.iconst 0, 1) := by decide +kernel
theorem i_L_put_3 : decode m_L_put.2.1 3 = .ok (.aload_n 0, 1) := by decide +kernel
theorem i_L_put_4 : decode m_L_put.2.1 4 = .ok (.iload_n 1, 1) := by decide +kernel
theorem i_L_put_5 : decode m_L_put.2.1 5 = .ok (.lload_n 2, 1) := by decide +kernel
theorem i_L_put_6 : qInv m_L_put 6 m_P_put 4 2 := ⟨7, _, by decide +kernel, rfl, rfl, wd_193, wd_194, wd_195, by decide +kernel⟩
theorem i_L_put_9 : decode m_L_put.2.1 9 = .ok (.i2l, 1) := by decide +kernel
theorem i_L_put_10 : decode m_L_put.2.1 10 = .ok (.lastore, 1) := by decide +kernel
theorem i_L_put_11 : decode m_L_put.2.1 11 = .ok (.goto 11, 3) := by decide +kernel
theorem i_L_put_14 : decode m_L_put.2.1 14 = .ok (.astore 5, 2) := by decide +kernel
theorem i_L_put_16 : decode m_L_put.2.1 16 = .ok (.iconst 1, 1) := by decide +kernel
theorem i_L_put_17 : decode m_L_put.2.1 17 = .ok (.ireturn, 1) := by decide +kernel
theorem i_L_put_18 : decode m_L_put.2.1 18 = .ok (.astore 5, 2) := by decide +kernel
theorem i_L_put_20 : decode m_L_put.2.1 20 = .ok (.iconst 2, 1) := by decide +kernel
theorem i_L_put_21 : decode m_L_put.2.1 21 = .ok (.ireturn, 1) := by decide +kernel
theorem i_L_put_22 : decode m_L_put.2.1 22 = .ok (.iconst 0, 1) := by decide +kernel
theorem i_L_put_23 : decode m_L_put.2.1 23 = .ok (.ireturn, 1) := by decide +kernel
theorem i_L_remove_0 : decode m_L_remove.2.1 0 = .ok (.aload_n 2, 1) := by decide +kernel
theorem i_L_remove_1 : decode m_L_remove.2.1 1 = .ok (.iconst 0, 1) := by decide +kernel
theorem i_L_remove_2 : decode m_L_remove.2.1 2 = .ok (.aload_n 0, 1) := by decide +kernel
theorem i_L_remove_3 : decode m_L_remove.2.1 3 = .ok (.iload_n 1, 1) := by decide +kernel
theorem i_L_remove_4 : qInv m_L_remove 4 m_P_remove 4 1 := ⟨17, _, by decide +kernel, rfl, rfl, wd_440, wd_441, wd_442, by decide +kernel⟩
theorem i_L_remove_7 : decode m_L_remove.2.1 7 = .ok (.i2l, 1) := by decide +kernel
theorem i_L_remove_8 : decode m_L_remove.2.1 8 = .ok (.lastore, 1) := by decide +kernel
theorem i_L_remove_9 : decode m_L_remove.2.1 9 = .ok (.goto 12, 3) := by decide +kernel
theorem i_L_remove_12 : decode m_L_remove.2.1 12 = .ok (.astore_n 3, 1) := by decide +kernel
theorem i_L_remove_13 : decode m_L_remove.2.1 13 = .ok (.iconst 1, 1) := by decide +kernel
theorem i_L_remove_14 : decode m_L_remove.2.1 14 = .ok (.ireturn, 1) := by decide +kernel
theorem i_L_remove_15 : decode m_L_remove.2.1 15 = .ok (.astore_n 3, 1) := by decide +kernel
theorem i_L_remove_16 : decode m_L_remove.2.1 16 = .ok (.iconst 2, 1) := by decide +kernel
theorem i_L_remove_17 : decode m_L_remove.2.1 17 = .ok (.ireturn, 1) := by decide +kernel
theorem i_L_remove_18 : decode m_L_remove.2.1 18 = .ok (.astore_n 3, 1) := by decide +kernel
theorem i_L_remove_19 : decode m_L_remove.2.1 19 = .ok (.iconst 3, 1) := by decide +kernel
theorem i_L_remove_20 : decode m_L_remove.2.1 20 = .ok (.ireturn, 1) := by decide +kernel
theorem i_L_remove_21 : decode m_L_remove.2.1 21 = .ok (.iconst 0, 1) := by decide +kernel
theorem i_L_remove_22 : decode m_L_remove.2.1 22 = .ok (.ireturn, 1) := by decide +kernel
theorem i_L_version_0 : decode m_L_version.2.1 0 = .ok (.aload_n 1, 1) := by decide +kernel
theorem i_L_version_1 : decode m_L_version.2.1 1 = .ok (.iconst 0, 1) := by decide +kernel
theorem i_L_version_2 : decode m_L_version.2.1 2 = .ok (.aload_n 0, 1) := by decide +kernel
theorem i_L_version_3 : qInv m_L_version 3 m_P_version 4 0 := ⟨23, _, by decide +kernel, rfl, rfl, wd_471, wd_472, wd_473, by decide +kernel⟩
theorem i_L_version_6 : decode m_L_version.2.1 6 = .ok (.i2l, 1) := by decide +kernel
theorem i_L_version_7 : decode m_L_version.2.1 7 = .ok (.lastore, 1) := by decide +kernel
theorem i_L_version_8 : decode m_L_version.2.1 8 = .ok (.goto 6, 3) := by decide +kernel
theorem i_L_version_11 : decode m_L_version.2.1 11 = .ok (.astore_n 2, 1) := by decide +kernel
theorem i_L_version_12 : decode m_L_version.2.1 12 = .ok (.iconst 1, 1) := by decide +kernel
theorem i_L_version_13 : decode m_L_version.2.1 13 = .ok (.ireturn, 1) := by decide +kernel
theorem i_L_version_14 : decode m_L_version.2.1 14 = .ok (.iconst 0, 1) := by decide +kernel
theorem i_L_version_15 : decode m_L_version.2.1 15 = .ok (.ireturn, 1) := by decide +kernel
theorem i_L_has_0 : decode m_L_has.2.1 0 = .ok (.aload_n 3, 1) := by decide +kernel
theorem i_L_has_1 : decode m_L_has.2.1 1 = .ok (.iconst 0, 1) := by decide +kernel
theorem i_L_has_2 : decode m_L_has.2.1 2 = .ok (.aload_n 0, 1) := by decide +kernel
theorem i_L_has_3 : decode m_L_has.2.1 3 = .ok (.iload_n 1, 1) := by decide +kernel
theorem i_L_has_4 : decode m_L_has.2.1 4 = .ok (.iload_n 2, 1) := by decide +kernel
theorem i_L_has_5 : qInv m_L_has 5 m_P_has 4 2 := ⟨27, _, by decide +kernel, rfl, rfl, wd_479, wd_480, wd_481, by decide +kernel⟩
theorem i_L_has_8 : decode m_L_has.2.1 8 = .ok (.ifCond .eq 7, 3) := by decide +kernel
theorem i_L_has_11 : decode m_L_has.2.1 11 = .ok (.lconst 1, 1) := by decide +kernel
theorem i_L_has_12 : decode m_L_has.2.1 12 = .ok (.goto 4, 3) := by decide +kernel
theorem i_L_has_15 : decode m_L_has.2.1 15 = .ok (.lconst 0, 1) := by decide +kernel
theorem i_L_has_16 : decode m_L_has.2.1 16 = .ok (.lastore, 1) := by decide +kernel
theorem i_L_has_17 : decode m_L_has.2.1 17 = .ok (.goto 11, 3) := by decide +kernel
theorem i_L_has_20 : decode m_L_has.2.1 20 = .ok (.astore 4, 2) := by decide +kernel
theorem i_L_has_22 : decode m_L_has.2.1 22 = .ok (.iconst 1, 1) := by decide +kernel
theorem i_L_has_23 : decode m_L_has.2.1 23 = .ok (.ireturn, 1) := by decide +kernel
theorem i_L_has_24 : decode m_L_has.2.1 24 = .ok (.astore 4, 2) := by decide +kernel
theorem i_L_has_26 : decode m_L_has.2.1 26 = .ok (.iconst 2, 1) := by decide +kernel
theorem i_L_has_27 : decode m_L_has.2.1 27 = .ok (.ireturn, 1) := by decide +kernel
theorem i_L_has_28 : decode m_L_has.2.1 28 = .ok (.iconst 0, 1) := by decide +kernel
theorem i_L_has_29 : decode m_L_has.2.1 29 = .ok (.ireturn, 1) := by decide +kernel
theorem i_L_get_0 : decode m_L_get.2.1 0 = .ok (.aload_n 3, 1) := by decide +kernel
theorem i_L_get_1 : decode m_L_get.2.1 1 = .ok (.iconst 0, 1) := by decide +kernel
theorem i_L_get_2 : decode m_L_get.2.1 2 = .ok (.aload_n 0, 1) := by decide +kernel
theorem i_L_get_3 : decode m_L_get.2.1 3 = .ok (.iload_n 1, 1) := by decide +kernel
theorem i_L_get_4 : decode m_L_get.2.1 4 = .ok (.iload_n 2, 1) := by decide +kernel
theorem i_L_get_5 : qInv m_L_get 5 m_P_get 4 2 := ⟨33, _, by decide +kernel, rfl, rfl, wd_506, wd_507, wd_508, by decide +kernel⟩
theorem i_L_get_8 : decode m_L_get.2.1 8 = .ok (.lastore, 1) := by decide +kernel
theorem i_L_get_9 : decode m_L_get.2.1 9 = .ok (.goto 15, 3) := by decide +kernel
theorem i_L_get_12 : decode m_L_get.2.1 12 = .ok (.astore 4, 2) := by decide +kernel
theorem i_L_get_14 : decode m_L_get.2.1 14 = .ok (.iconst 1, 1) := by decide +kernel
theorem i_L_get_15 : decode m_L_get.2.1 15 = .ok (.ireturn, 1) := by decide +kernel
theorem i_L_get_16 : decode m_L_get.2.1 16 = .ok (.astore 4, 2) := by decide +kernel
theorem i_L_get_18 : decode m_L_get.2.1 18 = .ok (.iconst 2, 1) := by decide +kernel
theorem i_L_get_19 : decode m_L_get.2.1 19 = .ok (.ireturn, 1) := by decide +kernel
theorem i_L_get_20 : decode m_L_get.2.1 20 = .ok (.astore 4, 2) := by decide +kernel
theorem i_L_get_22 : decode m_L_get.2.1 22 = .ok (.iconst 3, 1) := by decide +kernel
theorem i_L_get_23 : decode m_L_get.2.1 23 = .ok (.ireturn, 1) := by decide +kernel
theorem i_L_get_24 : decode m_L_get.2.1 24 = .ok (.iconst 0, 1) := by decide +kernel
theorem i_L_get_25 : decode m_L_get.2.1 25 = .ok (.ireturn, 1) := by decide +kernel
theorem i_L_next_0 : decode m_L_next.2.1 0 = .ok (.aload_n 3, 1) := by decide +kernel
theorem i_L_next_1 : decode m_L_next.2.1 1 = .ok (.iconst 0, 1) := by decide +kernel
theorem i_L_next_2 : decode m_L_next.2.1 2 = .ok (.aload_n 0, 1) := by decide +kernel
theorem i_L_next_3 : decode m_L_next.2.1 3 = .ok (.iload_n 1, 1) := by decide +kernel
theorem i_L_next_4 : decode m_L_next.2.1 4 = .ok (.iload_n 2, 1) := by decide +kernel
theorem i_L_next_5 : qInv m_L_next 5 m_P_next 4 2 := ⟨37, _, by decide +kernel, rfl, rfl, wd_515, wd_516, wd_517, by decide +kernel⟩
theorem i_L_next_8 : decode m_L_next.2.1 8 = .ok (.i2l, 1) := by decide +kernel
theorem i_L_next_9 : decode m_L_next.2.1 9 = .ok (.lastore, 1) := by decide +kernel
theorem i_L_next_10 : decode m_L_next.2.1 10 = .ok (.goto 15, 3) := by decide +kernel
theorem i_L_next_13 : decode m_L_next.2.1 13 = .ok (.astore 4, 2) := by decide +kernel
theorem i_L_next_15 : decode m_L_next.2.1 15 = .ok (.iconst 1, 1) := by decide +kernel
theorem i_L_next_16 : decode m_L_next.2.1 16 = .ok (.ireturn, 1) := by decide +kernel
theorem i_L_next_17 : decode m_L_next.2.1 17 = .ok (.astore 4, 2) := by decide +kernel
theorem i_L_next_19 : decode m_L_next.2.1 19 = .ok (.iconst 2, 1) := by decide +kernel
theorem i_L_next_20 : decode m_L_next.2.1 20 = .ok (.ireturn, 1) := by decide +kernel
theorem i_L_next_21 : decode m_L_next.2.1 21 = .ok (.astore 4, 2) := by decide +kernel
theorem i_L_next_23 : decode m_L_next.2.1 23 = .ok (.iconst 3, 1) := by decide +kernel
theorem i_L_next_24 : decode m_L_next.2.1 24 = .ok (.ireturn, 1) := by decide +kernel
theorem i_L_next_25 : decode m_L_next.2.1 25 = .ok (.iconst 0, 1) := by decide +kernel
theorem i_L_next_26 : decode m_L_next.2.1 26 = .ok (.ireturn, 1) := by decide +kernel
theorem i_L_count_0 : decode m_L_count.2.1 0 = .ok (.aload 4, 2) := by decide +kernel
theorem i_L_count_2 : decode m_L_count.2.1 2 = .ok (.iconst 0, 1) := by decide +kernel
theorem i_L_count_3 : decode m_L_count.2.1 3 = .ok (.aload_n 0, 1) := by decide +kernel
theorem i_L_count_4 : decode m_L_count.2.1 4 = .ok (.iload_n 1, 1) := by decide +kernel
theorem i_L_count_5 : decode m_L_count.2.1 5 = .ok (.iload_n 2, 1) := by decide +kernel
theorem i_L_count_6 : decode m_L_count.2.1 6 = .ok (.iload_n 3, 1) := by decide +kernel
theorem i_L_count_7 : qInv m_L_count 7 m_P_count 4 3 := ⟨41, _, by decide +kernel, rfl, rfl, wd_526, wd_527, wd_528, by decide +kernel⟩
theorem i_L_count_10 : decode m_L_count.2.1 10 = .ok (.i2l, 1) := by decide +kernel
theorem i_L_count_11 : decode m_L_count.2.1 11 = .ok (.lastore, 1) := by decide +kernel
theorem i_L_count_12 : decode m_L_count.2.1 12 = .ok (.goto 11, 3) := by decide +kernel
theorem i_L_count_15 : decode m_L_count.2.1 15 = .ok (.astore 5, 2) := by decide +kernel
theorem i_L_count_17 : decode m_L_count.2.1 17 = .ok (.iconst 1, 1) := by decide +kernel
theorem i_L_count_18 : decode m_L_count.2.1 18 = .ok (.ireturn, 1) := by decide +kernel
theorem i_L_count_19 : decode m_L_count.2.1 19 = .ok (.astore 5, 2) := by decide +kernel
theorem i_L_count_21 : decode m_L_count.2.1 21 = .ok (.iconst 2, 1) := by decide +kernel
theorem i_L_count_22 : decode m_L_count.2.1 22 = .ok (.ireturn, 1) := by decide +kernel
theorem i_L_count_23 : decode m_L_count.2.1 23 = .ok (.iconst 0, 1) := by decide +kernel
theorem i_L_count_24 : decode m_L_count.2.1 24 = .ok (.ireturn, 1) := by decide +kernel
theorem i_L_sum_0 : decode m_L_sum.2.1 0 = .ok (.aload 4, 2) := by decide +kernel
theorem i_L_sum_2 : decode m_L_sum.2.1 2 = .ok (.iconst 0, 1) := by decide +kernel
theorem i_L_sum_3 : decode m_L_sum.2.1 3 = .ok (.aload_n 0, 1) := by decide +kernel
theorem i_L_sum_4 : decode m_L_sum.2.1 4 = .ok (.iload_n 1, 1) := by decide +kernel
theorem i_L_sum_5 : decode m_L_sum.2.1 5 = .ok (.iload_n 2, 1) := by decide +kernel
theorem i_L_sum_6 : decode m_L_sum.2.1 6 = .ok (.iload_n 3, 1) := by decide +kernel
theorem i_L_sum_7 : qInv m_L_sum 7 m_P_sum 4 3 := ⟨45, _, by decide +kernel, rfl, rfl, wd_533, wd_534, wd_535, by decide +kernel⟩
theorem i_L_sum_10 : decode m_L_sum.2.1 10 = .ok (.lastore, 1) := by decide +kernel
theorem i_L_sum_11 : decode m_L_sum.2.1 11 = .ok (.goto 11, 3) := by decide +kernel
theorem i_L_sum_14 : decode m_L_sum.2.1 14 = .ok (.astore 5, 2) := by decide +kernel
theorem i_L_sum_16 : decode m_L_sum.2.1 16 = .ok (.iconst 1, 1) := by decide +kernel
theorem i_L_sum_17 : decode m_L_sum.2.1 17 = .ok (.ireturn, 1) := by decide +kernel
theorem i_L_sum_18 : decode m_L_sum.2.1 18 = .ok (.astore 5, 2) := by decide +kernel
theorem i_L_sum_20 : decode m_L_sum.2.1 20 = .ok (.iconst 2, 1) := by decide +kernel
theorem i_L_sum_21 : decode m_L_sum.2.1 21 = .ok (.ireturn, 1) := by decide +kernel
theorem i_L_sum_22 : decode m_L_sum.2.1 22 = .ok (.iconst 0, 1) := by decide +kernel
theorem i_L_sum_23 : decode m_L_sum.2.1 23 = .ok (.ireturn, 1) := by decide +kernel
theorem i_L_differs_0 : decode m_L_differs.2.1 0 = .ok (.aload 4, 2) := by decide +kernel
theorem i_L_differs_2 : decode m_L_differs.2.1 2 = .ok (.iconst 0, 1) := by decide +kernel
theorem i_L_differs_3 : decode m_L_differs.2.1 3 = .ok (.aload_n 0, 1) := by decide +kernel
theorem i_L_differs_4 : decode m_L_differs.2.1 4 = .ok (.iload_n 1, 1) := by decide +kernel
theorem i_L_differs_5 : decode m_L_differs.2.1 5 = .ok (.iload_n 2, 1) := by decide +kernel
theorem i_L_differs_6 : decode m_L_differs.2.1 6 = .ok (.iload_n 3, 1) := by decide +kernel
theorem i_L_differs_7 : qInv m_L_differs 7 m_P_differs 4 3 := ⟨49, _, by decide +kernel, rfl, rfl, wd_545, wd_546, wd_547, by decide +kernel⟩
theorem i_L_differs_10 : decode m_L_differs.2.1 10 = .ok (.i2l, 1) := by decide +kernel
theorem i_L_differs_11 : decode m_L_differs.2.1 11 = .ok (.lastore, 1) := by decide +kernel
theorem i_L_differs_12 : decode m_L_differs.2.1 12 = .ok (.goto 19, 3) := by decide +kernel
theorem i_L_differs_15 : decode m_L_differs.2.1 15 = .ok (.astore 5, 2) := by decide +kernel
theorem i_L_differs_17 : decode m_L_differs.2.1 17 = .ok (.iconst 1, 1) := by decide +kernel
theorem i_L_differs_18 : decode m_L_differs.2.1 18 = .ok (.ireturn, 1) := by decide +kernel
theorem i_L_differs_19 : decode m_L_differs.2.1 19 = .ok (.astore 5, 2) := by decide +kernel
theorem i_L_differs_21 : decode m_L_differs.2.1 21 = .ok (.iconst 2, 1) := by decide +kernel
theorem i_L_differs_22 : decode m_L_differs.2.1 22 = .ok (.ireturn, 1) := by decide +kernel
theorem i_L_differs_23 : decode m_L_differs.2.1 23 = .ok (.astore 5, 2) := by decide +kernel
theorem i_L_differs_25 : decode m_L_differs.2.1 25 = .ok (.iconst 3, 1) := by decide +kernel
theorem i_L_differs_26 : decode m_L_differs.2.1 26 = .ok (.ireturn, 1) := by decide +kernel
theorem i_L_differs_27 : decode m_L_differs.2.1 27 = .ok (.astore 5, 2) := by decide +kernel
theorem i_L_differs_29 : decode m_L_differs.2.1 29 = .ok (.iconst 4, 1) := by decide +kernel
theorem i_L_differs_30 : decode m_L_differs.2.1 30 = .ok (.ireturn, 1) := by decide +kernel
theorem i_L_differs_31 : decode m_L_differs.2.1 31 = .ok (.iconst 0, 1) := by decide +kernel
theorem i_L_differs_32 : decode m_L_differs.2.1 32 = .ok (.ireturn, 1) := by decide +kernel
theorem i_L_pages_0 : decode m_L_pages.2.1 0 = .ok (.aload_n 1, 1) := by decide +kernel
theorem i_L_pages_1 : decode m_L_pages.2.1 1 = .ok (.iconst 0, 1) := by decide +kernel
theorem i_L_pages_2 : decode m_L_pages.2.1 2 = .ok (.aload_n 0, 1) := by decide +kernel
theorem i_L_pages_3 : qInv m_L_pages 3 m_P_pages 4 0 := ⟨54, _, by decide +kernel, rfl, rfl, wd_580, wd_581, wd_582, by decide +kernel⟩
theorem i_L_pages_6 : decode m_L_pages.2.1 6 = .ok (.i2l, 1) := by decide +kernel
theorem i_L_pages_7 : decode m_L_pages.2.1 7 = .ok (.lastore, 1) := by decide +kernel
theorem i_L_pages_8 : decode m_L_pages.2.1 8 = .ok (.goto 6, 3) := by decide +kernel
theorem i_L_pages_11 : decode m_L_pages.2.1 11 = .ok (.astore_n 2, 1) := by decide +kernel
theorem i_L_pages_12 : decode m_L_pages.2.1 12 = .ok (.iconst 1, 1) := by decide +kernel
theorem i_L_pages_13 : decode m_L_pages.2.1 13 = .ok (.ireturn, 1) := by decide +kernel
theorem i_L_pages_14 : decode m_L_pages.2.1 14 = .ok (.iconst 0, 1) := by decide +kernel
theorem i_L_pages_15 : decode m_L_pages.2.1 15 = .ok (.ireturn, 1) := by decide +kernel
theorem i_L_page_0 : decode m_L_page.2.1 0 = .ok (.aload_n 3, 1) := by decide +kernel
theorem i_L_page_1 : decode m_L_page.2.1 1 = .ok (.iconst 0, 1) := by decide +kernel
theorem i_L_page_2 : decode m_L_page.2.1 2 = .ok (.aload_n 0, 1) := by decide +kernel
theorem i_L_page_3 : decode m_L_page.2.1 3 = .ok (.iload_n 1, 1) := by decide +kernel
theorem i_L_page_4 : decode m_L_page.2.1 4 = .ok (.iload_n 2, 1) := by decide +kernel
theorem i_L_page_5 : qInv m_L_page 5 m_P_page 4 2 := ⟨57, _, by decide +kernel, rfl, rfl, wd_587, wd_588, wd_589, by decide +kernel⟩
theorem i_L_page_8 : decode m_L_page.2.1 8 = .ok (.i2l, 1) := by decide +kernel
theorem i_L_page_9 : decode m_L_page.2.1 9 = .ok (.lastore, 1) := by decide +kernel
theorem i_L_page_10 : decode m_L_page.2.1 10 = .ok (.goto 15, 3) := by decide +kernel
theorem i_L_page_13 : decode m_L_page.2.1 13 = .ok (.astore 4, 2) := by decide +kernel
theorem i_L_page_15 : decode m_L_page.2.1 15 = .ok (.iconst 1, 1) := by decide +kernel
theorem i_L_page_16 : decode m_L_page.2.1 16 = .ok (.ireturn, 1) := by decide +kernel
theorem i_L_page_17 : decode m_L_page.2.1 17 = .ok (.astore 4, 2) := by decide +kernel
theorem i_L_page_19 : decode m_L_page.2.1 19 = .ok (.iconst 2, 1) := by decide +kernel
theorem i_L_page_20 : decode m_L_page.2.1 20 = .ok (.ireturn, 1) := by decide +kernel
theorem i_L_page_21 : decode m_L_page.2.1 21 = .ok (.astore 4, 2) := by decide +kernel
theorem i_L_page_23 : decode m_L_page.2.1 23 = .ok (.iconst 3, 1) := by decide +kernel
theorem i_L_page_24 : decode m_L_page.2.1 24 = .ok (.ireturn, 1) := by decide +kernel
theorem i_L_page_25 : decode m_L_page.2.1 25 = .ok (.iconst 0, 1) := by decide +kernel
theorem i_L_page_26 : decode m_L_page.2.1 26 = .ok (.ireturn, 1) := by decide +kernel
theorem i_L_alive_0 : decode m_L_alive.2.1 0 = .ok (.aload_n 3, 1) := by decide +kernel
theorem i_L_alive_1 : decode m_L_alive.2.1 1 = .ok (.iconst 0, 1) := by decide +kernel
theorem i_L_alive_2 : decode m_L_alive.2.1 2 = .ok (.aload_n 0, 1) := by decide +kernel
theorem i_L_alive_3 : decode m_L_alive.2.1 3 = .ok (.iload_n 1, 1) := by decide +kernel
theorem i_L_alive_4 : decode m_L_alive.2.1 4 = .ok (.iload_n 2, 1) := by decide +kernel
theorem i_L_alive_5 : qInv m_L_alive 5 m_P_alive 4 2 := ⟨60, _, by decide +kernel, rfl, rfl, wd_605, wd_606, wd_607, by decide +kernel⟩
theorem i_L_alive_8 : decode m_L_alive.2.1 8 = .ok (.i2l, 1) := by decide +kernel
theorem i_L_alive_9 : decode m_L_alive.2.1 9 = .ok (.lastore, 1) := by decide +kernel
theorem i_L_alive_10 : decode m_L_alive.2.1 10 = .ok (.goto 11, 3) := by decide +kernel
theorem i_L_alive_13 : decode m_L_alive.2.1 13 = .ok (.astore 4, 2) := by decide +kernel
theorem i_L_alive_15 : decode m_L_alive.2.1 15 = .ok (.iconst 1, 1) := by decide +kernel
theorem i_L_alive_16 : decode m_L_alive.2.1 16 = .ok (.ireturn, 1) := by decide +kernel
theorem i_L_alive_17 : decode m_L_alive.2.1 17 = .ok (.astore 4, 2) := by decide +kernel
theorem i_L_alive_19 : decode m_L_alive.2.1 19 = .ok (.iconst 2, 1) := by decide +kernel
theorem i_L_alive_20 : decode m_L_alive.2.1 20 = .ok (.ireturn, 1) := by decide +kernel
theorem i_L_alive_21 : decode m_L_alive.2.1 21 = .ok (.iconst 0, 1) := by decide +kernel
theorem i_L_alive_22 : decode m_L_alive.2.1 22 = .ok (.ireturn, 1) := by decide +kernel
theorem i_L_entry_0 : decode m_L_entry.2.1 0 = .ok (.aload 4, 2) := by decide +kernel
theorem i_L_entry_2 : decode m_L_entry.2.1 2 = .ok (.iconst 0, 1) := by decide +kernel
theorem i_L_entry_3 : decode m_L_entry.2.1 3 = .ok (.aload_n 0, 1) := by decide +kernel
theorem i_L_entry_4 : decode m_L_entry.2.1 4 = .ok (.iload_n 1, 1) := by decide +kernel
theorem i_L_entry_5 : decode m_L_entry.2.1 5 = .ok (.iload_n 2, 1) := by decide +kernel
theorem i_L_entry_6 : decode m_L_entry.2.1 6 = .ok (.iload_n 3, 1) := by decide +kernel
theorem i_L_entry_7 : qInv m_L_entry 7 m_P_entry 4 3 := ⟨63, _, by decide +kernel, rfl, rfl, wd_620, wd_621, wd_622, by decide +kernel⟩
theorem i_L_entry_10 : decode m_L_entry.2.1 10 = .ok (.lastore, 1) := by decide +kernel
theorem i_L_entry_11 : decode m_L_entry.2.1 11 = .ok (.goto 15, 3) := by decide +kernel
theorem i_L_entry_14 : decode m_L_entry.2.1 14 = .ok (.astore 5, 2) := by decide +kernel
theorem i_L_entry_16 : decode m_L_entry.2.1 16 = .ok (.iconst 1, 1) := by decide +kernel
theorem i_L_entry_17 : decode m_L_entry.2.1 17 = .ok (.ireturn, 1) := by decide +kernel
theorem i_L_entry_18 : decode m_L_entry.2.1 18 = .ok (.astore 5, 2) := by decide +kernel
theorem i_L_entry_20 : decode m_L_entry.2.1 20 = .ok (.iconst 2, 1) := by decide +kernel
theorem i_L_entry_21 : decode m_L_entry.2.1 21 = .ok (.ireturn, 1) := by decide +kernel
theorem i_L_entry_22 : decode m_L_entry.2.1 22 = .ok (.astore 5, 2) := by decide +kernel
theorem i_L_entry_24 : decode m_L_entry.2.1 24 = .ok (.iconst 3, 1) := by decide +kernel
theorem i_L_entry_25 : decode m_L_entry.2.1 25 = .ok (.ireturn, 1) := by decide +kernel
theorem i_L_entry_26 : decode m_L_entry.2.1 26 = .ok (.iconst 0, 1) := by decide +kernel
theorem i_L_entry_27 : decode m_L_entry.2.1 27 = .ok (.ireturn, 1) := by decide +kernel
theorem i_L_root_0 : decode m_L_root.2.1 0 = .ok (.aload_n 2, 1) := by decide +kernel
theorem i_L_root_1 : decode m_L_root.2.1 1 = .ok (.iconst 0, 1) := by decide +kernel
theorem i_L_root_2 : decode m_L_root.2.1 2 = .ok (.aload_n 0, 1) := by decide +kernel
theorem i_L_root_3 : decode m_L_root.2.1 3 = .ok (.iload_n 1, 1) := by decide +kernel
theorem i_L_root_4 : qInv m_L_root 4 m_P_root 4 1 := ⟨66, _, by decide +kernel, rfl, rfl, wd_639, wd_640, wd_641, by decide +kernel⟩
theorem i_L_root_7 : decode m_L_root.2.1 7 = .ok (.i2l, 1) := by decide +kernel
theorem i_L_root_8 : decode m_L_root.2.1 8 = .ok (.lastore, 1) := by decide +kernel
theorem i_L_root_9 : decode m_L_root.2.1 9 = .ok (.goto 9, 3) := by decide +kernel
theorem i_L_root_12 : decode m_L_root.2.1 12 = .ok (.astore_n 3, 1) := by decide +kernel
theorem i_L_root_13 : decode m_L_root.2.1 13 = .ok (.iconst 1, 1) := by decide +kernel
theorem i_L_root_14 : decode m_L_root.2.1 14 = .ok (.ireturn, 1) := by decide +kernel
theorem i_L_root_15 : decode m_L_root.2.1 15 = .ok (.astore_n 3, 1) := by decide +kernel
theorem i_L_root_16 : decode m_L_root.2.1 16 = .ok (.iconst 2, 1) := by decide +kernel
theorem i_L_root_17 : decode m_L_root.2.1 17 = .ok (.ireturn, 1) := by decide +kernel
theorem i_L_root_18 : decode m_L_root.2.1 18 = .ok (.iconst 0, 1) := by decide +kernel
theorem i_L_root_19 : decode m_L_root.2.1 19 = .ok (.ireturn, 1) := by decide +kernel
theorem i_L_bound_0 : decode m_L_bound.2.1 0 = .ok (.aload_n 1, 1) := by decide +kernel
theorem i_L_bound_1 : decode m_L_bound.2.1 1 = .ok (.iconst 0, 1) := by decide +kernel
theorem i_L_bound_2 : decode m_L_bound.2.1 2 = .ok (.aload_n 0, 1) := by decide +kernel
theorem i_L_bound_3 : qInv m_L_bound 3 m_P_bound 4 0 := ⟨69, _, by decide +kernel, rfl, rfl, wd_647, wd_648, wd_649, by decide +kernel⟩
theorem i_L_bound_6 : decode m_L_bound.2.1 6 = .ok (.i2l, 1) := by decide +kernel
theorem i_L_bound_7 : decode m_L_bound.2.1 7 = .ok (.lastore, 1) := by decide +kernel
theorem i_L_bound_8 : decode m_L_bound.2.1 8 = .ok (.goto 6, 3) := by decide +kernel
theorem i_L_bound_11 : decode m_L_bound.2.1 11 = .ok (.astore_n 2, 1) := by decide +kernel
theorem i_L_bound_12 : decode m_L_bound.2.1 12 = .ok (.iconst 1, 1) := by decide +kernel
theorem i_L_bound_13 : decode m_L_bound.2.1 13 = .ok (.ireturn, 1) := by decide +kernel
theorem i_L_bound_14 : decode m_L_bound.2.1 14 = .ok (.iconst 0, 1) := by decide +kernel
theorem i_L_bound_15 : decode m_L_bound.2.1 15 = .ok (.ireturn, 1) := by decide +kernel
theorem i_L_dense_0 : decode m_L_dense.2.1 0 = .ok (.aload_n 1, 1) := by decide +kernel
theorem i_L_dense_1 : decode m_L_dense.2.1 1 = .ok (.iconst 0, 1) := by decide +kernel
theorem i_L_dense_2 : decode m_L_dense.2.1 2 = .ok (.aload_n 0, 1) := by decide +kernel
theorem i_L_dense_3 : qInv m_L_dense 3 m_P_dense 4 0 := ⟨72, _, by decide +kernel, rfl, rfl, wd_654, wd_655, wd_656, by decide +kernel⟩
theorem i_L_dense_6 : decode m_L_dense.2.1 6 = .ok (.ifCond .eq 7, 3) := by decide +kernel
theorem i_L_dense_9 : decode m_L_dense.2.1 9 = .ok (.lconst 1, 1) := by decide +kernel
theorem i_L_dense_10 : decode m_L_dense.2.1 10 = .ok (.goto 4, 3) := by decide +kernel
theorem i_L_dense_13 : decode m_L_dense.2.1 13 = .ok (.lconst 0, 1) := by decide +kernel
theorem i_L_dense_14 : decode m_L_dense.2.1 14 = .ok (.lastore, 1) := by decide +kernel
theorem i_L_dense_15 : decode m_L_dense.2.1 15 = .ok (.goto 6, 3) := by decide +kernel
theorem i_L_dense_18 : decode m_L_dense.2.1 18 = .ok (.astore_n 2, 1) := by decide +kernel
theorem i_L_dense_19 : decode m_L_dense.2.1 19 = .ok (.iconst 1, 1) := by decide +kernel
theorem i_L_dense_20 : decode m_L_dense.2.1 20 = .ok (.ireturn, 1) := by decide +kernel
theorem i_L_dense_21 : decode m_L_dense.2.1 21 = .ok (.iconst 0, 1) := by decide +kernel
theorem i_L_dense_22 : decode m_L_dense.2.1 22 = .ok (.ireturn, 1) := by decide +kernel
theorem i_L_sync_0 : decode m_L_sync.2.1 0 = .ok (.aload_n 1, 1) := by decide +kernel
theorem i_L_sync_1 : decode m_L_sync.2.1 1 = .ok (.iconst 0, 1) := by decide +kernel
theorem i_L_sync_2 : decode m_L_sync.2.1 2 = .ok (.aload_n 0, 1) := by decide +kernel
theorem i_L_sync_3 : qInv m_L_sync 3 m_P_sync 4 0 := ⟨76, _, by decide +kernel, rfl, rfl, wd_671, wd_672, wd_673, by decide +kernel⟩
theorem i_L_sync_6 : decode m_L_sync.2.1 6 = .ok (.i2l, 1) := by decide +kernel
theorem i_L_sync_7 : decode m_L_sync.2.1 7 = .ok (.lastore, 1) := by decide +kernel
theorem i_L_sync_8 : decode m_L_sync.2.1 8 = .ok (.goto 9, 3) := by decide +kernel
theorem i_L_sync_11 : decode m_L_sync.2.1 11 = .ok (.astore_n 2, 1) := by decide +kernel
theorem i_L_sync_12 : decode m_L_sync.2.1 12 = .ok (.iconst 1, 1) := by decide +kernel
theorem i_L_sync_13 : decode m_L_sync.2.1 13 = .ok (.ireturn, 1) := by decide +kernel
theorem i_L_sync_14 : decode m_L_sync.2.1 14 = .ok (.astore_n 2, 1) := by decide +kernel
theorem i_L_sync_15 : decode m_L_sync.2.1 15 = .ok (.iconst 2, 1) := by decide +kernel
theorem i_L_sync_16 : decode m_L_sync.2.1 16 = .ok (.ireturn, 1) := by decide +kernel
theorem i_L_sync_17 : decode m_L_sync.2.1 17 = .ok (.iconst 0, 1) := by decide +kernel
theorem i_L_sync_18 : decode m_L_sync.2.1 18 = .ok (.ireturn, 1) := by decide +kernel
theorem i_L_checkpoint_0 : decode m_L_checkpoint.2.1 0 = .ok (.aload_n 1, 1) := by decide +kernel
theorem i_L_checkpoint_1 : decode m_L_checkpoint.2.1 1 = .ok (.iconst 0, 1) := by decide +kernel
theorem i_L_checkpoint_2 : decode m_L_checkpoint.2.1 2 = .ok (.aload_n 0, 1) := by decide +kernel
theorem i_L_checkpoint_3 : qInv m_L_checkpoint 3 m_P_checkpoint 4 0 := ⟨79, _, by decide +kernel, rfl, rfl, wd_703, wd_704, wd_705, by decide +kernel⟩
theorem i_L_checkpoint_6 : decode m_L_checkpoint.2.1 6 = .ok (.i2l, 1) := by decide +kernel
theorem i_L_checkpoint_7 : decode m_L_checkpoint.2.1 7 = .ok (.lastore, 1) := by decide +kernel
theorem i_L_checkpoint_8 : decode m_L_checkpoint.2.1 8 = .ok (.goto 6, 3) := by decide +kernel
theorem i_L_checkpoint_11 : decode m_L_checkpoint.2.1 11 = .ok (.astore_n 2, 1) := by decide +kernel
theorem i_L_checkpoint_12 : decode m_L_checkpoint.2.1 12 = .ok (.iconst 1, 1) := by decide +kernel
theorem i_L_checkpoint_13 : decode m_L_checkpoint.2.1 13 = .ok (.ireturn, 1) := by decide +kernel
theorem i_L_checkpoint_14 : decode m_L_checkpoint.2.1 14 = .ok (.iconst 0, 1) := by decide +kernel
theorem i_L_checkpoint_15 : decode m_L_checkpoint.2.1 15 = .ok (.ireturn, 1) := by decide +kernel
theorem i_L_cut_0 : decode m_L_cut.2.1 0 = .ok (.aload_n 0, 1) := by decide +kernel
theorem i_L_cut_1 : decode m_L_cut.2.1 1 = .ok (.iload_n 1, 1) := by decide +kernel
theorem i_L_cut_2 : qInv m_L_cut 2 m_P_cut 4 1 := ⟨82, _, by decide +kernel, rfl, rfl, wd_719, wd_720, wd_721, by decide +kernel⟩
theorem i_L_cut_5 : decode m_L_cut.2.1 5 = .ok (.goto 9, 3) := by decide +kernel
theorem i_L_cut_8 : decode m_L_cut.2.1 8 = .ok (.astore_n 2, 1) := by decide +kernel
theorem i_L_cut_9 : decode m_L_cut.2.1 9 = .ok (.iconst 1, 1) := by decide +kernel
theorem i_L_cut_10 : decode m_L_cut.2.1 10 = .ok (.ireturn, 1) := by decide +kernel
theorem i_L_cut_11 : decode m_L_cut.2.1 11 = .ok (.astore_n 2, 1) := by decide +kernel
theorem i_L_cut_12 : decode m_L_cut.2.1 12 = .ok (.iconst 2, 1) := by decide +kernel
theorem i_L_cut_13 : decode m_L_cut.2.1 13 = .ok (.ireturn, 1) := by decide +kernel
theorem i_L_cut_14 : decode m_L_cut.2.1 14 = .ok (.iconst 0, 1) := by decide +kernel
theorem i_L_cut_15 : decode m_L_cut.2.1 15 = .ok (.ireturn, 1) := by decide +kernel
theorem i_L_down_0 : decode m_L_down.2.1 0 = .ok (.aload_n 0, 1) := by decide +kernel
theorem i_L_down_1 : qInv m_L_down 1 m_P_down 4 0 := ⟨86, _, by decide +kernel, rfl, rfl, wd_727, wd_728, wd_729, by decide +kernel⟩
theorem i_L_down_4 : decode m_L_down.2.1 4 = .ok (.goto 6, 3) := by decide +kernel
theorem i_L_down_7 : decode m_L_down.2.1 7 = .ok (.astore_n 1, 1) := by decide +kernel
theorem i_L_down_8 : decode m_L_down.2.1 8 = .ok (.iconst 1, 1) := by decide +kernel
theorem i_L_down_9 : decode m_L_down.2.1 9 = .ok (.ireturn, 1) := by decide +kernel
theorem i_L_down_10 : decode m_L_down.2.1 10 = .ok (.iconst 0, 1) := by decide +kernel
theorem i_L_down_11 : decode m_L_down.2.1 11 = .ok (.ireturn, 1) := by decide +kernel
theorem i_L_spoil_0 : decode m_L_spoil.2.1 0 = .ok (.aload_n 0, 1) := by decide +kernel
theorem i_L_spoil_1 : decode m_L_spoil.2.1 1 = .ok (.iload_n 1, 1) := by decide +kernel
theorem i_L_spoil_2 : qInv m_L_spoil 2 m_P_spoil 4 1 := ⟨89, _, by decide +kernel, rfl, rfl, wd_734, wd_735, wd_736, by decide +kernel⟩
theorem i_L_spoil_5 : decode m_L_spoil.2.1 5 = .ok (.goto 6, 3) := by decide +kernel
theorem i_L_spoil_8 : decode m_L_spoil.2.1 8 = .ok (.astore_n 2, 1) := by decide +kernel
theorem i_L_spoil_9 : decode m_L_spoil.2.1 9 = .ok (.iconst 1, 1) := by decide +kernel
theorem i_L_spoil_10 : decode m_L_spoil.2.1 10 = .ok (.ireturn, 1) := by decide +kernel
theorem i_L_spoil_11 : decode m_L_spoil.2.1 11 = .ok (.iconst 0, 1) := by decide +kernel
theorem i_L_spoil_12 : decode m_L_spoil.2.1 12 = .ok (.ireturn, 1) := by decide +kernel
theorem i_L_start_0 : decode m_L_start.2.1 0 = .ok (.aload_n 1, 1) := by decide +kernel
theorem i_L_start_1 : decode m_L_start.2.1 1 = .ok (.iconst 0, 1) := by decide +kernel
theorem i_L_start_2 : decode m_L_start.2.1 2 = .ok (.aload_n 0, 1) := by decide +kernel
theorem i_L_start_3 : qInv m_L_start 3 m_P_start 4 0 := ⟨92, _, by decide +kernel, rfl, rfl, wd_746, wd_747, wd_748, by decide +kernel⟩
theorem i_L_start_6 : decode m_L_start.2.1 6 = .ok (.i2l, 1) := by decide +kernel
theorem i_L_start_7 : decode m_L_start.2.1 7 = .ok (.lastore, 1) := by decide +kernel
theorem i_L_start_8 : decode m_L_start.2.1 8 = .ok (.goto 6, 3) := by decide +kernel
theorem i_L_start_11 : decode m_L_start.2.1 11 = .ok (.astore_n 2, 1) := by decide +kernel
theorem i_L_start_12 : decode m_L_start.2.1 12 = .ok (.iconst 1, 1) := by decide +kernel
theorem i_L_start_13 : decode m_L_start.2.1 13 = .ok (.ireturn, 1) := by decide +kernel
theorem i_L_start_14 : decode m_L_start.2.1 14 = .ok (.iconst 0, 1) := by decide +kernel
theorem i_L_start_15 : decode m_L_start.2.1 15 = .ok (.ireturn, 1) := by decide +kernel
theorem i_L_disk_0 : decode m_L_disk.2.1 0 = .ok (.aload_n 2, 1) := by decide +kernel
theorem i_L_disk_1 : decode m_L_disk.2.1 1 = .ok (.iconst 0, 1) := by decide +kernel
theorem i_L_disk_2 : decode m_L_disk.2.1 2 = .ok (.aload_n 0, 1) := by decide +kernel
theorem i_L_disk_3 : decode m_L_disk.2.1 3 = .ok (.iload_n 1, 1) := by decide +kernel
theorem i_L_disk_4 : qInv m_L_disk 4 m_P_disk 4 1 := ⟨95, _, by decide +kernel, rfl, rfl, wd_766, wd_767, wd_768, by decide +kernel⟩
theorem i_L_disk_7 : decode m_L_disk.2.1 7 = .ok (.i2l, 1) := by decide +kernel
theorem i_L_disk_8 : decode m_L_disk.2.1 8 = .ok (.lastore, 1) := by decide +kernel
theorem i_L_disk_9 : decode m_L_disk.2.1 9 = .ok (.goto 6, 3) := by decide +kernel
theorem i_L_disk_12 : decode m_L_disk.2.1 12 = .ok (.astore_n 3, 1) := by decide +kernel
theorem i_L_disk_13 : decode m_L_disk.2.1 13 = .ok (.iconst 1, 1) := by decide +kernel
theorem i_L_disk_14 : decode m_L_disk.2.1 14 = .ok (.ireturn, 1) := by decide +kernel
theorem i_L_disk_15 : decode m_L_disk.2.1 15 = .ok (.iconst 0, 1) := by decide +kernel
theorem i_L_disk_16 : decode m_L_disk.2.1 16 = .ok (.ireturn, 1) := by decide +kernel
theorem i_L_law_0 : qNew m_L_law 0 4 := ⟨8, _, by decide +kernel, rfl, wd_16, wd_17, wd_1⟩
theorem i_L_law_3 : decode m_L_law.2.1 3 = .ok (.dup, 1) := by decide +kernel
theorem i_L_law_4 : qInvI m_L_law 4 m_P_init 0 := ⟨98, by decide +kernel, rfl, rfl, rfl, wd_18, wd_19, by decide +kernel⟩
theorem i_L_law_7 : decode m_L_law.2.1 7 = .ok (.astore_n 1, 1) := by decide +kernel
theorem i_L_law_8 : qNew m_L_law 8 5 := ⟨99, _, by decide +kernel, rfl, wd_771, wd_772, wd_7⟩
theorem i_L_law_11 : decode m_L_law.2.1 11 = .ok (.dup, 1) := by decide +kernel
theorem i_L_law_12 : qInvI m_L_law 12 m_M_init 0 := ⟨101, by decide +kernel, rfl, rfl, rfl, wd_773, wd_774, by decide +kernel⟩
theorem i_L_law_15 : decode m_L_law.2.1 15 = .ok (.astore_n 2, 1) := by decide +kernel
theorem i_L_law_16 : decode m_L_law.2.1 16 = .ok (.iconst 1, 1) := by decide +kernel
theorem i_L_law_17 : decode m_L_law.2.1 17 = .ok (.newarray .long, 2) := by decide +kernel
theorem i_L_law_19 : decode m_L_law.2.1 19 = .ok (.astore_n 3, 1) := by decide +kernel
theorem i_L_law_20 : decode m_L_law.2.1 20 = .ok (.iconst 0, 1) := by decide +kernel
theorem i_L_law_21 : decode m_L_law.2.1 21 = .ok (.istore 4, 2) := by decide +kernel
theorem i_L_law_23 : decode m_L_law.2.1 23 = .ok (.iload 4, 2) := by decide +kernel
theorem i_L_law_25 : decode m_L_law.2.1 25 = .ok (.aload_n 0, 1) := by decide +kernel
theorem i_L_law_26 : decode m_L_law.2.1 26 = .ok (.arraylength, 1) := by decide +kernel
theorem i_L_law_27 : decode m_L_law.2.1 27 = .ok (.iconst 4, 1) := by decide +kernel
theorem i_L_law_28 : decode m_L_law.2.1 28 = .ok (.isub, 1) := by decide +kernel
theorem i_L_law_29 : decode m_L_law.2.1 29 = .ok (.if_icmp .gt 1464, 3) := by decide +kernel
theorem i_L_law_32 : decode m_L_law.2.1 32 = .ok (.aload_n 0, 1) := by decide +kernel
theorem i_L_law_33 : decode m_L_law.2.1 33 = .ok (.iload 4, 2) := by decide +kernel
theorem i_L_law_35 : decode m_L_law.2.1 35 = .ok (.iaload, 1) := by decide +kernel
theorem i_L_law_36 : decode m_L_law.2.1 36 = .ok (.bipush 31, 2) := by decide +kernel
theorem i_L_law_38 : decode m_L_law.2.1 38 = .ok (.iand, 1) := by decide +kernel
theorem i_L_law_39 : decode m_L_law.2.1 39 = .ok (.tableswitch 1448 0 22 #[105, 205, 261, 305, 380, 447, 515, 595, 674, 754, 798, 866, 934, 1013, 1069, 1113, 1164, 1208, 1252, 1288, 1312, 1348, 1392], 105) := by decide +kernel
theorem i_L_law_144 : decode m_L_law.2.1 144 = .ok (.aload_n 1, 1) := by decide +kernel
theorem i_L_law_145 : decode m_L_law.2.1 145 = .ok (.aload_n 0, 1) := by decide +kernel
theorem i_L_law_146 : decode m_L_law.2.1 146 = .ok (.iload 4, 2) := by decide +kernel
theorem i_L_law_148 : decode m_L_law.2.1 148 = .ok (.iconst 1, 1) := by decide +kernel
theorem i_L_law_149 : decode m_L_law.2.1 149 = .ok (.iadd, 1) := by decide +kernel
theorem i_L_law_150 : decode m_L_law.2.1 150 = .ok (.iaload, 1) := by decide +kernel
theorem i_L_law_151 : decode m_L_law.2.1 151 = .ok (.aload_n 0, 1) := by decide +kernel
theorem i_L_law_152 : decode m_L_law.2.1 152 = .ok (.iload 4, 2) := by decide +kernel
theorem i_L_law_154 : decode m_L_law.2.1 154 = .ok (.iconst 2, 1) := by decide +kernel
theorem i_L_law_155 : decode m_L_law.2.1 155 = .ok (.iadd, 1) := by decide +kernel
theorem i_L_law_156 : decode m_L_law.2.1 156 = .ok (.iaload, 1) := by decide +kernel
theorem i_L_law_157 : decode m_L_law.2.1 157 = .ok (.i2l, 1) := by decide +kernel
theorem i_L_law_158 : decode m_L_law.2.1 158 = .ok (.bipush 32, 2) := by decide +kernel
theorem i_L_law_160 : decode m_L_law.2.1 160 = .ok (.lshl, 1) := by decide +kernel
theorem i_L_law_161 : decode m_L_law.2.1 161 = .ok (.aload_n 0, 1) := by decide +kernel
theorem i_L_law_162 : decode m_L_law.2.1 162 = .ok (.iload 4, 2) := by decide +kernel
theorem i_L_law_164 : decode m_L_law.2.1 164 = .ok (.iconst 3, 1) := by decide +kernel
theorem i_L_law_165 : decode m_L_law.2.1 165 = .ok (.iadd, 1) := by decide +kernel
theorem i_L_law_166 : decode m_L_law.2.1 166 = .ok (.iaload, 1) := by decide +kernel
theorem i_L_law_167 : decode m_L_law.2.1 167 = .ok (.i2l, 1) := by decide +kernel
theorem i_L_law_168 : decode m_L_law.2.1 168 = .ok (.ldc2_w 102, 3) := by decide +kernel
theorem i_L_law_168_w : qIn (Cond.constantLong m_L_law.1.cls 102 4294967295) := wd_1110
theorem i_L_law_171 : decode m_L_law.2.1 171 = .ok (.land, 1) := by decide +kernel
theorem i_L_law_172 : decode m_L_law.2.1 172 = .ok (.lor, 1) := by decide +kernel
theorem i_L_law_173 : decode m_L_law.2.1 173 = .ok (.aload_n 3, 1) := by decide +kernel
theorem i_L_law_174 : qInvS m_L_law 174 m_L_put 4 := ⟨104, by decide +kernel, wd_188, wd_189, by decide +kernel⟩
theorem i_L_law_177 : decode m_L_law.2.1 177 = .ok (.istore 5, 2) := by decide +kernel
theorem i_L_law_179 : decode m_L_law.2.1 179 = .ok (.aload_n 2, 1) := by decide +kernel
theorem i_L_law_180 : decode m_L_law.2.1 180 = .ok (.aload_n 0, 1) := by decide +kernel
theorem i_L_law_181 : decode m_L_law.2.1 181 = .ok (.iload 4, 2) := by decide +kernel
theorem i_L_law_183 : decode m_L_law.2.1 183 = .ok (.iconst 1, 1) := by decide +kernel
theorem i_L_law_184 : decode m_L_law.2.1 184 = .ok (.iadd, 1) := by decide +kernel
theorem i_L_law_185 : decode m_L_law.2.1 185 = .ok (.iaload, 1) := by decide +kernel
theorem i_L_law_186 : decode m_L_law.2.1 186 = .ok (.aload_n 0, 1) := by decide +kernel
theorem i_L_law_187 : decode m_L_law.2.1 187 = .ok (.iload 4, 2) := by decide +kernel
theorem i_L_law_189 : decode m_L_law.2.1 189 = .ok (.iconst 2, 1) := by decide +kernel
theorem i_L_law_190 : decode m_L_law.2.1 190 = .ok (.iadd, 1) := by decide +kernel
theorem i_L_law_191 : decode m_L_law.2.1 191 = .ok (.iaload, 1) := by decide +kernel
theorem i_L_law_192 : decode m_L_law.2.1 192 = .ok (.i2l, 1) := by decide +kernel
theorem i_L_law_193 : decode m_L_law.2.1 193 = .ok (.bipush 32, 2) := by decide +kernel
theorem i_L_law_195 : decode m_L_law.2.1 195 = .ok (.lshl, 1) := by decide +kernel
theorem i_L_law_196 : decode m_L_law.2.1 196 = .ok (.aload_n 0, 1) := by decide +kernel
theorem i_L_law_197 : decode m_L_law.2.1 197 = .ok (.iload 4, 2) := by decide +kernel
theorem i_L_law_199 : decode m_L_law.2.1 199 = .ok (.iconst 3, 1) := by decide +kernel
theorem i_L_law_200 : decode m_L_law.2.1 200 = .ok (.iadd, 1) := by decide +kernel
theorem i_L_law_201 : decode m_L_law.2.1 201 = .ok (.iaload, 1) := by decide +kernel
theorem i_L_law_202 : decode m_L_law.2.1 202 = .ok (.i2l, 1) := by decide +kernel
theorem i_L_law_203 : decode m_L_law.2.1 203 = .ok (.ldc2_w 102, 3) := by decide +kernel
theorem i_L_law_203_w : qIn (Cond.constantLong m_L_law.1.cls 102 4294967295) := wd_1110
theorem i_L_law_206 : decode m_L_law.2.1 206 = .ok (.land, 1) := by decide +kernel
theorem i_L_law_207 : decode m_L_law.2.1 207 = .ok (.lor, 1) := by decide +kernel
theorem i_L_law_208 : qInv m_L_law 208 m_M_put 5 2 := ⟨109, _, by decide +kernel, rfl, rfl, wd_918, wd_919, wd_920, by decide +kernel⟩
theorem i_L_law_211 : decode m_L_law.2.1 211 = .ok (.istore 6, 2) := by decide +kernel
theorem i_L_law_213 : decode m_L_law.2.1 213 = .ok (.aload_n 2, 1) := by decide +kernel
theorem i_L_law_214 : qInv m_L_law 214 m_M_thrown 5 0 := ⟨110, _, by decide +kernel, rfl, rfl, wd_914, wd_915, wd_916, by decide +kernel⟩
theorem i_L_law_217 : decode m_L_law.2.1 217 = .ok (.iload 5, 2) := by decide +kernel
theorem i_L_law_219 : decode m_L_law.2.1 219 = .ok (.if_icmp .eq 5, 3) := by decide +kernel
theorem i_L_law_222 : decode m_L_law.2.1 222 = .ok (.iconst 0, 1) := by decide +kernel
theorem i_L_law_223 : decode m_L_law.2.1 223 = .ok (.ireturn, 1) := by decide +kernel
theorem i_L_law_224 : decode m_L_law.2.1 224 = .ok (.iload 5, 2) := by decide +kernel
theorem i_L_law_226 : decode m_L_law.2.1 226 = .ok (.ifCond .ne 15, 3) := by decide +kernel
theorem i_L_law_229 : decode m_L_law.2.1 229 = .ok (.aload_n 3, 1) := by decide +kernel
theorem i_L_law_230 : decode m_L_law.2.1 230 = .ok (.iconst 0, 1) := by decide +kernel
theorem i_L_law_231 : decode m_L_law.2.1 231 = .ok (.laload, 1) := by decide +kernel
theorem i_L_law_232 : decode m_L_law.2.1 232 = .ok (.iload 6, 2) := by decide +kernel
theorem i_L_law_234 : decode m_L_law.2.1 234 = .ok (.i2l, 1) := by decide +kernel
theorem i_L_law_235 : decode m_L_law.2.1 235 = .ok (.lcmp, 1) := by decide +kernel
theorem i_L_law_236 : decode m_L_law.2.1 236 = .ok (.ifCond .eq 5, 3) := by decide +kernel
theorem i_L_law_239 : decode m_L_law.2.1 239 = .ok (.iconst 0, 1) := by decide +kernel
theorem i_L_law_240 : decode m_L_law.2.1 240 = .ok (.ireturn, 1) := by decide +kernel
theorem i_L_law_241 : decode m_L_law.2.1 241 = .ok (.goto 1246, 3) := by decide +kernel
theorem i_L_law_244 : decode m_L_law.2.1 244 = .ok (.aload_n 1, 1) := by decide +kernel
theorem i_L_law_245 : decode m_L_law.2.1 245 = .ok (.aload_n 0, 1) := by decide +kernel
theorem i_L_law_246 : decode m_L_law.2.1 246 = .ok (.iload 4, 2) := by decide +kernel
theorem i_L_law_248 : decode m_L_law.2.1 248 = .ok (.iconst 1, 1) := by decide +kernel
theorem i_L_law_249 : decode m_L_law.2.1 249 = .ok (.iadd, 1) := by decide +kernel
theorem i_L_law_250 : decode m_L_law.2.1 250 = .ok (.iaload, 1) := by decide +kernel
theorem i_L_law_251 : decode m_L_law.2.1 251 = .ok (.aload_n 3, 1) := by decide +kernel
theorem i_L_law_252 : qInvS m_L_law 252 m_L_remove 3 := ⟨113, by decide +kernel, wd_436, wd_437, by decide +kernel⟩
theorem i_L_law_255 : decode m_L_law.2.1 255 = .ok (.istore 5, 2) := by decide +kernel
theorem i_L_law_257 : decode m_L_law.2.1 257 = .ok (.aload_n 2, 1) := by decide +kernel
theorem i_L_law_258 : decode m_L_law.2.1 258 = .ok (.aload_n 0, 1) := by decide +kernel
theorem i_L_law_259 : decode m_L_law.2.1 259 = .ok (.iload 4, 2) := by decide +kernel
theorem i_L_law_261 : decode m_L_law.2.1 261 = .ok (.iconst 1, 1) := by decide +kernel
theorem i_L_law_262 : decode m_L_law.2.1 262 = .ok (.iadd, 1) := by decide +kernel
theorem i_L_law_263 : decode m_L_law.2.1 263 = .ok (.iaload, 1) := by decide +kernel
theorem i_L_law_264 : qInv m_L_law 264 m_M_remove 5 1 := ⟨116, _, by decide +kernel, rfl, rfl, wd_982, wd_983, wd_984, by decide +kernel⟩
theorem i_L_law_267 : decode m_L_law.2.1 267 = .ok (.istore 6, 2) := by decide +kernel
theorem i_L_law_269 : decode m_L_law.2.1 269 = .ok (.aload_n 2, 1) := by decide +kernel
theorem i_L_law_270 : qInv m_L_law 270 m_M_thrown 5 0 := ⟨110, _, by decide +kernel, rfl, rfl, wd_914, wd_915, wd_916, by decide +kernel⟩
theorem i_L_law_273 : decode m_L_law.2.1 273 = .ok (.iload 5, 2) := by decide +kernel
theorem i_L_law_275 : decode m_L_law.2.1 275 = .ok (.if_icmp .eq 5, 3) := by decide +kernel
theorem i_L_law_278 : decode m_L_law.2.1 278 = .ok (.iconst 0, 1) := by decide +kernel
theorem i_L_law_279 : decode m_L_law.2.1 279 = .ok (.ireturn, 1) := by decide +kernel
theorem i_L_law_280 : decode m_L_law.2.1 280 = .ok (.iload 5, 2) := by decide +kernel
theorem i_L_law_282 : decode m_L_law.2.1 282 = .ok (.ifCond .ne 15, 3) := by decide +kernel
theorem i_L_law_285 : decode m_L_law.2.1 285 = .ok (.aload_n 3, 1) := by decide +kernel
theorem i_L_law_286 : decode m_L_law.2.1 286 = .ok (.iconst 0, 1) := by decide +kernel
theorem i_L_law_287 : decode m_L_law.2.1 287 = .ok (.laload, 1) := by decide +kernel
theorem i_L_law_288 : decode m_L_law.2.1 288 = .ok (.iload 6, 2) := by decide +kernel
theorem i_L_law_290 : decode m_L_law.2.1 290 = .ok (.i2l, 1) := by decide +kernel
theorem i_L_law_291 : decode m_L_law.2.1 291 = .ok (.lcmp, 1) := by decide +kernel
theorem i_L_law_292 : decode m_L_law.2.1 292 = .ok (.ifCond .eq 5, 3) := by decide +kernel
theorem i_L_law_295 : decode m_L_law.2.1 295 = .ok (.iconst 0, 1) := by decide +kernel
theorem i_L_law_296 : decode m_L_law.2.1 296 = .ok (.ireturn, 1) := by decide +kernel
theorem i_L_law_297 : decode m_L_law.2.1 297 = .ok (.goto 1190, 3) := by decide +kernel
theorem i_L_law_300 : decode m_L_law.2.1 300 = .ok (.aload_n 1, 1) := by decide +kernel
theorem i_L_law_301 : decode m_L_law.2.1 301 = .ok (.aload_n 3, 1) := by decide +kernel
theorem i_L_law_302 : qInvS m_L_law 302 m_L_version 2 := ⟨117, by decide +kernel, wd_468, wd_469, by decide +kernel⟩
theorem i_L_law_305 : decode m_L_law.2.1 305 = .ok (.istore 5, 2) := by decide +kernel
theorem i_L_law_307 : decode m_L_law.2.1 307 = .ok (.aload_n 2, 1) := by decide +kernel
theorem i_L_law_308 : qInv m_L_law 308 m_M_version 5 0 := ⟨120, _, by decide +kernel, rfl, rfl, wd_986, wd_987, wd_988, by decide +kernel⟩
theorem i_L_law_311 : decode m_L_law.2.1 311 = .ok (.istore 6, 2) := by decide +kernel
theorem i_L_law_313 : decode m_L_law.2.1 313 = .ok (.aload_n 2, 1) := by decide +kernel
theorem i_L_law_314 : qInv m_L_law 314 m_M_thrown 5 0 := ⟨110, _, by decide +kernel, rfl, rfl, wd_914, wd_915, wd_916, by decide +kernel⟩
theorem i_L_law_317 : decode m_L_law.2.1 317 = .ok (.iload 5, 2) := by decide +kernel
theorem i_L_law_319 : decode m_L_law.2.1 319 = .ok (.if_icmp .eq 5, 3) := by decide +kernel
theorem i_L_law_322 : decode m_L_law.2.1 322 = .ok (.iconst 0, 1) := by decide +kernel
theorem i_L_law_323 : decode m_L_law.2.1 323 = .ok (.ireturn, 1) := by decide +kernel
theorem i_L_law_324 : decode m_L_law.2.1 324 = .ok (.iload 5, 2) := by decide +kernel
theorem i_L_law_326 : decode m_L_law.2.1 326 = .ok (.ifCond .ne 15, 3) := by decide +kernel
theorem i_L_law_329 : decode m_L_law.2.1 329 = .ok (.aload_n 3, 1) := by decide +kernel
theorem i_L_law_330 : decode m_L_law.2.1 330 = .ok (.iconst 0, 1) := by decide +kernel
theorem i_L_law_331 : decode m_L_law.2.1 331 = .ok (.laload, 1) := by decide +kernel
theorem i_L_law_332 : decode m_L_law.2.1 332 = .ok (.iload 6, 2) := by decide +kernel
theorem i_L_law_334 : decode m_L_law.2.1 334 = .ok (.i2l, 1) := by decide +kernel
theorem i_L_law_335 : decode m_L_law.2.1 335 = .ok (.lcmp, 1) := by decide +kernel
theorem i_L_law_336 : decode m_L_law.2.1 336 = .ok (.ifCond .eq 5, 3) := by decide +kernel
theorem i_L_law_339 : decode m_L_law.2.1 339 = .ok (.iconst 0, 1) := by decide +kernel
theorem i_L_law_340 : decode m_L_law.2.1 340 = .ok (.ireturn, 1) := by decide +kernel
theorem i_L_law_341 : decode m_L_law.2.1 341 = .ok (.goto 1146, 3) := by decide +kernel
theorem i_L_law_344 : decode m_L_law.2.1 344 = .ok (.aload_n 1, 1) := by decide +kernel
theorem i_L_law_345 : decode m_L_law.2.1 345 = .ok (.aload_n 0, 1) := by decide +kernel
theorem i_L_law_346 : decode m_L_law.2.1 346 = .ok (.iload 4, 2) := by decide +kernel
theorem i_L_law_348 : decode m_L_law.2.1 348 = .ok (.iconst 1, 1) := by decide +kernel
theorem i_L_law_349 : decode m_L_law.2.1 349 = .ok (.iadd, 1) := by decide +kernel
theorem i_L_law_350 : decode m_L_law.2.1 350 = .ok (.iaload, 1) := by decide +kernel
theorem i_L_law_351 : decode m_L_law.2.1 351 = .ok (.aload_n 0, 1) := by decide +kernel
theorem i_L_law_352 : decode m_L_law.2.1 352 = .ok (.iload 4, 2) := by decide +kernel
theorem i_L_law_354 : decode m_L_law.2.1 354 = .ok (.iconst 2, 1) := by decide +kernel
theorem i_L_law_355 : decode m_L_law.2.1 355 = .ok (.iadd, 1) := by decide +kernel
theorem i_L_law_356 : decode m_L_law.2.1 356 = .ok (.iaload, 1) := by decide +kernel
theorem i_L_law_357 : decode m_L_law.2.1 357 = .ok (.aload_n 3, 1) := by decide +kernel
theorem i_L_law_358 : qInvS m_L_law 358 m_L_has 4 := ⟨121, by decide +kernel, wd_475, wd_476, by decide +kernel⟩
theorem i_L_law_361 : decode m_L_law.2.1 361 = .ok (.istore 5, 2) := by decide +kernel
theorem i_L_law_363 : decode m_L_law.2.1 363 = .ok (.aload_n 2, 1) := by decide +kernel
theorem i_L_law_364 : decode m_L_law.2.1 364 = .ok (.aload_n 0, 1) := by decide +kernel
theorem i_L_law_365 : decode m_L_law.2.1 365 = .ok (.iload 4, 2) := by decide +kernel
theorem i_L_law_367 : decode m_L_law.2.1 367 = .ok (.iconst 1, 1) := by decide +kernel
theorem i_L_law_368 : decode m_L_law.2.1 368 = .ok (.iadd, 1) := by decide +kernel
theorem i_L_law_369 : decode m_L_law.2.1 369 = .ok (.iaload, 1) := by decide +kernel
theorem i_L_law_370 : decode m_L_law.2.1 370 = .ok (.aload_n 0, 1) := by decide +kernel
theorem i_L_law_371 : decode m_L_law.2.1 371 = .ok (.iload 4, 2) := by decide +kernel
theorem i_L_law_373 : decode m_L_law.2.1 373 = .ok (.iconst 2, 1) := by decide +kernel
theorem i_L_law_374 : decode m_L_law.2.1 374 = .ok (.iadd, 1) := by decide +kernel
theorem i_L_law_375 : decode m_L_law.2.1 375 = .ok (.iaload, 1) := by decide +kernel
theorem i_L_law_376 : qInv m_L_law 376 m_M_has 5 2 := ⟨124, _, by decide +kernel, rfl, rfl, wd_994, wd_995, wd_996, by decide +kernel⟩
theorem i_L_law_379 : decode m_L_law.2.1 379 = .ok (.istore 6, 2) := by decide +kernel
theorem i_L_law_381 : decode m_L_law.2.1 381 = .ok (.aload_n 2, 1) := by decide +kernel
theorem i_L_law_382 : qInv m_L_law 382 m_M_thrown 5 0 := ⟨110, _, by decide +kernel, rfl, rfl, wd_914, wd_915, wd_916, by decide +kernel⟩
theorem i_L_law_385 : decode m_L_law.2.1 385 = .ok (.iload 5, 2) := by decide +kernel
theorem i_L_law_387 : decode m_L_law.2.1 387 = .ok (.if_icmp .eq 5, 3) := by decide +kernel
theorem i_L_law_390 : decode m_L_law.2.1 390 = .ok (.iconst 0, 1) := by decide +kernel
theorem i_L_law_391 : decode m_L_law.2.1 391 = .ok (.ireturn, 1) := by decide +kernel
theorem i_L_law_392 : decode m_L_law.2.1 392 = .ok (.iload 5, 2) := by decide +kernel
theorem i_L_law_394 : decode m_L_law.2.1 394 = .ok (.ifCond .ne 22, 3) := by decide +kernel
theorem i_L_law_397 : decode m_L_law.2.1 397 = .ok (.aload_n 3, 1) := by decide +kernel
theorem i_L_law_398 : decode m_L_law.2.1 398 = .ok (.iconst 0, 1) := by decide +kernel
theorem i_L_law_399 : decode m_L_law.2.1 399 = .ok (.laload, 1) := by decide +kernel
theorem i_L_law_400 : decode m_L_law.2.1 400 = .ok (.iload 6, 2) := by decide +kernel
theorem i_L_law_402 : decode m_L_law.2.1 402 = .ok (.ifCond .eq 7, 3) := by decide +kernel
theorem i_L_law_405 : decode m_L_law.2.1 405 = .ok (.lconst 1, 1) := by decide +kernel
theorem i_L_law_406 : decode m_L_law.2.1 406 = .ok (.goto 4, 3) := by decide +kernel
theorem i_L_law_409 : decode m_L_law.2.1 409 = .ok (.lconst 0, 1) := by decide +kernel
theorem i_L_law_410 : decode m_L_law.2.1 410 = .ok (.lcmp, 1) := by decide +kernel
theorem i_L_law_411 : decode m_L_law.2.1 411 = .ok (.ifCond .eq 5, 3) := by decide +kernel
theorem i_L_law_414 : decode m_L_law.2.1 414 = .ok (.iconst 0, 1) := by decide +kernel
theorem i_L_law_415 : decode m_L_law.2.1 415 = .ok (.ireturn, 1) := by decide +kernel
theorem i_L_law_416 : decode m_L_law.2.1 416 = .ok (.goto 1071, 3) := by decide +kernel
theorem i_L_law_419 : decode m_L_law.2.1 419 = .ok (.aload_n 1, 1) := by decide +kernel
theorem i_L_law_420 : decode m_L_law.2.1 420 = .ok (.aload_n 0, 1) := by decide +kernel
theorem i_L_law_421 : decode m_L_law.2.1 421 = .ok (.iload 4, 2) := by decide +kernel
theorem i_L_law_423 : decode m_L_law.2.1 423 = .ok (.iconst 1, 1) := by decide +kernel
theorem i_L_law_424 : decode m_L_law.2.1 424 = .ok (.iadd, 1) := by decide +kernel
theorem i_L_law_425 : decode m_L_law.2.1 425 = .ok (.iaload, 1) := by decide +kernel
theorem i_L_law_426 : decode m_L_law.2.1 426 = .ok (.aload_n 0, 1) := by decide +kernel
theorem i_L_law_427 : decode m_L_law.2.1 427 = .ok (.iload 4, 2) := by decide +kernel
theorem i_L_law_429 : decode m_L_law.2.1 429 = .ok (.iconst 2, 1) := by decide +kernel
theorem i_L_law_430 : decode m_L_law.2.1 430 = .ok (.iadd, 1) := by decide +kernel
theorem i_L_law_431 : decode m_L_law.2.1 431 = .ok (.iaload, 1) := by decide +kernel
theorem i_L_law_432 : decode m_L_law.2.1 432 = .ok (.aload_n 3, 1) := by decide +kernel
theorem i_L_law_433 : qInvS m_L_law 433 m_L_get 4 := ⟨125, by decide +kernel, wd_503, wd_504, by decide +kernel⟩
theorem i_L_law_436 : decode m_L_law.2.1 436 = .ok (.istore 5, 2) := by decide +kernel
theorem i_L_law_438 : decode m_L_law.2.1 438 = .ok (.aload_n 2, 1) := by decide +kernel
theorem i_L_law_439 : decode m_L_law.2.1 439 = .ok (.aload_n 0, 1) := by decide +kernel
theorem i_L_law_440 : decode m_L_law.2.1 440 = .ok (.iload 4, 2) := by decide +kernel
theorem i_L_law_442 : decode m_L_law.2.1 442 = .ok (.iconst 1, 1) := by decide +kernel
theorem i_L_law_443 : decode m_L_law.2.1 443 = .ok (.iadd, 1) := by decide +kernel
theorem i_L_law_444 : decode m_L_law.2.1 444 = .ok (.iaload, 1) := by decide +kernel
theorem i_L_law_445 : decode m_L_law.2.1 445 = .ok (.aload_n 0, 1) := by decide +kernel
theorem i_L_law_446 : decode m_L_law.2.1 446 = .ok (.iload 4, 2) := by decide +kernel
theorem i_L_law_448 : decode m_L_law.2.1 448 = .ok (.iconst 2, 1) := by decide +kernel
theorem i_L_law_449 : decode m_L_law.2.1 449 = .ok (.iadd, 1) := by decide +kernel
theorem i_L_law_450 : decode m_L_law.2.1 450 = .ok (.iaload, 1) := by decide +kernel
theorem i_L_law_451 : qInv m_L_law 451 m_M_get 5 2 := ⟨127, _, by decide +kernel, rfl, rfl, wd_1002, wd_1003, wd_1004, by decide +kernel⟩
theorem i_L_law_454 : decode m_L_law.2.1 454 = .ok (.lstore 6, 2) := by decide +kernel
theorem i_L_law_456 : decode m_L_law.2.1 456 = .ok (.aload_n 2, 1) := by decide +kernel
theorem i_L_law_457 : qInv m_L_law 457 m_M_thrown 5 0 := ⟨110, _, by decide +kernel, rfl, rfl, wd_914, wd_915, wd_916, by decide +kernel⟩
theorem i_L_law_460 : decode m_L_law.2.1 460 = .ok (.iload 5, 2) := by decide +kernel
theorem i_L_law_462 : decode m_L_law.2.1 462 = .ok (.if_icmp .eq 5, 3) := by decide +kernel
theorem i_L_law_465 : decode m_L_law.2.1 465 = .ok (.iconst 0, 1) := by decide +kernel
theorem i_L_law_466 : decode m_L_law.2.1 466 = .ok (.ireturn, 1) := by decide +kernel
theorem i_L_law_467 : decode m_L_law.2.1 467 = .ok (.iload 5, 2) := by decide +kernel
theorem i_L_law_469 : decode m_L_law.2.1 469 = .ok (.ifCond .ne 14, 3) := by decide +kernel
theorem i_L_law_472 : decode m_L_law.2.1 472 = .ok (.aload_n 3, 1) := by decide +kernel
theorem i_L_law_473 : decode m_L_law.2.1 473 = .ok (.iconst 0, 1) := by decide +kernel
theorem i_L_law_474 : decode m_L_law.2.1 474 = .ok (.laload, 1) := by decide +kernel
theorem i_L_law_475 : decode m_L_law.2.1 475 = .ok (.lload 6, 2) := by decide +kernel
theorem i_L_law_477 : decode m_L_law.2.1 477 = .ok (.lcmp, 1) := by decide +kernel
theorem i_L_law_478 : decode m_L_law.2.1 478 = .ok (.ifCond .eq 5, 3) := by decide +kernel
theorem i_L_law_481 : decode m_L_law.2.1 481 = .ok (.iconst 0, 1) := by decide +kernel
theorem i_L_law_482 : decode m_L_law.2.1 482 = .ok (.ireturn, 1) := by decide +kernel
theorem i_L_law_483 : decode m_L_law.2.1 483 = .ok (.goto 1004, 3) := by decide +kernel
theorem i_L_law_486 : decode m_L_law.2.1 486 = .ok (.aload_n 1, 1) := by decide +kernel
theorem i_L_law_487 : decode m_L_law.2.1 487 = .ok (.aload_n 0, 1) := by decide +kernel
theorem i_L_law_488 : decode m_L_law.2.1 488 = .ok (.iload 4, 2) := by decide +kernel
theorem i_L_law_490 : decode m_L_law.2.1 490 = .ok (.iconst 1, 1) := by decide +kernel
theorem i_L_law_491 : decode m_L_law.2.1 491 = .ok (.iadd, 1) := by decide +kernel
theorem i_L_law_492 : decode m_L_law.2.1 492 = .ok (.iaload, 1) := by decide +kernel
theorem i_L_law_493 : decode m_L_law.2.1 493 = .ok (.aload_n 0, 1) := by decide +kernel
theorem i_L_law_494 : decode m_L_law.2.1 494 = .ok (.iload 4, 2) := by decide +kernel
theorem i_L_law_496 : decode m_L_law.2.1 496 = .ok (.iconst 2, 1) := by decide +kernel
theorem i_L_law_497 : decode m_L_law.2.1 497 = .ok (.iadd, 1) := by decide +kernel
theorem i_L_law_498 : decode m_L_law.2.1 498 = .ok (.iaload, 1) := by decide +kernel
theorem i_L_law_499 : decode m_L_law.2.1 499 = .ok (.aload_n 3, 1) := by decide +kernel
theorem i_L_law_500 : qInvS m_L_law 500 m_L_next 4 := ⟨128, by decide +kernel, wd_512, wd_513, by decide +kernel⟩
theorem i_L_law_503 : decode m_L_law.2.1 503 = .ok (.istore 5, 2) := by decide +kernel
