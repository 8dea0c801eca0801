theorem dX5_init_0 : decode cX5_init 0 = .ok (.aload_n 0, 1) := by decide +kernel
theorem dX5_init_1 : decode cX5_init 1 = .ok (.invokespecial 1, 3) := by decide +kernel
theorem dX5_init_4 : decode cX5_init 4 = .ok (.aload_n 0, 1) := by decide +kernel
theorem dX5_init_5 : decode cX5_init 5 = .ok (.new 7, 3) := by decide +kernel
theorem dX5_init_8 : decode cX5_init 8 = .ok (.dup, 1) := by decide +kernel
theorem dX5_init_9 : decode cX5_init 9 = .ok (.invokespecial 9, 3) := by decide +kernel
theorem dX5_init_12 : decode cX5_init 12 = .ok (.putfield 10, 3) := by decide +kernel
theorem dX5_init_15 : decode cX5_init 15 = .ok (.aload_n 0, 1) := by decide +kernel
theorem dX5_init_16 : decode cX5_init 16 = .ok (.new 16, 3) := by decide +kernel
theorem dX5_init_19 : decode cX5_init 19 = .ok (.dup, 1) := by decide +kernel
theorem dX5_init_20 : decode cX5_init 20 = .ok (.aload_n 0, 1) := by decide +kernel
theorem dX5_init_21 : decode cX5_init 21 = .ok (.getfield 10, 3) := by decide +kernel
theorem dX5_init_24 : decode cX5_init 24 = .ok (.invokespecial 18, 3) := by decide +kernel
theorem dX5_init_27 : decode cX5_init 27 = .ok (.putfield 21, 3) := by decide +kernel
theorem dX5_init_30 : decode cX5_init 30 = .ok (.aload_n 0, 1) := by decide +kernel
theorem dX5_init_31 : decode cX5_init 31 = .ok (.new 25, 3) := by decide +kernel
theorem dX5_init_34 : decode cX5_init 34 = .ok (.dup, 1) := by decide +kernel
theorem dX5_init_35 : decode cX5_init 35 = .ok (.invokespecial 27, 3) := by decide +kernel
theorem dX5_init_38 : decode cX5_init 38 = .ok (.putfield 28, 3) := by decide +kernel
theorem dX5_init_41 : decode cX5_init 41 = .ok (.aload_n 0, 1) := by decide +kernel
theorem dX5_init_42 : decode cX5_init 42 = .ok (.iconst 4, 1) := by decide +kernel
theorem dX5_init_43 : decode cX5_init 43 = .ok (.anewarray 32, 3) := by decide +kernel
theorem dX5_init_46 : decode cX5_init 46 = .ok (.putfield 34, 3) := by decide +kernel
theorem dX5_init_49 : decode cX5_init 49 = .ok (.iconst 0, 1) := by decide +kernel
theorem dX5_init_50 : decode cX5_init 50 = .ok (.istore_n 1, 1) := by decide +kernel
theorem dX5_init_51 : decode cX5_init 51 = .ok (.iload_n 1, 1) := by decide +kernel
theorem dX5_init_52 : decode cX5_init 52 = .ok (.iconst 4, 1) := by decide +kernel
theorem dX5_init_53 : decode cX5_init 53 = .ok (.if_icmp .ge 22, 3) := by decide +kernel
theorem dX5_init_56 : decode cX5_init 56 = .ok (.aload_n 0, 1) := by decide +kernel
theorem dX5_init_57 : decode cX5_init 57 = .ok (.getfield 34, 3) := by decide +kernel
theorem dX5_init_60 : decode cX5_init 60 = .ok (.iload_n 1, 1) := by decide +kernel
theorem dX5_init_61 : decode cX5_init 61 = .ok (.new 32, 3) := by decide +kernel
theorem dX5_init_64 : decode cX5_init 64 = .ok (.dup, 1) := by decide +kernel
theorem dX5_init_65 : decode cX5_init 65 = .ok (.invokespecial 38, 3) := by decide +kernel
theorem dX5_init_68 : decode cX5_init 68 = .ok (.aastore, 1) := by decide +kernel
theorem dX5_init_69 : decode cX5_init 69 = .ok (.iinc 1 1, 3) := by decide +kernel
theorem dX5_init_72 : decode cX5_init 72 = .ok (.goto (-21), 3) := by decide +kernel
theorem dX5_init_75 : decode cX5_init 75 = .ok (.aload_n 0, 1) := by decide +kernel
theorem dX5_init_76 : decode cX5_init 76 = .ok (.new 39, 3) := by decide +kernel
theorem dX5_init_79 : decode cX5_init 79 = .ok (.dup, 1) := by decide +kernel
theorem dX5_init_80 : decode cX5_init 80 = .ok (.invokespecial 41, 3) := by decide +kernel
theorem dX5_init_83 : decode cX5_init 83 = .ok (.putfield 42, 3) := by decide +kernel
theorem dX5_init_86 : decode cX5_init 86 = .ok (.aload_n 0, 1) := by decide +kernel
theorem dX5_init_87 : decode cX5_init 87 = .ok (.getfield 42, 3) := by decide +kernel
theorem dX5_init_90 : decode cX5_init 90 = .ok (.invokevirtual 46, 3) := by decide +kernel
theorem dX5_init_93 : decode cX5_init 93 = .ok (.aload_n 0, 1) := by decide +kernel
theorem dX5_init_94 : decode cX5_init 94 = .ok (.new 39, 3) := by decide +kernel
theorem dX5_init_97 : decode cX5_init 97 = .ok (.dup, 1) := by decide +kernel
theorem dX5_init_98 : decode cX5_init 98 = .ok (.invokespecial 41, 3) := by decide +kernel
theorem dX5_init_101 : decode cX5_init 101 = .ok (.putfield 49, 3) := by decide +kernel
theorem dX5_init_104 : decode cX5_init 104 = .ok (.aload_n 0, 1) := by decide +kernel
theorem dX5_init_105 : decode cX5_init 105 = .ok (.getfield 49, 3) := by decide +kernel
theorem dX5_init_108 : decode cX5_init 108 = .ok (.invokevirtual 46, 3) := by decide +kernel
theorem dX5_init_111 : decode cX5_init 111 = .ok (.aload_n 0, 1) := by decide +kernel
theorem dX5_init_112 : decode cX5_init 112 = .ok (.iconst 0, 1) := by decide +kernel
theorem dX5_init_113 : decode cX5_init 113 = .ok (.putfield 52, 3) := by decide +kernel
theorem dX5_init_116 : decode cX5_init 116 = .ok (.aload_n 0, 1) := by decide +kernel
theorem dX5_init_117 : decode cX5_init 117 = .ok (.iconst 0, 1) := by decide +kernel
theorem dX5_init_118 : decode cX5_init 118 = .ok (.putfield 56, 3) := by decide +kernel
theorem dX5_init_121 : decode cX5_init 121 = .ok (.return_, 1) := by decide +kernel
theorem dX5_feed_0 : decode cX5_feed 0 = .ok (.aload_n 0, 1) := by decide +kernel
theorem dX5_feed_1 : decode cX5_feed 1 = .ok (.getfield 10, 3) := by decide +kernel
theorem dX5_feed_4 : decode cX5_feed 4 = .ok (.getfield 59, 3) := by decide +kernel
theorem dX5_feed_7 : decode cX5_feed 7 = .ok (.bipush 8, 2) := by decide +kernel
theorem dX5_feed_9 : decode cX5_feed 9 = .ok (.iadd, 1) := by decide +kernel
theorem dX5_feed_10 : decode cX5_feed 10 = .ok (.sipush 240, 3) := by decide +kernel
theorem dX5_feed_13 : decode cX5_feed 13 = .ok (.if_icmp .le 6, 3) := by decide +kernel
theorem dX5_feed_16 : decode cX5_feed 16 = .ok (.bipush (-3), 2) := by decide +kernel
theorem dX5_feed_18 : decode cX5_feed 18 = .ok (.ireturn, 1) := by decide +kernel
theorem dX5_feed_19 : decode cX5_feed 19 = .ok (.bipush 56, 2) := by decide +kernel
theorem dX5_feed_21 : decode cX5_feed 21 = .ok (.istore_n 3, 1) := by decide +kernel
theorem dX5_feed_22 : decode cX5_feed 22 = .ok (.iload_n 3, 1) := by decide +kernel
theorem dX5_feed_23 : decode cX5_feed 23 = .ok (.ifCond .lt 42, 3) := by decide +kernel
theorem dX5_feed_26 : decode cX5_feed 26 = .ok (.aload_n 0, 1) := by decide +kernel
theorem dX5_feed_27 : decode cX5_feed 27 = .ok (.getfield 10, 3) := by decide +kernel
theorem dX5_feed_30 : decode cX5_feed 30 = .ok (.getfield 62, 3) := by decide +kernel
theorem dX5_feed_33 : decode cX5_feed 33 = .ok (.aload_n 0, 1) := by decide +kernel
theorem dX5_feed_34 : decode cX5_feed 34 = .ok (.getfield 10, 3) := by decide +kernel
theorem dX5_feed_37 : decode cX5_feed 37 = .ok (.getfield 59, 3) := by decide +kernel
theorem dX5_feed_40 : decode cX5_feed 40 = .ok (.lload_n 1, 1) := by decide +kernel
theorem dX5_feed_41 : decode cX5_feed 41 = .ok (.iload_n 3, 1) := by decide +kernel
theorem dX5_feed_42 : decode cX5_feed 42 = .ok (.lushr, 1) := by decide +kernel
theorem dX5_feed_43 : decode cX5_feed 43 = .ok (.l2i, 1) := by decide +kernel
theorem dX5_feed_44 : decode cX5_feed 44 = .ok (.i2b, 1) := by decide +kernel
theorem dX5_feed_45 : decode cX5_feed 45 = .ok (.bastore, 1) := by decide +kernel
theorem dX5_feed_46 : decode cX5_feed 46 = .ok (.aload_n 0, 1) := by decide +kernel
theorem dX5_feed_47 : decode cX5_feed 47 = .ok (.getfield 10, 3) := by decide +kernel
theorem dX5_feed_50 : decode cX5_feed 50 = .ok (.dup, 1) := by decide +kernel
theorem dX5_feed_51 : decode cX5_feed 51 = .ok (.getfield 59, 3) := by decide +kernel
theorem dX5_feed_54 : decode cX5_feed 54 = .ok (.iconst 1, 1) := by decide +kernel
theorem dX5_feed_55 : decode cX5_feed 55 = .ok (.iadd, 1) := by decide +kernel
theorem dX5_feed_56 : decode cX5_feed 56 = .ok (.putfield 59, 3) := by decide +kernel
theorem dX5_feed_59 : decode cX5_feed 59 = .ok (.iinc 3 (-8), 3) := by decide +kernel
theorem dX5_feed_62 : decode cX5_feed 62 = .ok (.goto (-40), 3) := by decide +kernel
theorem dX5_feed_65 : decode cX5_feed 65 = .ok (.aload_n 0, 1) := by decide +kernel
theorem dX5_feed_66 : decode cX5_feed 66 = .ok (.getfield 10, 3) := by decide +kernel
theorem dX5_feed_69 : decode cX5_feed 69 = .ok (.getfield 59, 3) := by decide +kernel
theorem dX5_feed_72 : decode cX5_feed 72 = .ok (.ireturn, 1) := by decide +kernel
theorem dX5_end_0 : decode cX5_end 0 = .ok (.iload_n 1, 1) := by decide +kernel
theorem dX5_end_1 : decode cX5_end 1 = .ok (.iconst 0, 1) := by decide +kernel
theorem dX5_end_2 : decode cX5_end 2 = .ok (.aload_n 0, 1) := by decide +kernel
theorem dX5_end_3 : decode cX5_end 3 = .ok (.getfield 10, 3) := by decide +kernel
theorem dX5_end_6 : decode cX5_end 6 = .ok (.getfield 59, 3) := by decide +kernel
theorem dX5_end_9 : decode cX5_end 9 = .ok (.invokestatic 66, 3) := by decide +kernel
theorem dX5_end_12 : decode cX5_end 12 = .ok (.ifCond .ne 5, 3) := by decide +kernel
theorem dX5_end_15 : decode cX5_end 15 = .ok (.iconst (-1), 1) := by decide +kernel
theorem dX5_end_16 : decode cX5_end 16 = .ok (.ireturn, 1) := by decide +kernel
theorem dX5_end_17 : decode cX5_end 17 = .ok (.aload_n 0, 1) := by decide +kernel
theorem dX5_end_18 : decode cX5_end 18 = .ok (.getfield 10, 3) := by decide +kernel
theorem dX5_end_21 : decode cX5_end 21 = .ok (.getfield 59, 3) := by decide +kernel
theorem dX5_end_24 : decode cX5_end 24 = .ok (.istore_n 2, 1) := by decide +kernel
theorem dX5_end_25 : decode cX5_end 25 = .ok (.aload_n 0, 1) := by decide +kernel
theorem dX5_end_26 : decode cX5_end 26 = .ok (.getfield 10, 3) := by decide +kernel
theorem dX5_end_29 : decode cX5_end 29 = .ok (.iload_n 1, 1) := by decide +kernel
theorem dX5_end_30 : decode cX5_end 30 = .ok (.putfield 59, 3) := by decide +kernel
theorem dX5_end_33 : decode cX5_end 33 = .ok (.iload_n 2, 1) := by decide +kernel
theorem dX5_end_34 : decode cX5_end 34 = .ok (.ireturn, 1) := by decide +kernel
theorem dX5_text_0 : decode cX5_text 0 = .ok (.aload_n 0, 1) := by decide +kernel
theorem dX5_text_1 : decode cX5_text 1 = .ok (.getfield 49, 3) := by decide +kernel
theorem dX5_text_4 : decode cX5_text 4 = .ok (.invokevirtual 46, 3) := by decide +kernel
theorem dX5_text_7 : decode cX5_text 7 = .ok (.aload_n 0, 1) := by decide +kernel
theorem dX5_text_8 : decode cX5_text 8 = .ok (.getfield 21, 3) := by decide +kernel
theorem dX5_text_11 : decode cX5_text 11 = .ok (.aload_n 0, 1) := by decide +kernel
theorem dX5_text_12 : decode cX5_text 12 = .ok (.getfield 49, 3) := by decide +kernel
theorem dX5_text_15 : decode cX5_text 15 = .ok (.invokevirtual 70, 3) := by decide +kernel
theorem dX5_text_18 : decode cX5_text 18 = .ok (.aload_n 0, 1) := by decide +kernel
theorem dX5_text_19 : decode cX5_text 19 = .ok (.getfield 10, 3) := by decide +kernel
theorem dX5_text_22 : decode cX5_text 22 = .ok (.iconst 0, 1) := by decide +kernel
theorem dX5_text_23 : decode cX5_text 23 = .ok (.putfield 59, 3) := by decide +kernel
theorem dX5_text_26 : decode cX5_text 26 = .ok (.aload_n 0, 1) := by decide +kernel
theorem dX5_text_27 : decode cX5_text 27 = .ok (.aload_n 0, 1) := by decide +kernel
theorem dX5_text_28 : decode cX5_text 28 = .ok (.getfield 21, 3) := by decide +kernel
theorem dX5_text_31 : decode cX5_text 31 = .ok (.getfield 74, 3) := by decide +kernel
theorem dX5_text_34 : decode cX5_text 34 = .ok (.putfield 52, 3) := by decide +kernel
theorem dX5_text_37 : decode cX5_text 37 = .ok (.aload_n 0, 1) := by decide +kernel
theorem dX5_text_38 : decode cX5_text 38 = .ok (.getfield 52, 3) := by decide +kernel
theorem dX5_text_41 : decode cX5_text 41 = .ok (.ifCond .eq 14, 3) := by decide +kernel
theorem dX5_text_44 : decode cX5_text 44 = .ok (.bipush (-10), 2) := by decide +kernel
theorem dX5_text_46 : decode cX5_text 46 = .ok (.aload_n 0, 1) := by decide +kernel
theorem dX5_text_47 : decode cX5_text 47 = .ok (.getfield 21, 3) := by decide +kernel
theorem dX5_text_50 : decode cX5_text 50 = .ok (.getfield 77, 3) := by decide +kernel
theorem dX5_text_53 : decode cX5_text 53 = .ok (.isub, 1) := by decide +kernel
theorem dX5_text_54 : decode cX5_text 54 = .ok (.ireturn, 1) := by decide +kernel
theorem dX5_text_55 : decode cX5_text 55 = .ok (.aload_n 0, 1) := by decide +kernel
theorem dX5_text_56 : decode cX5_text 56 = .ok (.getfield 42, 3) := by decide +kernel
theorem dX5_text_59 : decode cX5_text 59 = .ok (.astore_n 1, 1) := by decide +kernel
theorem dX5_text_60 : decode cX5_text 60 = .ok (.aload_n 0, 1) := by decide +kernel
theorem dX5_text_61 : decode cX5_text 61 = .ok (.aload_n 0, 1) := by decide +kernel
theorem dX5_text_62 : decode cX5_text 62 = .ok (.getfield 49, 3) := by decide +kernel
theorem dX5_text_65 : decode cX5_text 65 = .ok (.putfield 42, 3) := by decide +kernel
theorem dX5_text_68 : decode cX5_text 68 = .ok (.aload_n 0, 1) := by decide +kernel
theorem dX5_text_69 : decode cX5_text 69 = .ok (.aload_n 1, 1) := by decide +kernel
theorem dX5_text_70 : decode cX5_text 70 = .ok (.putfield 49, 3) := by decide +kernel
theorem dX5_text_73 : decode cX5_text 73 = .ok (.aload_n 0, 1) := by decide +kernel
theorem dX5_text_74 : decode cX5_text 74 = .ok (.getfield 21, 3) := by decide +kernel
theorem dX5_text_77 : decode cX5_text 77 = .ok (.getfield 80, 3) := by decide +kernel
theorem dX5_text_80 : decode cX5_text 80 = .ok (.ireturn, 1) := by decide +kernel
theorem dX5_fault_0 : decode cX5_fault 0 = .ok (.aload_n 0, 1) := by decide +kernel
theorem dX5_fault_1 : decode cX5_fault 1 = .ok (.getfield 52, 3) := by decide +kernel
theorem dX5_fault_4 : decode cX5_fault 4 = .ok (.ireturn, 1) := by decide +kernel
theorem dX5_sort_0 : decode cX5_sort 0 = .ok (.iload_n 1, 1) := by decide +kernel
theorem dX5_sort_1 : decode cX5_sort 1 = .ok (.iload_n 2, 1) := by decide +kernel
theorem dX5_sort_2 : decode cX5_sort 2 = .ok (.iload_n 3, 1) := by decide +kernel
theorem dX5_sort_3 : decode cX5_sort 3 = .ok (.iconst 0, 1) := by decide +kernel
theorem dX5_sort_4 : decode cX5_sort 4 = .ok (.invokestatic 83, 3) := by decide +kernel
theorem dX5_sort_7 : decode cX5_sort 7 = .ok (.ifCond .ne 5, 3) := by decide +kernel
theorem dX5_sort_10 : decode cX5_sort 10 = .ok (.iconst (-1), 1) := by decide +kernel
theorem dX5_sort_11 : decode cX5_sort 11 = .ok (.ireturn, 1) := by decide +kernel
theorem dX5_sort_12 : decode cX5_sort 12 = .ok (.aload_n 0, 1) := by decide +kernel
theorem dX5_sort_13 : decode cX5_sort 13 = .ok (.getfield 42, 3) := by decide +kernel
theorem dX5_sort_16 : decode cX5_sort 16 = .ok (.getfield 87, 3) := by decide +kernel
theorem dX5_sort_19 : decode cX5_sort 19 = .ok (.bipush 8, 2) := by decide +kernel
theorem dX5_sort_21 : decode cX5_sort 21 = .ok (.if_icmp .lt 6, 3) := by decide +kernel
theorem dX5_sort_24 : decode cX5_sort 24 = .ok (.bipush (-3), 2) := by decide +kernel
theorem dX5_sort_26 : decode cX5_sort 26 = .ok (.ireturn, 1) := by decide +kernel
theorem dX5_sort_27 : decode cX5_sort 27 = .ok (.aload_n 0, 1) := by decide +kernel
theorem dX5_sort_28 : decode cX5_sort 28 = .ok (.getfield 42, 3) := by decide +kernel
theorem dX5_sort_31 : decode cX5_sort 31 = .ok (.iload_n 1, 1) := by decide +kernel
theorem dX5_sort_32 : decode cX5_sort 32 = .ok (.iload_n 2, 1) := by decide +kernel
theorem dX5_sort_33 : decode cX5_sort 33 = .ok (.iload_n 3, 1) := by decide +kernel
theorem dX5_sort_34 : decode cX5_sort 34 = .ok (.iconst 0, 1) := by decide +kernel
theorem dX5_sort_35 : decode cX5_sort 35 = .ok (.invokevirtual 88, 3) := by decide +kernel
theorem dX5_sort_38 : decode cX5_sort 38 = .ok (.aload_n 0, 1) := by decide +kernel
theorem dX5_sort_39 : decode cX5_sort 39 = .ok (.getfield 42, 3) := by decide +kernel
theorem dX5_sort_42 : decode cX5_sort 42 = .ok (.getfield 87, 3) := by decide +kernel
theorem dX5_sort_45 : decode cX5_sort 45 = .ok (.iconst 1, 1) := by decide +kernel
theorem dX5_sort_46 : decode cX5_sort 46 = .ok (.isub, 1) := by decide +kernel
theorem dX5_sort_47 : decode cX5_sort 47 = .ok (.ireturn, 1) := by decide +kernel
theorem dX5_set_0 : decode cX5_set 0 = .ok (.aload_n 0, 1) := by decide +kernel
theorem dX5_set_1 : decode cX5_set 1 = .ok (.iload_n 1, 1) := by decide +kernel
theorem dX5_set_2 : decode cX5_set 2 = .ok (.invokevirtual 92, 3) := by decide +kernel
theorem dX5_set_5 : decode cX5_set 5 = .ok (.ifCond .eq 25, 3) := by decide +kernel
theorem dX5_set_8 : decode cX5_set 8 = .ok (.iload_n 2, 1) := by decide +kernel
theorem dX5_set_9 : decode cX5_set 9 = .ok (.iconst 0, 1) := by decide +kernel
theorem dX5_set_10 : decode cX5_set 10 = .ok (.iconst 4, 1) := by decide +kernel
theorem dX5_set_11 : decode cX5_set 11 = .ok (.invokestatic 66, 3) := by decide +kernel
theorem dX5_set_14 : decode cX5_set 14 = .ok (.ifCond .eq 16, 3) := by decide +kernel
theorem dX5_set_17 : decode cX5_set 17 = .ok (.aload_n 0, 1) := by decide +kernel
theorem dX5_set_18 : decode cX5_set 18 = .ok (.getfield 42, 3) := by decide +kernel
theorem dX5_set_21 : decode cX5_set 21 = .ok (.iload_n 1, 1) := by decide +kernel
theorem dX5_set_22 : decode cX5_set 22 = .ok (.iload_n 2, 1) := by decide +kernel
theorem dX5_set_23 : decode cX5_set 23 = .ok (.iload_n 3, 1) := by decide +kernel
theorem dX5_set_24 : decode cX5_set 24 = .ok (.invokevirtual 96, 3) := by decide +kernel
theorem dX5_set_27 : decode cX5_set 27 = .ok (.ifCond .ne 5, 3) := by decide +kernel
theorem dX5_set_30 : decode cX5_set 30 = .ok (.iconst (-1), 1) := by decide +kernel
theorem dX5_set_31 : decode cX5_set 31 = .ok (.ireturn, 1) := by decide +kernel
theorem dX5_set_32 : decode cX5_set 32 = .ok (.aload_n 0, 1) := by decide +kernel
theorem dX5_set_33 : decode cX5_set 33 = .ok (.getfield 42, 3) := by decide +kernel
theorem dX5_set_36 : decode cX5_set 36 = .ok (.iload_n 2, 1) := by decide +kernel
theorem dX5_set_37 : decode cX5_set 37 = .ok (.invokevirtual 99, 3) := by decide +kernel
theorem dX5_set_40 : decode cX5_set 40 = .ok (.astore 4, 2) := by decide +kernel
theorem dX5_set_42 : decode cX5_set 42 = .ok (.aload 4, 2) := by decide +kernel
theorem dX5_set_44 : decode cX5_set 44 = .ok (.iload_n 1, 1) := by decide +kernel
theorem dX5_set_45 : decode cX5_set 45 = .ok (.iaload, 1) := by decide +kernel
theorem dX5_set_46 : decode cX5_set 46 = .ok (.istore 5, 2) := by decide +kernel
theorem dX5_set_48 : decode cX5_set 48 = .ok (.aload 4, 2) := by decide +kernel
theorem dX5_set_50 : decode cX5_set 50 = .ok (.iload_n 1, 1) := by decide +kernel
theorem dX5_set_51 : decode cX5_set 51 = .ok (.iload_n 3, 1) := by decide +kernel
theorem dX5_set_52 : decode cX5_set 52 = .ok (.iastore, 1) := by decide +kernel
theorem dX5_set_53 : decode cX5_set 53 = .ok (.iload 5, 2) := by decide +kernel
theorem dX5_set_55 : decode cX5_set 55 = .ok (.ireturn, 1) := by decide +kernel
theorem dX5_of_0 : decode cX5_of 0 = .ok (.aload_n 0, 1) := by decide +kernel
theorem dX5_of_1 : decode cX5_of 1 = .ok (.iload_n 1, 1) := by decide +kernel
theorem dX5_of_2 : decode cX5_of 2 = .ok (.invokevirtual 92, 3) := by decide +kernel
theorem dX5_of_5 : decode cX5_of 5 = .ok (.ifCond .eq 12, 3) := by decide +kernel
theorem dX5_of_8 : decode cX5_of 8 = .ok (.iload_n 2, 1) := by decide +kernel
theorem dX5_of_9 : decode cX5_of 9 = .ok (.iconst 0, 1) := by decide +kernel
theorem dX5_of_10 : decode cX5_of 10 = .ok (.iconst 5, 1) := by decide +kernel
theorem dX5_of_11 : decode cX5_of 11 = .ok (.invokestatic 66, 3) := by decide +kernel
theorem dX5_of_14 : decode cX5_of 14 = .ok (.ifCond .ne 5, 3) := by decide +kernel
theorem dX5_of_17 : decode cX5_of 17 = .ok (.iconst (-1), 1) := by decide +kernel
theorem dX5_of_18 : decode cX5_of 18 = .ok (.ireturn, 1) := by decide +kernel
theorem dX5_of_19 : decode cX5_of 19 = .ok (.iload_n 2, 1) := by decide +kernel
theorem dX5_of_20 : decode cX5_of 20 = .ok (.iconst 5, 1) := by decide +kernel
theorem dX5_of_21 : decode cX5_of 21 = .ok (.if_icmp .ne 20, 3) := by decide +kernel
theorem dX5_of_24 : decode cX5_of 24 = .ok (.aload_n 0, 1) := by decide +kernel
theorem dX5_of_25 : decode cX5_of 25 = .ok (.getfield 42, 3) := by decide +kernel
theorem dX5_of_28 : decode cX5_of 28 = .ok (.iload_n 1, 1) := by decide +kernel
theorem dX5_of_29 : decode cX5_of 29 = .ok (.invokevirtual 103, 3) := by decide +kernel
theorem dX5_of_32 : decode cX5_of 32 = .ok (.ifCond .eq 7, 3) := by decide +kernel
theorem dX5_of_35 : decode cX5_of 35 = .ok (.iconst 1, 1) := by decide +kernel
theorem dX5_of_36 : decode cX5_of 36 = .ok (.goto 4, 3) := by decide +kernel
theorem dX5_of_39 : decode cX5_of 39 = .ok (.iconst 0, 1) := by decide +kernel
theorem dX5_of_40 : decode cX5_of 40 = .ok (.ireturn, 1) := by decide +kernel
theorem dX5_of_41 : decode cX5_of 41 = .ok (.aload_n 0, 1) := by decide +kernel
theorem dX5_of_42 : decode cX5_of 42 = .ok (.getfield 42, 3) := by decide +kernel
theorem dX5_of_45 : decode cX5_of 45 = .ok (.iload_n 2, 1) := by decide +kernel
theorem dX5_of_46 : decode cX5_of 46 = .ok (.invokevirtual 99, 3) := by decide +kernel
theorem dX5_of_49 : decode cX5_of 49 = .ok (.iload_n 1, 1) := by decide +kernel
theorem dX5_of_50 : decode cX5_of 50 = .ok (.iaload, 1) := by decide +kernel
theorem dX5_of_51 : decode cX5_of 51 = .ok (.ireturn, 1) := by decide +kernel
theorem dX5_rule_0 : decode cX5_rule 0 = .ok (.iload_n 1, 1) := by decide +kernel
theorem dX5_rule_1 : decode cX5_rule 1 = .ok (.tableswitch 63 0 3 #[31, 39, 47, 55], 31) := by decide +kernel
theorem dX5_rule_32 : decode cX5_rule 32 = .ok (.aload_n 0, 1) := by decide +kernel
theorem dX5_rule_33 : decode cX5_rule 33 = .ok (.getfield 42, 3) := by decide +kernel
theorem dX5_rule_36 : decode cX5_rule 36 = .ok (.getfield 106, 3) := by decide +kernel
theorem dX5_rule_39 : decode cX5_rule 39 = .ok (.ireturn, 1) := by decide +kernel
theorem dX5_rule_40 : decode cX5_rule 40 = .ok (.aload_n 0, 1) := by decide +kernel
theorem dX5_rule_41 : decode cX5_rule 41 = .ok (.getfield 42, 3) := by decide +kernel
theorem dX5_rule_44 : decode cX5_rule 44 = .ok (.getfield 109, 3) := by decide +kernel
theorem dX5_rule_47 : decode cX5_rule 47 = .ok (.ireturn, 1) := by decide +kernel
theorem dX5_rule_48 : decode cX5_rule 48 = .ok (.aload_n 0, 1) := by decide +kernel
theorem dX5_rule_49 : decode cX5_rule 49 = .ok (.getfield 42, 3) := by decide +kernel
theorem dX5_rule_52 : decode cX5_rule 52 = .ok (.getfield 112, 3) := by decide +kernel
theorem dX5_rule_55 : decode cX5_rule 55 = .ok (.ireturn, 1) := by decide +kernel
theorem dX5_rule_56 : decode cX5_rule 56 = .ok (.aload_n 0, 1) := by decide +kernel
theorem dX5_rule_57 : decode cX5_rule 57 = .ok (.getfield 42, 3) := by decide +kernel
theorem dX5_rule_60 : decode cX5_rule 60 = .ok (.getfield 115, 3) := by decide +kernel
theorem dX5_rule_63 : decode cX5_rule 63 = .ok (.ireturn, 1) := by decide +kernel
theorem dX5_rule_64 : decode cX5_rule 64 = .ok (.iconst (-1), 1) := by decide +kernel
theorem dX5_rule_65 : decode cX5_rule 65 = .ok (.ireturn, 1) := by decide +kernel
theorem dX5_comes_0 : decode cX5_comes 0 = .ok (.iload_n 1, 1) := by decide +kernel
theorem dX5_comes_1 : decode cX5_comes 1 = .ok (.iload_n 2, 1) := by decide +kernel
theorem dX5_comes_2 : decode cX5_comes 2 = .ok (.invokestatic 118, 3) := by decide +kernel
theorem dX5_comes_5 : decode cX5_comes 5 = .ok (.ifCond .eq 20, 3) := by decide +kernel
theorem dX5_comes_8 : decode cX5_comes 8 = .ok (.iload_n 3, 1) := by decide +kernel
theorem dX5_comes_9 : decode cX5_comes 9 = .ok (.invokestatic 122, 3) := by decide +kernel
theorem dX5_comes_12 : decode cX5_comes 12 = .ok (.ifCond .eq 13, 3) := by decide +kernel
theorem dX5_comes_15 : decode cX5_comes 15 = .ok (.iload 4, 2) := by decide +kernel
theorem dX5_comes_17 : decode cX5_comes 17 = .ok (.iconst 0, 1) := by decide +kernel
theorem dX5_comes_18 : decode cX5_comes 18 = .ok (.iconst 2, 1) := by decide +kernel
theorem dX5_comes_19 : decode cX5_comes 19 = .ok (.invokestatic 66, 3) := by decide +kernel
theorem dX5_comes_22 : decode cX5_comes 22 = .ok (.ifCond .ne 5, 3) := by decide +kernel
theorem dX5_comes_25 : decode cX5_comes 25 = .ok (.iconst (-1), 1) := by decide +kernel
theorem dX5_comes_26 : decode cX5_comes 26 = .ok (.ireturn, 1) := by decide +kernel
theorem dX5_comes_27 : decode cX5_comes 27 = .ok (.aload_n 0, 1) := by decide +kernel
theorem dX5_comes_28 : decode cX5_comes 28 = .ok (.getfield 28, 3) := by decide +kernel
theorem dX5_comes_31 : decode cX5_comes 31 = .ok (.aload_n 0, 1) := by decide +kernel
theorem dX5_comes_32 : decode cX5_comes 32 = .ok (.getfield 42, 3) := by decide +kernel
theorem dX5_comes_35 : decode cX5_comes 35 = .ok (.iload_n 1, 1) := by decide +kernel
theorem dX5_comes_36 : decode cX5_comes 36 = .ok (.iload_n 2, 1) := by decide +kernel
theorem dX5_comes_37 : decode cX5_comes 37 = .ok (.iload_n 3, 1) := by decide +kernel
theorem dX5_comes_38 : decode cX5_comes 38 = .ok (.invokevirtual 125, 3) := by decide +kernel
theorem dX5_comes_41 : decode cX5_comes 41 = .ok (.iload 4, 2) := by decide +kernel
theorem dX5_comes_43 : decode cX5_comes 43 = .ok (.ifCond .ne 11, 3) := by decide +kernel
theorem dX5_comes_46 : decode cX5_comes 46 = .ok (.aload_n 0, 1) := by decide +kernel
theorem dX5_comes_47 : decode cX5_comes 47 = .ok (.getfield 28, 3) := by decide +kernel
theorem dX5_comes_50 : decode cX5_comes 50 = .ok (.getfield 129, 3) := by decide +kernel
theorem dX5_comes_53 : decode cX5_comes 53 = .ok (.ireturn, 1) := by decide +kernel
theorem dX5_comes_54 : decode cX5_comes 54 = .ok (.iload 4, 2) := by decide +kernel
theorem dX5_comes_56 : decode cX5_comes 56 = .ok (.iconst 1, 1) := by decide +kernel
theorem dX5_comes_57 : decode cX5_comes 57 = .ok (.if_icmp .ne 13, 3) := by decide +kernel
theorem dX5_comes_60 : decode cX5_comes 60 = .ok (.aload_n 0, 1) := by decide +kernel
theorem dX5_comes_61 : decode cX5_comes 61 = .ok (.getfield 28, 3) := by decide +kernel
theorem dX5_comes_64 : decode cX5_comes 64 = .ok (.getfield 132, 3) := by decide +kernel
theorem dX5_comes_67 : decode cX5_comes 67 = .ok (.goto 10, 3) := by decide +kernel
theorem dX5_comes_70 : decode cX5_comes 70 = .ok (.aload_n 0, 1) := by decide +kernel
theorem dX5_comes_71 : decode cX5_comes 71 = .ok (.getfield 28, 3) := by decide +kernel
theorem dX5_comes_74 : decode cX5_comes 74 = .ok (.getfield 135, 3) := by decide +kernel
theorem dX5_comes_77 : decode cX5_comes 77 = .ok (.ireturn, 1) := by decide +kernel
theorem dX5_sold_0 : decode cX5_sold 0 = .ok (.iload_n 1, 1) := by decide +kernel
theorem dX5_sold_1 : decode cX5_sold 1 = .ok (.iload_n 2, 1) := by decide +kernel
theorem dX5_sold_2 : decode cX5_sold 2 = .ok (.invokestatic 118, 3) := by decide +kernel
theorem dX5_sold_5 : decode cX5_sold 5 = .ok (.ifCond .eq 19, 3) := by decide +kernel
theorem dX5_sold_8 : decode cX5_sold 8 = .ok (.iload_n 3, 1) := by decide +kernel
theorem dX5_sold_9 : decode cX5_sold 9 = .ok (.invokestatic 122, 3) := by decide +kernel
theorem dX5_sold_12 : decode cX5_sold 12 = .ok (.ifCond .eq 12, 3) := by decide +kernel
theorem dX5_sold_15 : decode cX5_sold 15 = .ok (.aload_n 0, 1) := by decide +kernel
theorem dX5_sold_16 : decode cX5_sold 16 = .ok (.iload 4, 2) := by decide +kernel
theorem dX5_sold_18 : decode cX5_sold 18 = .ok (.invokevirtual 92, 3) := by decide +kernel
theorem dX5_sold_21 : decode cX5_sold 21 = .ok (.ifCond .ne 5, 3) := by decide +kernel
theorem dX5_sold_24 : decode cX5_sold 24 = .ok (.iconst (-1), 1) := by decide +kernel
theorem dX5_sold_25 : decode cX5_sold 25 = .ok (.ireturn, 1) := by decide +kernel
theorem dX5_sold_26 : decode cX5_sold 26 = .ok (.aload_n 0, 1) := by decide +kernel
theorem dX5_sold_27 : decode cX5_sold 27 = .ok (.getfield 28, 3) := by decide +kernel
theorem dX5_sold_30 : decode cX5_sold 30 = .ok (.aload_n 0, 1) := by decide +kernel
theorem dX5_sold_31 : decode cX5_sold 31 = .ok (.getfield 42, 3) := by decide +kernel
theorem dX5_sold_34 : decode cX5_sold 34 = .ok (.iload_n 1, 1) := by decide +kernel
theorem dX5_sold_35 : decode cX5_sold 35 = .ok (.iload_n 2, 1) := by decide +kernel
theorem dX5_sold_36 : decode cX5_sold 36 = .ok (.iload_n 3, 1) := by decide +kernel
theorem dX5_sold_37 : decode cX5_sold 37 = .ok (.invokevirtual 125, 3) := by decide +kernel
theorem dX5_sold_40 : decode cX5_sold 40 = .ok (.aload_n 0, 1) := by decide +kernel
theorem dX5_sold_41 : decode cX5_sold 41 = .ok (.getfield 28, 3) := by decide +kernel
theorem dX5_sold_44 : decode cX5_sold 44 = .ok (.getfield 138, 3) := by decide +kernel
theorem dX5_sold_47 : decode cX5_sold 47 = .ok (.iload 4, 2) := by decide +kernel
theorem dX5_sold_49 : decode cX5_sold 49 = .ok (.iaload, 1) := by decide +kernel
theorem dX5_sold_50 : decode cX5_sold 50 = .ok (.ireturn, 1) := by decide +kernel
theorem dX5_thought_0 : decode cX5_thought 0 = .ok (.iload_n 1, 1) := by decide +kernel
theorem dX5_thought_1 : decode cX5_thought 1 = .ok (.iload_n 2, 1) := by decide +kernel
theorem dX5_thought_2 : decode cX5_thought 2 = .ok (.invokestatic 118, 3) := by decide +kernel
theorem dX5_thought_5 : decode cX5_thought 5 = .ok (.ifCond .eq 20, 3) := by decide +kernel
theorem dX5_thought_8 : decode cX5_thought 8 = .ok (.iload_n 3, 1) := by decide +kernel
theorem dX5_thought_9 : decode cX5_thought 9 = .ok (.invokestatic 122, 3) := by decide +kernel
theorem dX5_thought_12 : decode cX5_thought 12 = .ok (.ifCond .eq 13, 3) := by decide +kernel
theorem dX5_thought_15 : decode cX5_thought 15 = .ok (.iload 4, 2) := by decide +kernel
theorem dX5_thought_17 : decode cX5_thought 17 = .ok (.iconst 0, 1) := by decide +kernel
theorem dX5_thought_18 : decode cX5_thought 18 = .ok (.iconst 1, 1) := by decide +kernel
theorem dX5_thought_19 : decode cX5_thought 19 = .ok (.invokestatic 66, 3) := by decide +kernel
theorem dX5_thought_22 : decode cX5_thought 22 = .ok (.ifCond .ne 6, 3) := by decide +kernel
theorem dX5_thought_25 : decode cX5_thought 25 = .ok (.ldc 142, 2) := by decide +kernel
theorem dX5_thought_27 : decode cX5_thought 27 = .ok (.ireturn, 1) := by decide +kernel
theorem dX5_thought_28 : decode cX5_thought 28 = .ok (.aload_n 0, 1) := by decide +kernel
theorem dX5_thought_29 : decode cX5_thought 29 = .ok (.getfield 28, 3) := by decide +kernel
theorem dX5_thought_32 : decode cX5_thought 32 = .ok (.aload_n 0, 1) := by decide +kernel
theorem dX5_thought_33 : decode cX5_thought 33 = .ok (.getfield 42, 3) := by decide +kernel
theorem dX5_thought_36 : decode cX5_thought 36 = .ok (.iload_n 1, 1) := by decide +kernel
theorem dX5_thought_37 : decode cX5_thought 37 = .ok (.iload_n 2, 1) := by decide +kernel
theorem dX5_thought_38 : decode cX5_thought 38 = .ok (.iload_n 3, 1) := by decide +kernel
theorem dX5_thought_39 : decode cX5_thought 39 = .ok (.invokevirtual 125, 3) := by decide +kernel
theorem dX5_thought_42 : decode cX5_thought 42 = .ok (.aload_n 0, 1) := by decide +kernel
theorem dX5_thought_43 : decode cX5_thought 43 = .ok (.getfield 28, 3) := by decide +kernel
theorem dX5_thought_46 : decode cX5_thought 46 = .ok (.getfield 135, 3) := by decide +kernel
theorem dX5_thought_49 : decode cX5_thought 49 = .ok (.ifCond .gt 6, 3) := by decide +kernel
theorem dX5_thought_52 : decode cX5_thought 52 = .ok (.ldc 143, 2) := by decide +kernel
theorem dX5_thought_54 : decode cX5_thought 54 = .ok (.ireturn, 1) := by decide +kernel
theorem dX5_thought_55 : decode cX5_thought 55 = .ok (.aload_n 0, 1) := by decide +kernel
theorem dX5_thought_56 : decode cX5_thought 56 = .ok (.getfield 28, 3) := by decide +kernel
theorem dX5_thought_59 : decode cX5_thought 59 = .ok (.getfield 144, 3) := by decide +kernel
theorem dX5_thought_62 : decode cX5_thought 62 = .ok (.invokestatic 147, 3) := by decide +kernel
theorem dX5_thought_65 : decode cX5_thought 65 = .ok (.aload_n 0, 1) := by decide +kernel
theorem dX5_thought_66 : decode cX5_thought 66 = .ok (.getfield 28, 3) := by decide +kernel
theorem dX5_thought_69 : decode cX5_thought 69 = .ok (.invokevirtual 153, 3) := by decide +kernel
theorem dX5_thought_72 : decode cX5_thought 72 = .ok (.invokestatic 157, 3) := by decide +kernel
theorem dX5_thought_75 : decode cX5_thought 75 = .ok (.istore 5, 2) := by decide +kernel
theorem dX5_thought_77 : decode cX5_thought 77 = .ok (.iload 4, 2) := by decide +kernel
theorem dX5_thought_79 : decode cX5_thought 79 = .ok (.ifCond .ne 13, 3) := by decide +kernel
theorem dX5_thought_82 : decode cX5_thought 82 = .ok (.aload_n 0, 1) := by decide +kernel
theorem dX5_thought_83 : decode cX5_thought 83 = .ok (.getfield 28, 3) := by decide +kernel
theorem dX5_thought_86 : decode cX5_thought 86 = .ok (.getfield 144, 3) := by decide +kernel
theorem dX5_thought_89 : decode cX5_thought 89 = .ok (.goto 10, 3) := by decide +kernel
theorem dX5_thought_92 : decode cX5_thought 92 = .ok (.aload_n 0, 1) := by decide +kernel
theorem dX5_thought_93 : decode cX5_thought 93 = .ok (.getfield 28, 3) := by decide +kernel
theorem dX5_thought_96 : decode cX5_thought 96 = .ok (.invokevirtual 153, 3) := by decide +kernel
theorem dX5_thought_99 : decode cX5_thought 99 = .ok (.iload 5, 2) := by decide +kernel
theorem dX5_thought_101 : decode cX5_thought 101 = .ok (.idiv, 1) := by decide +kernel
theorem dX5_thought_102 : decode cX5_thought 102 = .ok (.ireturn, 1) := by decide +kernel
theorem dX5_rests_0 : decode cX5_rests 0 = .ok (.iload_n 1, 1) := by decide +kernel
theorem dX5_rests_1 : decode cX5_rests 1 = .ok (.iload_n 2, 1) := by decide +kernel
theorem dX5_rests_2 : decode cX5_rests 2 = .ok (.invokestatic 118, 3) := by decide +kernel
theorem dX5_rests_5 : decode cX5_rests 5 = .ok (.ifCond .eq 12, 3) := by decide +kernel
theorem dX5_rests_8 : decode cX5_rests 8 = .ok (.iload_n 3, 1) := by decide +kernel
theorem dX5_rests_9 : decode cX5_rests 9 = .ok (.iconst 0, 1) := by decide +kernel
theorem dX5_rests_10 : decode cX5_rests 10 = .ok (.iconst 3, 1) := by decide +kernel
theorem dX5_rests_11 : decode cX5_rests 11 = .ok (.invokestatic 66, 3) := by decide +kernel
theorem dX5_rests_14 : decode cX5_rests 14 = .ok (.ifCond .ne 5, 3) := by decide +kernel
theorem dX5_rests_17 : decode cX5_rests 17 = .ok (.iconst (-1), 1) := by decide +kernel
theorem dX5_rests_18 : decode cX5_rests 18 = .ok (.ireturn, 1) := by decide +kernel
theorem dX5_rests_19 : decode cX5_rests 19 = .ok (.iconst 0, 1) := by decide +kernel
theorem dX5_rests_20 : decode cX5_rests 20 = .ok (.istore 4, 2) := by decide +kernel
theorem dX5_rests_22 : decode cX5_rests 22 = .ok (.bipush (-4), 2) := by decide +kernel
theorem dX5_rests_24 : decode cX5_rests 24 = .ok (.istore 5, 2) := by decide +kernel
theorem dX5_rests_26 : decode cX5_rests 26 = .ok (.bipush (-4), 2) := by decide +kernel
theorem dX5_rests_28 : decode cX5_rests 28 = .ok (.istore 6, 2) := by decide +kernel
theorem dX5_rests_30 : decode cX5_rests 30 = .ok (.bipush (-4), 2) := by decide +kernel
theorem dX5_rests_32 : decode cX5_rests 32 = .ok (.istore 7, 2) := by decide +kernel
theorem dX5_rests_34 : decode cX5_rests 34 = .ok (.iconst 0, 1) := by decide +kernel
theorem dX5_rests_35 : decode cX5_rests 35 = .ok (.istore 8, 2) := by decide +kernel
theorem dX5_rests_37 : decode cX5_rests 37 = .ok (.iconst 0, 1) := by decide +kernel
theorem dX5_rests_38 : decode cX5_rests 38 = .ok (.istore 9, 2) := by decide +kernel
theorem dX5_rests_40 : decode cX5_rests 40 = .ok (.iload 9, 2) := by decide +kernel
theorem dX5_rests_42 : decode cX5_rests 42 = .ok (.bipush 100, 2) := by decide +kernel
theorem dX5_rests_44 : decode cX5_rests 44 = .ok (.if_icmp .ge 94, 3) := by decide +kernel
theorem dX5_rests_47 : decode cX5_rests 47 = .ok (.aload_n 0, 1) := by decide +kernel
theorem dX5_rests_48 : decode cX5_rests 48 = .ok (.getfield 28, 3) := by decide +kernel
theorem dX5_rests_51 : decode cX5_rests 51 = .ok (.aload_n 0, 1) := by decide +kernel
theorem dX5_rests_52 : decode cX5_rests 52 = .ok (.getfield 42, 3) := by decide +kernel
theorem dX5_rests_55 : decode cX5_rests 55 = .ok (.iload_n 1, 1) := by decide +kernel
theorem dX5_rests_56 : decode cX5_rests 56 = .ok (.iload_n 2, 1) := by decide +kernel
theorem dX5_rests_57 : decode cX5_rests 57 = .ok (.iload 9, 2) := by decide +kernel
theorem dX5_rests_59 : decode cX5_rests 59 = .ok (.invokevirtual 125, 3) := by decide +kernel
theorem dX5_rests_62 : decode cX5_rests 62 = .ok (.aload_n 0, 1) := by decide +kernel
theorem dX5_rests_63 : decode cX5_rests 63 = .ok (.getfield 28, 3) := by decide +kernel
theorem dX5_rests_66 : decode cX5_rests 66 = .ok (.iload 9, 2) := by decide +kernel
theorem dX5_rests_68 : decode cX5_rests 68 = .ok (.invokevirtual 161, 3) := by decide +kernel
theorem dX5_rests_71 : decode cX5_rests 71 = .ok (.ifCond .eq 61, 3) := by decide +kernel
theorem dX5_rests_74 : decode cX5_rests 74 = .ok (.iinc 4 1, 3) := by decide +kernel
theorem dX5_rests_77 : decode cX5_rests 77 = .ok (.iload 5, 2) := by decide +kernel
theorem dX5_rests_79 : decode cX5_rests 79 = .ok (.bipush (-4), 2) := by decide +kernel
theorem dX5_rests_81 : decode cX5_rests 81 = .ok (.if_icmp .ne 8, 3) := by decide +kernel
theorem dX5_rests_84 : decode cX5_rests 84 = .ok (.iload 9, 2) := by decide +kernel
theorem dX5_rests_86 : decode cX5_rests 86 = .ok (.goto 5, 3) := by decide +kernel
theorem dX5_rests_89 : decode cX5_rests 89 = .ok (.iload 5, 2) := by decide +kernel
theorem dX5_rests_91 : decode cX5_rests 91 = .ok (.istore 5, 2) := by decide +kernel
theorem dX5_rests_93 : decode cX5_rests 93 = .ok (.iload 9, 2) := by decide +kernel
theorem dX5_rests_95 : decode cX5_rests 95 = .ok (.istore 6, 2) := by decide +kernel
theorem dX5_rests_97 : decode cX5_rests 97 = .ok (.aload_n 0, 1) := by decide +kernel
theorem dX5_rests_98 : decode cX5_rests 98 = .ok (.getfield 28, 3) := by decide +kernel
theorem dX5_rests_101 : decode cX5_rests 101 = .ok (.getfield 135, 3) := by decide +kernel
theorem dX5_rests_104 : decode cX5_rests 104 = .ok (.iload 8, 2) := by decide +kernel
theorem dX5_rests_106 : decode cX5_rests 106 = .ok (.if_icmp .le 8, 3) := by decide +kernel
theorem dX5_rests_109 : decode cX5_rests 109 = .ok (.iload 9, 2) := by decide +kernel
theorem dX5_rests_111 : decode cX5_rests 111 = .ok (.goto 5, 3) := by decide +kernel
theorem dX5_rests_114 : decode cX5_rests 114 = .ok (.iload 7, 2) := by decide +kernel
theorem dX5_rests_116 : decode cX5_rests 116 = .ok (.istore 7, 2) := by decide +kernel
theorem dX5_rests_118 : decode cX5_rests 118 = .ok (.iload 8, 2) := by decide +kernel
theorem dX5_rests_120 : decode cX5_rests 120 = .ok (.aload_n 0, 1) := by decide +kernel
theorem dX5_rests_121 : decode cX5_rests 121 = .ok (.getfield 28, 3) := by decide +kernel
theorem dX5_rests_124 : decode cX5_rests 124 = .ok (.getfield 135, 3) := by decide +kernel
theorem dX5_rests_127 : decode cX5_rests 127 = .ok (.invokestatic 164, 3) := by decide +kernel
theorem dX5_rests_130 : decode cX5_rests 130 = .ok (.istore 8, 2) := by decide +kernel
theorem dX5_rests_132 : decode cX5_rests 132 = .ok (.iinc 9 1, 3) := by decide +kernel
theorem dX5_rests_135 : decode cX5_rests 135 = .ok (.goto (-95), 3) := by decide +kernel
theorem dX5_rests_138 : decode cX5_rests 138 = .ok (.iload_n 3, 1) := by decide +kernel
theorem dX5_rests_139 : decode cX5_rests 139 = .ok (.tableswitch 34 0 2 #[25, 28, 31], 25) := by decide +kernel
theorem dX5_rests_164 : decode cX5_rests 164 = .ok (.iload 4, 2) := by decide +kernel
theorem dX5_rests_166 : decode cX5_rests 166 = .ok (.ireturn, 1) := by decide +kernel
theorem dX5_rests_167 : decode cX5_rests 167 = .ok (.iload 5, 2) := by decide +kernel
theorem dX5_rests_169 : decode cX5_rests 169 = .ok (.ireturn, 1) := by decide +kernel
theorem dX5_rests_170 : decode cX5_rests 170 = .ok (.iload 6, 2) := by decide +kernel
theorem dX5_rests_172 : decode cX5_rests 172 = .ok (.ireturn, 1) := by decide +kernel
theorem dX5_rests_173 : decode cX5_rests 173 = .ok (.iload 7, 2) := by decide +kernel
theorem dX5_rests_175 : decode cX5_rests 175 = .ok (.ireturn, 1) := by decide +kernel
theorem dX5_fall_0 : decode cX5_fall 0 = .ok (.iload 4, 2) := by decide +kernel
theorem dX5_fall_2 : decode cX5_fall 2 = .ok (.iconst 0, 1) := by decide +kernel
theorem dX5_fall_3 : decode cX5_fall 3 = .ok (.iconst 1, 1) := by decide +kernel
theorem dX5_fall_4 : decode cX5_fall 4 = .ok (.invokestatic 66, 3) := by decide +kernel
theorem dX5_fall_7 : decode cX5_fall 7 = .ok (.ifCond .ne 15, 3) := by decide +kernel
theorem dX5_fall_10 : decode cX5_fall 10 = .ok (.iload 4, 2) := by decide +kernel
theorem dX5_fall_12 : decode cX5_fall 12 = .ok (.bipush 10, 2) := by decide +kernel
theorem dX5_fall_14 : decode cX5_fall 14 = .ok (.bipush 99, 2) := by decide +kernel
theorem dX5_fall_16 : decode cX5_fall 16 = .ok (.invokestatic 66, 3) := by decide +kernel
theorem dX5_fall_19 : decode cX5_fall 19 = .ok (.ifCond .eq 7, 3) := by decide +kernel
theorem dX5_fall_22 : decode cX5_fall 22 = .ok (.iconst 1, 1) := by decide +kernel
theorem dX5_fall_23 : decode cX5_fall 23 = .ok (.goto 4, 3) := by decide +kernel
theorem dX5_fall_26 : decode cX5_fall 26 = .ok (.iconst 0, 1) := by decide +kernel
theorem dX5_fall_27 : decode cX5_fall 27 = .ok (.istore 5, 2) := by decide +kernel
theorem dX5_fall_29 : decode cX5_fall 29 = .ok (.iload_n 1, 1) := by decide +kernel
theorem dX5_fall_30 : decode cX5_fall 30 = .ok (.iload_n 2, 1) := by decide +kernel
theorem dX5_fall_31 : decode cX5_fall 31 = .ok (.invokestatic 118, 3) := by decide +kernel
theorem dX5_fall_34 : decode cX5_fall 34 = .ok (.ifCond .eq 15, 3) := by decide +kernel
theorem dX5_fall_37 : decode cX5_fall 37 = .ok (.iload_n 3, 1) := by decide +kernel
theorem dX5_fall_38 : decode cX5_fall 38 = .ok (.invokestatic 122, 3) := by decide +kernel
theorem dX5_fall_41 : decode cX5_fall 41 = .ok (.ifCond .eq 8, 3) := by decide +kernel
theorem dX5_fall_44 : decode cX5_fall 44 = .ok (.iload 5, 2) := by decide +kernel
theorem dX5_fall_46 : decode cX5_fall 46 = .ok (.ifCond .ne 5, 3) := by decide +kernel
theorem dX5_fall_49 : decode cX5_fall 49 = .ok (.iconst (-1), 1) := by decide +kernel
theorem dX5_fall_50 : decode cX5_fall 50 = .ok (.ireturn, 1) := by decide +kernel
theorem dX5_fall_51 : decode cX5_fall 51 = .ok (.iload_n 3, 1) := by decide +kernel
theorem dX5_fall_52 : decode cX5_fall 52 = .ok (.istore 6, 2) := by decide +kernel
theorem dX5_fall_54 : decode cX5_fall 54 = .ok (.iconst 0, 1) := by decide +kernel
theorem dX5_fall_55 : decode cX5_fall 55 = .ok (.istore 7, 2) := by decide +kernel
theorem dX5_fall_57 : decode cX5_fall 57 = .ok (.iconst 0, 1) := by decide +kernel
theorem dX5_fall_58 : decode cX5_fall 58 = .ok (.istore 8, 2) := by decide +kernel
theorem dX5_fall_60 : decode cX5_fall 60 = .ok (.iload 8, 2) := by decide +kernel
theorem dX5_fall_62 : decode cX5_fall 62 = .ok (.bipush 100, 2) := by decide +kernel
theorem dX5_fall_64 : decode cX5_fall 64 = .ok (.if_icmp .ge 65, 3) := by decide +kernel
theorem dX5_fall_67 : decode cX5_fall 67 = .ok (.iload 4, 2) := by decide +kernel
theorem dX5_fall_69 : decode cX5_fall 69 = .ok (.bipush 10, 2) := by decide +kernel
theorem dX5_fall_71 : decode cX5_fall 71 = .ok (.iload 7, 2) := by decide +kernel
theorem dX5_fall_73 : decode cX5_fall 73 = .ok (.iadd, 1) := by decide +kernel
theorem dX5_fall_74 : decode cX5_fall 74 = .ok (.if_icmp .ne 6, 3) := by decide +kernel
theorem dX5_fall_77 : decode cX5_fall 77 = .ok (.iload 6, 2) := by decide +kernel
theorem dX5_fall_79 : decode cX5_fall 79 = .ok (.ireturn, 1) := by decide +kernel
theorem dX5_fall_80 : decode cX5_fall 80 = .ok (.aload_n 0, 1) := by decide +kernel
theorem dX5_fall_81 : decode cX5_fall 81 = .ok (.getfield 28, 3) := by decide +kernel
theorem dX5_fall_84 : decode cX5_fall 84 = .ok (.aload_n 0, 1) := by decide +kernel
theorem dX5_fall_85 : decode cX5_fall 85 = .ok (.getfield 42, 3) := by decide +kernel
theorem dX5_fall_88 : decode cX5_fall 88 = .ok (.iload_n 1, 1) := by decide +kernel
theorem dX5_fall_89 : decode cX5_fall 89 = .ok (.iload_n 2, 1) := by decide +kernel
theorem dX5_fall_90 : decode cX5_fall 90 = .ok (.iload 6, 2) := by decide +kernel
theorem dX5_fall_92 : decode cX5_fall 92 = .ok (.invokevirtual 125, 3) := by decide +kernel
theorem dX5_fall_95 : decode cX5_fall 95 = .ok (.aload_n 0, 1) := by decide +kernel
theorem dX5_fall_96 : decode cX5_fall 96 = .ok (.getfield 28, 3) := by decide +kernel
theorem dX5_fall_99 : decode cX5_fall 99 = .ok (.iload 6, 2) := by decide +kernel
theorem dX5_fall_101 : decode cX5_fall 101 = .ok (.invokevirtual 167, 3) := by decide +kernel
theorem dX5_fall_104 : decode cX5_fall 104 = .ok (.istore 9, 2) := by decide +kernel
theorem dX5_fall_106 : decode cX5_fall 106 = .ok (.iload 9, 2) := by decide +kernel
theorem dX5_fall_108 : decode cX5_fall 108 = .ok (.iload 6, 2) := by decide +kernel
theorem dX5_fall_110 : decode cX5_fall 110 = .ok (.if_icmp .ne 6, 3) := by decide +kernel
theorem dX5_fall_113 : decode cX5_fall 113 = .ok (.goto 16, 3) := by decide +kernel
theorem dX5_fall_116 : decode cX5_fall 116 = .ok (.iload 9, 2) := by decide +kernel
theorem dX5_fall_118 : decode cX5_fall 118 = .ok (.istore 6, 2) := by decide +kernel
theorem dX5_fall_120 : decode cX5_fall 120 = .ok (.iinc 7 1, 3) := by decide +kernel
theorem dX5_fall_123 : decode cX5_fall 123 = .ok (.iinc 8 1, 3) := by decide +kernel
theorem dX5_fall_126 : decode cX5_fall 126 = .ok (.goto (-66), 3) := by decide +kernel
theorem dX5_fall_129 : decode cX5_fall 129 = .ok (.iload 4, 2) := by decide +kernel
theorem dX5_fall_131 : decode cX5_fall 131 = .ok (.ifCond .ne 23, 3) := by decide +kernel
theorem dX5_fall_134 : decode cX5_fall 134 = .ok (.aload_n 0, 1) := by decide +kernel
theorem dX5_fall_135 : decode cX5_fall 135 = .ok (.getfield 28, 3) := by decide +kernel
theorem dX5_fall_138 : decode cX5_fall 138 = .ok (.iload 6, 2) := by decide +kernel
theorem dX5_fall_140 : decode cX5_fall 140 = .ok (.invokevirtual 161, 3) := by decide +kernel
theorem dX5_fall_143 : decode cX5_fall 143 = .ok (.ifCond .eq 8, 3) := by decide +kernel
theorem dX5_fall_146 : decode cX5_fall 146 = .ok (.iload 6, 2) := by decide +kernel
theorem dX5_fall_148 : decode cX5_fall 148 = .ok (.goto 5, 3) := by decide +kernel
theorem dX5_fall_151 : decode cX5_fall 151 = .ok (.bipush (-4), 2) := by decide +kernel
theorem dX5_fall_153 : decode cX5_fall 153 = .ok (.ireturn, 1) := by decide +kernel
theorem dX5_fall_154 : decode cX5_fall 154 = .ok (.iload 4, 2) := by decide +kernel
theorem dX5_fall_156 : decode cX5_fall 156 = .ok (.iconst 1, 1) := by decide +kernel
theorem dX5_fall_157 : decode cX5_fall 157 = .ok (.if_icmp .ne 8, 3) := by decide +kernel
theorem dX5_fall_160 : decode cX5_fall 160 = .ok (.iload 7, 2) := by decide +kernel
theorem dX5_fall_162 : decode cX5_fall 162 = .ok (.goto 5, 3) := by decide +kernel
theorem dX5_fall_165 : decode cX5_fall 165 = .ok (.bipush (-4), 2) := by decide +kernel
theorem dX5_fall_167 : decode cX5_fall 167 = .ok (.ireturn, 1) := by decide +kernel
theorem dX5_gain_0 : decode cX5_gain 0 = .ok (.iload_n 1, 1) := by decide +kernel
theorem dX5_gain_1 : decode cX5_gain 1 = .ok (.iload_n 2, 1) := by decide +kernel
theorem dX5_gain_2 : decode cX5_gain 2 = .ok (.invokestatic 118, 3) := by decide +kernel
theorem dX5_gain_5 : decode cX5_gain 5 = .ok (.ifCond .eq 10, 3) := by decide +kernel
theorem dX5_gain_8 : decode cX5_gain 8 = .ok (.iload_n 3, 1) := by decide +kernel
theorem dX5_gain_9 : decode cX5_gain 9 = .ok (.invokestatic 122, 3) := by decide +kernel
theorem dX5_gain_12 : decode cX5_gain 12 = .ok (.ifCond .ne 6, 3) := by decide +kernel
theorem dX5_gain_15 : decode cX5_gain 15 = .ok (.ldc 142, 2) := by decide +kernel
theorem dX5_gain_17 : decode cX5_gain 17 = .ok (.ireturn, 1) := by decide +kernel
theorem dX5_gain_18 : decode cX5_gain 18 = .ok (.aload_n 0, 1) := by decide +kernel
theorem dX5_gain_19 : decode cX5_gain 19 = .ok (.aload_n 0, 1) := by decide +kernel
theorem dX5_gain_20 : decode cX5_gain 20 = .ok (.getfield 42, 3) := by decide +kernel
theorem dX5_gain_23 : decode cX5_gain 23 = .ok (.iload_n 1, 1) := by decide +kernel
theorem dX5_gain_24 : decode cX5_gain 24 = .ok (.iload_n 2, 1) := by decide +kernel
theorem dX5_gain_25 : decode cX5_gain 25 = .ok (.iload_n 3, 1) := by decide +kernel
theorem dX5_gain_26 : decode cX5_gain 26 = .ok (.invokevirtual 170, 3) := by decide +kernel
theorem dX5_gain_29 : decode cX5_gain 29 = .ok (.ireturn, 1) := by decide +kernel
theorem dX5_lost_0 : decode cX5_lost 0 = .ok (.iload_n 1, 1) := by decide +kernel
theorem dX5_lost_1 : decode cX5_lost 1 = .ok (.iload_n 2, 1) := by decide +kernel
theorem dX5_lost_2 : decode cX5_lost 2 = .ok (.invokestatic 118, 3) := by decide +kernel
theorem dX5_lost_5 : decode cX5_lost 5 = .ok (.ifCond .eq 10, 3) := by decide +kernel
theorem dX5_lost_8 : decode cX5_lost 8 = .ok (.iload_n 3, 1) := by decide +kernel
theorem dX5_lost_9 : decode cX5_lost 9 = .ok (.invokestatic 122, 3) := by decide +kernel
theorem dX5_lost_12 : decode cX5_lost 12 = .ok (.ifCond .ne 5, 3) := by decide +kernel
theorem dX5_lost_15 : decode cX5_lost 15 = .ok (.iconst (-1), 1) := by decide +kernel
theorem dX5_lost_16 : decode cX5_lost 16 = .ok (.ireturn, 1) := by decide +kernel
theorem dX5_lost_17 : decode cX5_lost 17 = .ok (.aload_n 0, 1) := by decide +kernel
theorem dX5_lost_18 : decode cX5_lost 18 = .ok (.getfield 28, 3) := by decide +kernel
theorem dX5_lost_21 : decode cX5_lost 21 = .ok (.aload_n 0, 1) := by decide +kernel
theorem dX5_lost_22 : decode cX5_lost 22 = .ok (.getfield 42, 3) := by decide +kernel
theorem dX5_lost_25 : decode cX5_lost 25 = .ok (.iload_n 1, 1) := by decide +kernel
theorem dX5_lost_26 : decode cX5_lost 26 = .ok (.iload_n 2, 1) := by decide +kernel
theorem dX5_lost_27 : decode cX5_lost 27 = .ok (.iload_n 3, 1) := by decide +kernel
theorem dX5_lost_28 : decode cX5_lost 28 = .ok (.invokevirtual 125, 3) := by decide +kernel
theorem dX5_lost_31 : decode cX5_lost 31 = .ok (.aload_n 0, 1) := by decide +kernel
theorem dX5_lost_32 : decode cX5_lost 32 = .ok (.getfield 28, 3) := by decide +kernel
theorem dX5_lost_35 : decode cX5_lost 35 = .ok (.getfield 174, 3) := by decide +kernel
theorem dX5_lost_38 : decode cX5_lost 38 = .ok (.ireturn, 1) := by decide +kernel
theorem dX5_best_0 : decode cX5_best 0 = .ok (.iload_n 1, 1) := by decide +kernel
theorem dX5_best_1 : decode cX5_best 1 = .ok (.iload_n 2, 1) := by decide +kernel
theorem dX5_best_2 : decode cX5_best 2 = .ok (.invokestatic 118, 3) := by decide +kernel
theorem dX5_best_5 : decode cX5_best 5 = .ok (.ifCond .eq 12, 3) := by decide +kernel
theorem dX5_best_8 : decode cX5_best 8 = .ok (.iload_n 3, 1) := by decide +kernel
theorem dX5_best_9 : decode cX5_best 9 = .ok (.iconst 0, 1) := by decide +kernel
theorem dX5_best_10 : decode cX5_best 10 = .ok (.iconst 1, 1) := by decide +kernel
theorem dX5_best_11 : decode cX5_best 11 = .ok (.invokestatic 66, 3) := by decide +kernel
theorem dX5_best_14 : decode cX5_best 14 = .ok (.ifCond .ne 6, 3) := by decide +kernel
theorem dX5_best_17 : decode cX5_best 17 = .ok (.ldc 142, 2) := by decide +kernel
theorem dX5_best_19 : decode cX5_best 19 = .ok (.ireturn, 1) := by decide +kernel
theorem dX5_best_20 : decode cX5_best 20 = .ok (.aload_n 0, 1) := by decide +kernel
theorem dX5_best_21 : decode cX5_best 21 = .ok (.aload_n 0, 1) := by decide +kernel
theorem dX5_best_22 : decode cX5_best 22 = .ok (.getfield 42, 3) := by decide +kernel
theorem dX5_best_25 : decode cX5_best 25 = .ok (.iload_n 1, 1) := by decide +kernel
theorem dX5_best_26 : decode cX5_best 26 = .ok (.iload_n 2, 1) := by decide +kernel
theorem dX5_best_27 : decode cX5_best 27 = .ok (.invokevirtual 177, 3) := by decide +kernel
theorem dX5_best_30 : decode cX5_best 30 = .ok (.istore 4, 2) := by decide +kernel
theorem dX5_best_32 : decode cX5_best 32 = .ok (.iload 4, 2) := by decide +kernel
theorem dX5_best_34 : decode cX5_best 34 = .ok (.bipush (-4), 2) := by decide +kernel
theorem dX5_best_36 : decode cX5_best 36 = .ok (.if_icmp .ne 6, 3) := by decide +kernel
theorem dX5_best_39 : decode cX5_best 39 = .ok (.ldc 143, 2) := by decide +kernel
theorem dX5_best_41 : decode cX5_best 41 = .ok (.ireturn, 1) := by decide +kernel
theorem dX5_best_42 : decode cX5_best 42 = .ok (.iload_n 3, 1) := by decide +kernel
theorem dX5_best_43 : decode cX5_best 43 = .ok (.ifCond .ne 8, 3) := by decide +kernel
theorem dX5_best_46 : decode cX5_best 46 = .ok (.iload 4, 2) := by decide +kernel
theorem dX5_best_48 : decode cX5_best 48 = .ok (.goto 15, 3) := by decide +kernel
theorem dX5_best_51 : decode cX5_best 51 = .ok (.aload_n 0, 1) := by decide +kernel
theorem dX5_best_52 : decode cX5_best 52 = .ok (.aload_n 0, 1) := by decide +kernel
theorem dX5_best_53 : decode cX5_best 53 = .ok (.getfield 42, 3) := by decide +kernel
theorem dX5_best_56 : decode cX5_best 56 = .ok (.iload_n 1, 1) := by decide +kernel
theorem dX5_best_57 : decode cX5_best 57 = .ok (.iload_n 2, 1) := by decide +kernel
theorem dX5_best_58 : decode cX5_best 58 = .ok (.iload 4, 2) := by decide +kernel
theorem dX5_best_60 : decode cX5_best 60 = .ok (.invokevirtual 170, 3) := by decide +kernel
theorem dX5_best_63 : decode cX5_best 63 = .ok (.ireturn, 1) := by decide +kernel
theorem dX5_all_0 : decode cX5_all 0 = .ok (.iconst 0, 1) := by decide +kernel
theorem dX5_all_1 : decode cX5_all 1 = .ok (.istore_n 1, 1) := by decide +kernel
theorem dX5_all_2 : decode cX5_all 2 = .ok (.iconst 0, 1) := by decide +kernel
theorem dX5_all_3 : decode cX5_all 3 = .ok (.istore_n 2, 1) := by decide +kernel
theorem dX5_all_4 : decode cX5_all 4 = .ok (.iload_n 2, 1) := by decide +kernel
theorem dX5_all_5 : decode cX5_all 5 = .ok (.aload_n 0, 1) := by decide +kernel
theorem dX5_all_6 : decode cX5_all 6 = .ok (.getfield 42, 3) := by decide +kernel
theorem dX5_all_9 : decode cX5_all 9 = .ok (.getfield 87, 3) := by decide +kernel
theorem dX5_all_12 : decode cX5_all 12 = .ok (.if_icmp .ge 38, 3) := by decide +kernel
theorem dX5_all_15 : decode cX5_all 15 = .ok (.iload_n 1, 1) := by decide +kernel
theorem dX5_all_16 : decode cX5_all 16 = .ok (.sipush 800, 3) := by decide +kernel
theorem dX5_all_19 : decode cX5_all 19 = .ok (.aload_n 0, 1) := by decide +kernel
theorem dX5_all_20 : decode cX5_all 20 = .ok (.getfield 42, 3) := by decide +kernel
theorem dX5_all_23 : decode cX5_all 23 = .ok (.getfield 181, 3) := by decide +kernel
theorem dX5_all_26 : decode cX5_all 26 = .ok (.iload_n 2, 1) := by decide +kernel
theorem dX5_all_27 : decode cX5_all 27 = .ok (.iaload, 1) := by decide +kernel
theorem dX5_all_28 : decode cX5_all 28 = .ok (.imul, 1) := by decide +kernel
theorem dX5_all_29 : decode cX5_all 29 = .ok (.iconst 0, 1) := by decide +kernel
theorem dX5_all_30 : decode cX5_all 30 = .ok (.aload_n 0, 1) := by decide +kernel
theorem dX5_all_31 : decode cX5_all 31 = .ok (.getfield 42, 3) := by decide +kernel
theorem dX5_all_34 : decode cX5_all 34 = .ok (.iload_n 2, 1) := by decide +kernel
theorem dX5_all_35 : decode cX5_all 35 = .ok (.invokevirtual 184, 3) := by decide +kernel
theorem dX5_all_38 : decode cX5_all 38 = .ok (.invokestatic 164, 3) := by decide +kernel
theorem dX5_all_41 : decode cX5_all 41 = .ok (.imul, 1) := by decide +kernel
theorem dX5_all_42 : decode cX5_all 42 = .ok (.iadd, 1) := by decide +kernel
theorem dX5_all_43 : decode cX5_all 43 = .ok (.istore_n 1, 1) := by decide +kernel
theorem dX5_all_44 : decode cX5_all 44 = .ok (.iinc 2 1, 3) := by decide +kernel
theorem dX5_all_47 : decode cX5_all 47 = .ok (.goto (-43), 3) := by decide +kernel
theorem dX5_all_50 : decode cX5_all 50 = .ok (.iload_n 1, 1) := by decide +kernel
theorem dX5_all_51 : decode cX5_all 51 = .ok (.ireturn, 1) := by decide +kernel
theorem dX5_part_0 : decode cX5_part 0 = .ok (.iload_n 1, 1) := by decide +kernel
theorem dX5_part_1 : decode cX5_part 1 = .ok (.iconst 0, 1) := by decide +kernel
theorem dX5_part_2 : decode cX5_part 2 = .ok (.bipush 9, 2) := by decide +kernel
theorem dX5_part_4 : decode cX5_part 4 = .ok (.invokestatic 66, 3) := by decide +kernel
theorem dX5_part_7 : decode cX5_part 7 = .ok (.ifCond .eq 12, 3) := by decide +kernel
theorem dX5_part_10 : decode cX5_part 10 = .ok (.iload_n 2, 1) := by decide +kernel
theorem dX5_part_11 : decode cX5_part 11 = .ok (.iconst 0, 1) := by decide +kernel
theorem dX5_part_12 : decode cX5_part 12 = .ok (.iconst 1, 1) := by decide +kernel
theorem dX5_part_13 : decode cX5_part 13 = .ok (.invokestatic 66, 3) := by decide +kernel
theorem dX5_part_16 : decode cX5_part 16 = .ok (.ifCond .ne 5, 3) := by decide +kernel
theorem dX5_part_19 : decode cX5_part 19 = .ok (.iconst (-1), 1) := by decide +kernel
theorem dX5_part_20 : decode cX5_part 20 = .ok (.ireturn, 1) := by decide +kernel
theorem dX5_part_21 : decode cX5_part 21 = .ok (.aload_n 0, 1) := by decide +kernel
theorem dX5_part_22 : decode cX5_part 22 = .ok (.getfield 42, 3) := by decide +kernel
theorem dX5_part_25 : decode cX5_part 25 = .ok (.iload_n 1, 1) := by decide +kernel
theorem dX5_part_26 : decode cX5_part 26 = .ok (.invokevirtual 187, 3) := by decide +kernel
theorem dX5_part_29 : decode cX5_part 29 = .ok (.istore_n 3, 1) := by decide +kernel
theorem dX5_part_30 : decode cX5_part 30 = .ok (.iload_n 3, 1) := by decide +kernel
theorem dX5_part_31 : decode cX5_part 31 = .ok (.ifCond .ne 6, 3) := by decide +kernel
theorem dX5_part_34 : decode cX5_part 34 = .ok (.bipush (-4), 2) := by decide +kernel
theorem dX5_part_36 : decode cX5_part 36 = .ok (.ireturn, 1) := by decide +kernel
theorem dX5_part_37 : decode cX5_part 37 = .ok (.iconst 0, 1) := by decide +kernel
theorem dX5_part_38 : decode cX5_part 38 = .ok (.istore 4, 2) := by decide +kernel
theorem dX5_part_40 : decode cX5_part 40 = .ok (.iload 4, 2) := by decide +kernel
theorem dX5_part_42 : decode cX5_part 42 = .ok (.bipush 100, 2) := by decide +kernel
theorem dX5_part_44 : decode cX5_part 44 = .ok (.if_icmp .ge 79, 3) := by decide +kernel
theorem dX5_part_47 : decode cX5_part 47 = .ok (.aload_n 0, 1) := by decide +kernel
theorem dX5_part_48 : decode cX5_part 48 = .ok (.getfield 42, 3) := by decide +kernel
theorem dX5_part_51 : decode cX5_part 51 = .ok (.iload_n 3, 1) := by decide +kernel
theorem dX5_part_52 : decode cX5_part 52 = .ok (.iload 4, 2) := by decide +kernel
theorem dX5_part_54 : decode cX5_part 54 = .ok (.invokevirtual 190, 3) := by decide +kernel
theorem dX5_part_57 : decode cX5_part 57 = .ok (.istore 5, 2) := by decide +kernel
theorem dX5_part_59 : decode cX5_part 59 = .ok (.iload 5, 2) := by decide +kernel
theorem dX5_part_61 : decode cX5_part 61 = .ok (.bipush 100, 2) := by decide +kernel
theorem dX5_part_63 : decode cX5_part 63 = .ok (.if_icmp .ge 54, 3) := by decide +kernel
theorem dX5_part_66 : decode cX5_part 66 = .ok (.aload_n 0, 1) := by decide +kernel
theorem dX5_part_67 : decode cX5_part 67 = .ok (.getfield 28, 3) := by decide +kernel
theorem dX5_part_70 : decode cX5_part 70 = .ok (.aload_n 0, 1) := by decide +kernel
theorem dX5_part_71 : decode cX5_part 71 = .ok (.getfield 42, 3) := by decide +kernel
theorem dX5_part_74 : decode cX5_part 74 = .ok (.iconst 1, 1) := by decide +kernel
theorem dX5_part_75 : decode cX5_part 75 = .ok (.iload 4, 2) := by decide +kernel
theorem dX5_part_77 : decode cX5_part 77 = .ok (.iload 5, 2) := by decide +kernel
theorem dX5_part_79 : decode cX5_part 79 = .ok (.invokevirtual 125, 3) := by decide +kernel
theorem dX5_part_82 : decode cX5_part 82 = .ok (.aload_n 0, 1) := by decide +kernel
theorem dX5_part_83 : decode cX5_part 83 = .ok (.getfield 28, 3) := by decide +kernel
theorem dX5_part_86 : decode cX5_part 86 = .ok (.getfield 129, 3) := by decide +kernel
theorem dX5_part_89 : decode cX5_part 89 = .ok (.iload_n 3, 1) := by decide +kernel
theorem dX5_part_90 : decode cX5_part 90 = .ok (.if_icmp .ne 27, 3) := by decide +kernel
theorem dX5_part_93 : decode cX5_part 93 = .ok (.aload_n 0, 1) := by decide +kernel
theorem dX5_part_94 : decode cX5_part 94 = .ok (.getfield 28, 3) := by decide +kernel
theorem dX5_part_97 : decode cX5_part 97 = .ok (.iload 5, 2) := by decide +kernel
theorem dX5_part_99 : decode cX5_part 99 = .ok (.invokevirtual 161, 3) := by decide +kernel
theorem dX5_part_102 : decode cX5_part 102 = .ok (.ifCond .eq 15, 3) := by decide +kernel
theorem dX5_part_105 : decode cX5_part 105 = .ok (.iload_n 2, 1) := by decide +kernel
theorem dX5_part_106 : decode cX5_part 106 = .ok (.ifCond .ne 8, 3) := by decide +kernel
theorem dX5_part_109 : decode cX5_part 109 = .ok (.iload 4, 2) := by decide +kernel
theorem dX5_part_111 : decode cX5_part 111 = .ok (.goto 5, 3) := by decide +kernel
theorem dX5_part_114 : decode cX5_part 114 = .ok (.iload 5, 2) := by decide +kernel
theorem dX5_part_116 : decode cX5_part 116 = .ok (.ireturn, 1) := by decide +kernel
theorem dX5_part_117 : decode cX5_part 117 = .ok (.iinc 4 1, 3) := by decide +kernel
theorem dX5_part_120 : decode cX5_part 120 = .ok (.goto (-80), 3) := by decide +kernel
theorem dX5_part_123 : decode cX5_part 123 = .ok (.bipush (-4), 2) := by decide +kernel
theorem dX5_part_125 : decode cX5_part 125 = .ok (.ireturn, 1) := by decide +kernel
theorem dX5_sharp_0 : decode cX5_sharp 0 = .ok (.aload_n 0, 1) := by decide +kernel
theorem dX5_sharp_1 : decode cX5_sharp 1 = .ok (.getfield 42, 3) := by decide +kernel
theorem dX5_sharp_4 : decode cX5_sharp 4 = .ok (.invokevirtual 193, 3) := by decide +kernel
theorem dX5_sharp_7 : decode cX5_sharp 7 = .ok (.istore_n 1, 1) := by decide +kernel
theorem dX5_sharp_8 : decode cX5_sharp 8 = .ok (.iload_n 1, 1) := by decide +kernel
theorem dX5_sharp_9 : decode cX5_sharp 9 = .ok (.ifCond .ne 6, 3) := by decide +kernel
theorem dX5_sharp_12 : decode cX5_sharp 12 = .ok (.bipush (-4), 2) := by decide +kernel
theorem dX5_sharp_14 : decode cX5_sharp 14 = .ok (.ireturn, 1) := by decide +kernel
theorem dX5_sharp_15 : decode cX5_sharp 15 = .ok (.aload_n 0, 1) := by decide +kernel
theorem dX5_sharp_16 : decode cX5_sharp 16 = .ok (.getfield 49, 3) := by decide +kernel
theorem dX5_sharp_19 : decode cX5_sharp 19 = .ok (.aload_n 0, 1) := by decide +kernel
theorem dX5_sharp_20 : decode cX5_sharp 20 = .ok (.getfield 42, 3) := by decide +kernel
theorem dX5_sharp_23 : decode cX5_sharp 23 = .ok (.invokevirtual 196, 3) := by decide +kernel
theorem dX5_sharp_26 : decode cX5_sharp 26 = .ok (.iconst 4, 1) := by decide +kernel
theorem dX5_sharp_27 : decode cX5_sharp 27 = .ok (.istore_n 2, 1) := by decide +kernel
theorem dX5_sharp_28 : decode cX5_sharp 28 = .ok (.iload_n 2, 1) := by decide +kernel
theorem dX5_sharp_29 : decode cX5_sharp 29 = .ok (.bipush 8, 2) := by decide +kernel
theorem dX5_sharp_31 : decode cX5_sharp 31 = .ok (.if_icmp .gt 69, 3) := by decide +kernel
theorem dX5_sharp_34 : decode cX5_sharp 34 = .ok (.aload_n 0, 1) := by decide +kernel
theorem dX5_sharp_35 : decode cX5_sharp 35 = .ok (.getfield 49, 3) := by decide +kernel
theorem dX5_sharp_38 : decode cX5_sharp 38 = .ok (.iload_n 2, 1) := by decide +kernel
theorem dX5_sharp_39 : decode cX5_sharp 39 = .ok (.putfield 109, 3) := by decide +kernel
theorem dX5_sharp_42 : decode cX5_sharp 42 = .ok (.iconst 0, 1) := by decide +kernel
theorem dX5_sharp_43 : decode cX5_sharp 43 = .ok (.istore_n 3, 1) := by decide +kernel
theorem dX5_sharp_44 : decode cX5_sharp 44 = .ok (.iload_n 3, 1) := by decide +kernel
theorem dX5_sharp_45 : decode cX5_sharp 45 = .ok (.bipush 100, 2) := by decide +kernel
theorem dX5_sharp_47 : decode cX5_sharp 47 = .ok (.if_icmp .ge 47, 3) := by decide +kernel
theorem dX5_sharp_50 : decode cX5_sharp 50 = .ok (.aload_n 0, 1) := by decide +kernel
theorem dX5_sharp_51 : decode cX5_sharp 51 = .ok (.getfield 28, 3) := by decide +kernel
theorem dX5_sharp_54 : decode cX5_sharp 54 = .ok (.aload_n 0, 1) := by decide +kernel
theorem dX5_sharp_55 : decode cX5_sharp 55 = .ok (.getfield 49, 3) := by decide +kernel
theorem dX5_sharp_58 : decode cX5_sharp 58 = .ok (.iconst 2, 1) := by decide +kernel
theorem dX5_sharp_59 : decode cX5_sharp 59 = .ok (.iconst 0, 1) := by decide +kernel
theorem dX5_sharp_60 : decode cX5_sharp 60 = .ok (.iload_n 3, 1) := by decide +kernel
theorem dX5_sharp_61 : decode cX5_sharp 61 = .ok (.invokevirtual 125, 3) := by decide +kernel
theorem dX5_sharp_64 : decode cX5_sharp 64 = .ok (.aload_n 0, 1) := by decide +kernel
theorem dX5_sharp_65 : decode cX5_sharp 65 = .ok (.getfield 28, 3) := by decide +kernel
theorem dX5_sharp_68 : decode cX5_sharp 68 = .ok (.iload_n 1, 1) := by decide +kernel
theorem dX5_sharp_69 : decode cX5_sharp 69 = .ok (.invokevirtual 199, 3) := by decide +kernel
theorem dX5_sharp_72 : decode cX5_sharp 72 = .ok (.ifCond .eq 16, 3) := by decide +kernel
theorem dX5_sharp_75 : decode cX5_sharp 75 = .ok (.aload_n 0, 1) := by decide +kernel
theorem dX5_sharp_76 : decode cX5_sharp 76 = .ok (.getfield 28, 3) := by decide +kernel
theorem dX5_sharp_79 : decode cX5_sharp 79 = .ok (.iload_n 3, 1) := by decide +kernel
theorem dX5_sharp_80 : decode cX5_sharp 80 = .ok (.invokevirtual 161, 3) := by decide +kernel
theorem dX5_sharp_83 : decode cX5_sharp 83 = .ok (.ifCond .eq 5, 3) := by decide +kernel
theorem dX5_sharp_86 : decode cX5_sharp 86 = .ok (.iload_n 2, 1) := by decide +kernel
theorem dX5_sharp_87 : decode cX5_sharp 87 = .ok (.ireturn, 1) := by decide +kernel
theorem dX5_sharp_88 : decode cX5_sharp 88 = .ok (.iinc 3 1, 3) := by decide +kernel
theorem dX5_sharp_91 : decode cX5_sharp 91 = .ok (.goto (-47), 3) := by decide +kernel
theorem dX5_sharp_94 : decode cX5_sharp 94 = .ok (.iinc 2 1, 3) := by decide +kernel
theorem dX5_sharp_97 : decode cX5_sharp 97 = .ok (.goto (-69), 3) := by decide +kernel
theorem dX5_sharp_100 : decode cX5_sharp 100 = .ok (.bipush (-4), 2) := by decide +kernel
theorem dX5_sharp_102 : decode cX5_sharp 102 = .ok (.ireturn, 1) := by decide +kernel
theorem dX5_days_0 : decode cX5_days 0 = .ok (.iload_n 1, 1) := by decide +kernel
theorem dX5_days_1 : decode cX5_days 1 = .ok (.iconst 0, 1) := by decide +kernel
theorem dX5_days_2 : decode cX5_days 2 = .ok (.iconst 1, 1) := by decide +kernel
theorem dX5_days_3 : decode cX5_days 3 = .ok (.invokestatic 66, 3) := by decide +kernel
theorem dX5_days_6 : decode cX5_days 6 = .ok (.ifCond .ne 6, 3) := by decide +kernel
theorem dX5_days_9 : decode cX5_days 9 = .ok (.ldc 142, 2) := by decide +kernel
theorem dX5_days_11 : decode cX5_days 11 = .ok (.ireturn, 1) := by decide +kernel
theorem dX5_days_12 : decode cX5_days 12 = .ok (.ldc 143, 2) := by decide +kernel
theorem dX5_days_14 : decode cX5_days 14 = .ok (.istore_n 2, 1) := by decide +kernel
theorem dX5_days_15 : decode cX5_days 15 = .ok (.ldc 143, 2) := by decide +kernel
theorem dX5_days_17 : decode cX5_days 17 = .ok (.istore_n 3, 1) := by decide +kernel
theorem dX5_days_18 : decode cX5_days 18 = .ok (.iconst 0, 1) := by decide +kernel
theorem dX5_days_19 : decode cX5_days 19 = .ok (.istore 4, 2) := by decide +kernel
theorem dX5_days_21 : decode cX5_days 21 = .ok (.iload 4, 2) := by decide +kernel
theorem dX5_days_23 : decode cX5_days 23 = .ok (.bipush 10, 2) := by decide +kernel
theorem dX5_days_25 : decode cX5_days 25 = .ok (.if_icmp .gt 56, 3) := by decide +kernel
theorem dX5_days_28 : decode cX5_days 28 = .ok (.aload_n 0, 1) := by decide +kernel
theorem dX5_days_29 : decode cX5_days 29 = .ok (.aload_n 0, 1) := by decide +kernel
theorem dX5_days_30 : decode cX5_days 30 = .ok (.getfield 42, 3) := by decide +kernel
theorem dX5_days_33 : decode cX5_days 33 = .ok (.iconst 3, 1) := by decide +kernel
theorem dX5_days_34 : decode cX5_days 34 = .ok (.iload 4, 2) := by decide +kernel
theorem dX5_days_36 : decode cX5_days 36 = .ok (.invokevirtual 177, 3) := by decide +kernel
theorem dX5_days_39 : decode cX5_days 39 = .ok (.istore 5, 2) := by decide +kernel
theorem dX5_days_41 : decode cX5_days 41 = .ok (.iload 5, 2) := by decide +kernel
theorem dX5_days_43 : decode cX5_days 43 = .ok (.bipush (-4), 2) := by decide +kernel
theorem dX5_days_45 : decode cX5_days 45 = .ok (.if_icmp .eq 30, 3) := by decide +kernel
theorem dX5_days_48 : decode cX5_days 48 = .ok (.aload_n 0, 1) := by decide +kernel
theorem dX5_days_49 : decode cX5_days 49 = .ok (.aload_n 0, 1) := by decide +kernel
theorem dX5_days_50 : decode cX5_days 50 = .ok (.getfield 42, 3) := by decide +kernel
theorem dX5_days_53 : decode cX5_days 53 = .ok (.iconst 3, 1) := by decide +kernel
theorem dX5_days_54 : decode cX5_days 54 = .ok (.iload 4, 2) := by decide +kernel
theorem dX5_days_56 : decode cX5_days 56 = .ok (.iload 5, 2) := by decide +kernel
theorem dX5_days_58 : decode cX5_days 58 = .ok (.invokevirtual 170, 3) := by decide +kernel
theorem dX5_days_61 : decode cX5_days 61 = .ok (.istore 6, 2) := by decide +kernel
theorem dX5_days_63 : decode cX5_days 63 = .ok (.iload 6, 2) := by decide +kernel
theorem dX5_days_65 : decode cX5_days 65 = .ok (.iload_n 3, 1) := by decide +kernel
theorem dX5_days_66 : decode cX5_days 66 = .ok (.if_icmp .le 9, 3) := by decide +kernel
theorem dX5_days_69 : decode cX5_days 69 = .ok (.iload 4, 2) := by decide +kernel
theorem dX5_days_71 : decode cX5_days 71 = .ok (.istore_n 2, 1) := by decide +kernel
theorem dX5_days_72 : decode cX5_days 72 = .ok (.iload 6, 2) := by decide +kernel
theorem dX5_days_74 : decode cX5_days 74 = .ok (.istore_n 3, 1) := by decide +kernel
theorem dX5_days_75 : decode cX5_days 75 = .ok (.iinc 4 1, 3) := by decide +kernel
theorem dX5_days_78 : decode cX5_days 78 = .ok (.goto (-57), 3) := by decide +kernel
theorem dX5_days_81 : decode cX5_days 81 = .ok (.iload_n 1, 1) := by decide +kernel
theorem dX5_days_82 : decode cX5_days 82 = .ok (.ifCond .ne 7, 3) := by decide +kernel
theorem dX5_days_85 : decode cX5_days 85 = .ok (.iload_n 2, 1) := by decide +kernel
theorem dX5_days_86 : decode cX5_days 86 = .ok (.goto 4, 3) := by decide +kernel
theorem dX5_days_89 : decode cX5_days 89 = .ok (.iload_n 3, 1) := by decide +kernel
theorem dX5_days_90 : decode cX5_days 90 = .ok (.ireturn, 1) := by decide +kernel
theorem dX5_keep_0 : decode cX5_keep 0 = .ok (.iload_n 1, 1) := by decide +kernel
theorem dX5_keep_1 : decode cX5_keep 1 = .ok (.iconst 1, 1) := by decide +kernel
theorem dX5_keep_2 : decode cX5_keep 2 = .ok (.bipush 99, 2) := by decide +kernel
theorem dX5_keep_4 : decode cX5_keep 4 = .ok (.invokestatic 66, 3) := by decide +kernel
theorem dX5_keep_7 : decode cX5_keep 7 = .ok (.ifCond .eq 14, 3) := by decide +kernel
theorem dX5_keep_10 : decode cX5_keep 10 = .ok (.iload_n 2, 1) := by decide +kernel
theorem dX5_keep_11 : decode cX5_keep 11 = .ok (.iconst 0, 1) := by decide +kernel
theorem dX5_keep_12 : decode cX5_keep 12 = .ok (.sipush 999, 3) := by decide +kernel
theorem dX5_keep_15 : decode cX5_keep 15 = .ok (.invokestatic 66, 3) := by decide +kernel
theorem dX5_keep_18 : decode cX5_keep 18 = .ok (.ifCond .ne 5, 3) := by decide +kernel
theorem dX5_keep_21 : decode cX5_keep 21 = .ok (.iconst (-1), 1) := by decide +kernel
theorem dX5_keep_22 : decode cX5_keep 22 = .ok (.ireturn, 1) := by decide +kernel
theorem dX5_keep_23 : decode cX5_keep 23 = .ok (.iload_n 2, 1) := by decide +kernel
theorem dX5_keep_24 : decode cX5_keep 24 = .ok (.iload_n 1, 1) := by decide +kernel
theorem dX5_keep_25 : decode cX5_keep 25 = .ok (.invokestatic 202, 3) := by decide +kernel
theorem dX5_keep_28 : decode cX5_keep 28 = .ok (.ireturn, 1) := by decide +kernel
theorem dX5_edge_0 : decode cX5_edge 0 = .ok (.aload_n 0, 1) := by decide +kernel
theorem dX5_edge_1 : decode cX5_edge 1 = .ok (.iload_n 1, 1) := by decide +kernel
theorem dX5_edge_2 : decode cX5_edge 2 = .ok (.invokevirtual 92, 3) := by decide +kernel
theorem dX5_edge_5 : decode cX5_edge 5 = .ok (.ifCond .ne 5, 3) := by decide +kernel
theorem dX5_edge_8 : decode cX5_edge 8 = .ok (.iconst (-1), 1) := by decide +kernel
theorem dX5_edge_9 : decode cX5_edge 9 = .ok (.ireturn, 1) := by decide +kernel
theorem dX5_edge_10 : decode cX5_edge 10 = .ok (.aload_n 0, 1) := by decide +kernel
theorem dX5_edge_11 : decode cX5_edge 11 = .ok (.getfield 49, 3) := by decide +kernel
theorem dX5_edge_14 : decode cX5_edge 14 = .ok (.aload_n 0, 1) := by decide +kernel
theorem dX5_edge_15 : decode cX5_edge 15 = .ok (.getfield 42, 3) := by decide +kernel
theorem dX5_edge_18 : decode cX5_edge 18 = .ok (.invokevirtual 196, 3) := by decide +kernel
theorem dX5_edge_21 : decode cX5_edge 21 = .ok (.aload_n 0, 1) := by decide +kernel
theorem dX5_edge_22 : decode cX5_edge 22 = .ok (.getfield 49, 3) := by decide +kernel
theorem dX5_edge_25 : decode cX5_edge 25 = .ok (.getfield 205, 3) := by decide +kernel
theorem dX5_edge_28 : decode cX5_edge 28 = .ok (.iload_n 1, 1) := by decide +kernel
theorem dX5_edge_29 : decode cX5_edge 29 = .ok (.iconst 0, 1) := by decide +kernel
theorem dX5_edge_30 : decode cX5_edge 30 = .ok (.iastore, 1) := by decide +kernel
theorem dX5_edge_31 : decode cX5_edge 31 = .ok (.ldc 208, 2) := by decide +kernel
theorem dX5_edge_33 : decode cX5_edge 33 = .ok (.istore_n 2, 1) := by decide +kernel
theorem dX5_edge_34 : decode cX5_edge 34 = .ok (.iconst 1, 1) := by decide +kernel
theorem dX5_edge_35 : decode cX5_edge 35 = .ok (.aload_n 0, 1) := by decide +kernel
theorem dX5_edge_36 : decode cX5_edge 36 = .ok (.getfield 42, 3) := by decide +kernel
theorem dX5_edge_39 : decode cX5_edge 39 = .ok (.getfield 209, 3) := by decide +kernel
theorem dX5_edge_42 : decode cX5_edge 42 = .ok (.iload_n 1, 1) := by decide +kernel
theorem dX5_edge_43 : decode cX5_edge 43 = .ok (.iaload, 1) := by decide +kernel
theorem dX5_edge_44 : decode cX5_edge 44 = .ok (.invokestatic 164, 3) := by decide +kernel
theorem dX5_edge_47 : decode cX5_edge 47 = .ok (.istore_n 3, 1) := by decide +kernel
theorem dX5_edge_48 : decode cX5_edge 48 = .ok (.iload_n 3, 1) := by decide +kernel
theorem dX5_edge_49 : decode cX5_edge 49 = .ok (.bipush 100, 2) := by decide +kernel
theorem dX5_edge_51 : decode cX5_edge 51 = .ok (.if_icmp .ge 51, 3) := by decide +kernel
theorem dX5_edge_54 : decode cX5_edge 54 = .ok (.aload_n 0, 1) := by decide +kernel
theorem dX5_edge_55 : decode cX5_edge 55 = .ok (.getfield 28, 3) := by decide +kernel
theorem dX5_edge_58 : decode cX5_edge 58 = .ok (.aload_n 0, 1) := by decide +kernel
theorem dX5_edge_59 : decode cX5_edge 59 = .ok (.getfield 49, 3) := by decide +kernel
theorem dX5_edge_62 : decode cX5_edge 62 = .ok (.iconst 0, 1) := by decide +kernel
theorem dX5_edge_63 : decode cX5_edge 63 = .ok (.iconst 0, 1) := by decide +kernel
theorem dX5_edge_64 : decode cX5_edge 64 = .ok (.iload_n 3, 1) := by decide +kernel
theorem dX5_edge_65 : decode cX5_edge 65 = .ok (.invokevirtual 125, 3) := by decide +kernel
theorem dX5_edge_68 : decode cX5_edge 68 = .ok (.iload_n 2, 1) := by decide +kernel
theorem dX5_edge_69 : decode cX5_edge 69 = .ok (.aload_n 0, 1) := by decide +kernel
theorem dX5_edge_70 : decode cX5_edge 70 = .ok (.getfield 28, 3) := by decide +kernel
theorem dX5_edge_73 : decode cX5_edge 73 = .ok (.iload_n 3, 1) := by decide +kernel
theorem dX5_edge_74 : decode cX5_edge 74 = .ok (.invokevirtual 212, 3) := by decide +kernel
theorem dX5_edge_77 : decode cX5_edge 77 = .ok (.bipush 10, 2) := by decide +kernel
theorem dX5_edge_79 : decode cX5_edge 79 = .ok (.aload_n 0, 1) := by decide +kernel
theorem dX5_edge_80 : decode cX5_edge 80 = .ok (.getfield 28, 3) := by decide +kernel
theorem dX5_edge_83 : decode cX5_edge 83 = .ok (.getfield 138, 3) := by decide +kernel
theorem dX5_edge_86 : decode cX5_edge 86 = .ok (.iload_n 1, 1) := by decide +kernel
theorem dX5_edge_87 : decode cX5_edge 87 = .ok (.iaload, 1) := by decide +kernel
theorem dX5_edge_88 : decode cX5_edge 88 = .ok (.imul, 1) := by decide +kernel
theorem dX5_edge_89 : decode cX5_edge 89 = .ok (.invokestatic 202, 3) := by decide +kernel
theorem dX5_edge_92 : decode cX5_edge 92 = .ok (.invokestatic 215, 3) := by decide +kernel
theorem dX5_edge_95 : decode cX5_edge 95 = .ok (.istore_n 2, 1) := by decide +kernel
theorem dX5_edge_96 : decode cX5_edge 96 = .ok (.iinc 3 1, 3) := by decide +kernel
theorem dX5_edge_99 : decode cX5_edge 99 = .ok (.goto (-51), 3) := by decide +kernel
theorem dX5_edge_102 : decode cX5_edge 102 = .ok (.iload_n 2, 1) := by decide +kernel
theorem dX5_edge_103 : decode cX5_edge 103 = .ok (.bipush 99, 2) := by decide +kernel
theorem dX5_edge_105 : decode cX5_edge 105 = .ok (.if_icmp .le 8, 3) := by decide +kernel
theorem dX5_edge_108 : decode cX5_edge 108 = .ok (.bipush (-4), 2) := by decide +kernel
theorem dX5_edge_110 : decode cX5_edge 110 = .ok (.goto 4, 3) := by decide +kernel
theorem dX5_edge_113 : decode cX5_edge 113 = .ok (.iload_n 2, 1) := by decide +kernel
theorem dX5_edge_114 : decode cX5_edge 114 = .ok (.ireturn, 1) := by decide +kernel
theorem dX5_spur_0 : decode cX5_spur 0 = .ok (.aload_n 0, 1) := by decide +kernel
theorem dX5_spur_1 : decode cX5_spur 1 = .ok (.iload_n 1, 1) := by decide +kernel
theorem dX5_spur_2 : decode cX5_spur 2 = .ok (.invokevirtual 92, 3) := by decide +kernel
theorem dX5_spur_5 : decode cX5_spur 5 = .ok (.ifCond .ne 5, 3) := by decide +kernel
theorem dX5_spur_8 : decode cX5_spur 8 = .ok (.iconst (-1), 1) := by decide +kernel
theorem dX5_spur_9 : decode cX5_spur 9 = .ok (.ireturn, 1) := by decide +kernel
theorem dX5_spur_10 : decode cX5_spur 10 = .ok (.aload_n 0, 1) := by decide +kernel
theorem dX5_spur_11 : decode cX5_spur 11 = .ok (.getfield 42, 3) := by decide +kernel
theorem dX5_spur_14 : decode cX5_spur 14 = .ok (.invokevirtual 218, 3) := by decide +kernel
theorem dX5_spur_17 : decode cX5_spur 17 = .ok (.istore_n 2, 1) := by decide +kernel
theorem dX5_spur_18 : decode cX5_spur 18 = .ok (.iload_n 2, 1) := by decide +kernel
theorem dX5_spur_19 : decode cX5_spur 19 = .ok (.ifCond .ne 6, 3) := by decide +kernel
theorem dX5_spur_22 : decode cX5_spur 22 = .ok (.bipush (-4), 2) := by decide +kernel
theorem dX5_spur_24 : decode cX5_spur 24 = .ok (.ireturn, 1) := by decide +kernel
theorem dX5_spur_25 : decode cX5_spur 25 = .ok (.aload_n 0, 1) := by decide +kernel
theorem dX5_spur_26 : decode cX5_spur 26 = .ok (.getfield 49, 3) := by decide +kernel
theorem dX5_spur_29 : decode cX5_spur 29 = .ok (.aload_n 0, 1) := by decide +kernel
theorem dX5_spur_30 : decode cX5_spur 30 = .ok (.getfield 42, 3) := by decide +kernel
theorem dX5_spur_33 : decode cX5_spur 33 = .ok (.invokevirtual 196, 3) := by decide +kernel
theorem dX5_spur_36 : decode cX5_spur 36 = .ok (.aload_n 0, 1) := by decide +kernel
theorem dX5_spur_37 : decode cX5_spur 37 = .ok (.getfield 49, 3) := by decide +kernel
theorem dX5_spur_40 : decode cX5_spur 40 = .ok (.getfield 221, 3) := by decide +kernel
theorem dX5_spur_43 : decode cX5_spur 43 = .ok (.iload_n 1, 1) := by decide +kernel
theorem dX5_spur_44 : decode cX5_spur 44 = .ok (.iconst 0, 1) := by decide +kernel
theorem dX5_spur_45 : decode cX5_spur 45 = .ok (.iastore, 1) := by decide +kernel
theorem dX5_spur_46 : decode cX5_spur 46 = .ok (.ldc 208, 2) := by decide +kernel
theorem dX5_spur_48 : decode cX5_spur 48 = .ok (.istore_n 3, 1) := by decide +kernel
theorem dX5_spur_49 : decode cX5_spur 49 = .ok (.iconst 0, 1) := by decide +kernel
theorem dX5_spur_50 : decode cX5_spur 50 = .ok (.istore 4, 2) := by decide +kernel
theorem dX5_spur_52 : decode cX5_spur 52 = .ok (.iload 4, 2) := by decide +kernel
theorem dX5_spur_54 : decode cX5_spur 54 = .ok (.bipush 100, 2) := by decide +kernel
theorem dX5_spur_56 : decode cX5_spur 56 = .ok (.if_icmp .ge 89, 3) := by decide +kernel
theorem dX5_spur_59 : decode cX5_spur 59 = .ok (.aload_n 0, 1) := by decide +kernel
theorem dX5_spur_60 : decode cX5_spur 60 = .ok (.getfield 28, 3) := by decide +kernel
theorem dX5_spur_63 : decode cX5_spur 63 = .ok (.aload_n 0, 1) := by decide +kernel
theorem dX5_spur_64 : decode cX5_spur 64 = .ok (.getfield 49, 3) := by decide +kernel
theorem dX5_spur_67 : decode cX5_spur 67 = .ok (.iconst 0, 1) := by decide +kernel
theorem dX5_spur_68 : decode cX5_spur 68 = .ok (.iconst 0, 1) := by decide +kernel
theorem dX5_spur_69 : decode cX5_spur 69 = .ok (.iload 4, 2) := by decide +kernel
theorem dX5_spur_71 : decode cX5_spur 71 = .ok (.invokevirtual 125, 3) := by decide +kernel
theorem dX5_spur_74 : decode cX5_spur 74 = .ok (.aload_n 0, 1) := by decide +kernel
theorem dX5_spur_75 : decode cX5_spur 75 = .ok (.getfield 28, 3) := by decide +kernel
theorem dX5_spur_78 : decode cX5_spur 78 = .ok (.iload_n 2, 1) := by decide +kernel
theorem dX5_spur_79 : decode cX5_spur 79 = .ok (.invokevirtual 199, 3) := by decide +kernel
theorem dX5_spur_82 : decode cX5_spur 82 = .ok (.ifCond .eq 57, 3) := by decide +kernel
theorem dX5_spur_85 : decode cX5_spur 85 = .ok (.aload_n 0, 1) := by decide +kernel
theorem dX5_spur_86 : decode cX5_spur 86 = .ok (.getfield 28, 3) := by decide +kernel
theorem dX5_spur_89 : decode cX5_spur 89 = .ok (.iconst 1, 1) := by decide +kernel
theorem dX5_spur_90 : decode cX5_spur 90 = .ok (.iload_n 1, 1) := by decide +kernel
theorem dX5_spur_91 : decode cX5_spur 91 = .ok (.ishl, 1) := by decide +kernel
theorem dX5_spur_92 : decode cX5_spur 92 = .ok (.invokevirtual 199, 3) := by decide +kernel
theorem dX5_spur_95 : decode cX5_spur 95 = .ok (.ifCond .eq 7, 3) := by decide +kernel
theorem dX5_spur_98 : decode cX5_spur 98 = .ok (.iconst 0, 1) := by decide +kernel
theorem dX5_spur_99 : decode cX5_spur 99 = .ok (.goto 19, 3) := by decide +kernel
theorem dX5_spur_102 : decode cX5_spur 102 = .ok (.sipush 8000, 3) := by decide +kernel
theorem dX5_spur_105 : decode cX5_spur 105 = .ok (.aload_n 0, 1) := by decide +kernel
theorem dX5_spur_106 : decode cX5_spur 106 = .ok (.getfield 49, 3) := by decide +kernel
theorem dX5_spur_109 : decode cX5_spur 109 = .ok (.getfield 205, 3) := by decide +kernel
theorem dX5_spur_112 : decode cX5_spur 112 = .ok (.iload_n 1, 1) := by decide +kernel
theorem dX5_spur_113 : decode cX5_spur 113 = .ok (.iaload, 1) := by decide +kernel
theorem dX5_spur_114 : decode cX5_spur 114 = .ok (.iload 4, 2) := by decide +kernel
theorem dX5_spur_116 : decode cX5_spur 116 = .ok (.isub, 1) := by decide +kernel
theorem dX5_spur_117 : decode cX5_spur 117 = .ok (.imul, 1) := by decide +kernel
theorem dX5_spur_118 : decode cX5_spur 118 = .ok (.istore 5, 2) := by decide +kernel
theorem dX5_spur_120 : decode cX5_spur 120 = .ok (.iload_n 3, 1) := by decide +kernel
theorem dX5_spur_121 : decode cX5_spur 121 = .ok (.aload_n 0, 1) := by decide +kernel
theorem dX5_spur_122 : decode cX5_spur 122 = .ok (.getfield 28, 3) := by decide +kernel
theorem dX5_spur_125 : decode cX5_spur 125 = .ok (.iload 4, 2) := by decide +kernel
theorem dX5_spur_127 : decode cX5_spur 127 = .ok (.invokevirtual 212, 3) := by decide +kernel
theorem dX5_spur_130 : decode cX5_spur 130 = .ok (.iload 5, 2) := by decide +kernel
theorem dX5_spur_132 : decode cX5_spur 132 = .ok (.invokestatic 202, 3) := by decide +kernel
theorem dX5_spur_135 : decode cX5_spur 135 = .ok (.invokestatic 215, 3) := by decide +kernel
theorem dX5_spur_138 : decode cX5_spur 138 = .ok (.istore_n 3, 1) := by decide +kernel
theorem dX5_spur_139 : decode cX5_spur 139 = .ok (.iinc 4 1, 3) := by decide +kernel
theorem dX5_spur_142 : decode cX5_spur 142 = .ok (.goto (-90), 3) := by decide +kernel
theorem dX5_spur_145 : decode cX5_spur 145 = .ok (.iload_n 3, 1) := by decide +kernel
theorem dX5_spur_146 : decode cX5_spur 146 = .ok (.aload_n 0, 1) := by decide +kernel
theorem dX5_spur_147 : decode cX5_spur 147 = .ok (.getfield 42, 3) := by decide +kernel
theorem dX5_spur_150 : decode cX5_spur 150 = .ok (.getfield 181, 3) := by decide +kernel
theorem dX5_spur_153 : decode cX5_spur 153 = .ok (.iload_n 1, 1) := by decide +kernel
theorem dX5_spur_154 : decode cX5_spur 154 = .ok (.iaload, 1) := by decide +kernel
theorem dX5_spur_155 : decode cX5_spur 155 = .ok (.if_icmp .le 8, 3) := by decide +kernel
theorem dX5_spur_158 : decode cX5_spur 158 = .ok (.bipush (-4), 2) := by decide +kernel
theorem dX5_spur_160 : decode cX5_spur 160 = .ok (.goto 4, 3) := by decide +kernel
theorem dX5_spur_163 : decode cX5_spur 163 = .ok (.iload_n 3, 1) := by decide +kernel
theorem dX5_spur_164 : decode cX5_spur 164 = .ok (.ireturn, 1) := by decide +kernel
theorem dX5_laws_0 : decode cX5_laws 0 = .ok (.aload_n 0, 1) := by decide +kernel
theorem dX5_laws_1 : decode cX5_laws 1 = .ok (.iload_n 1, 1) := by decide +kernel
theorem dX5_laws_2 : decode cX5_laws 2 = .ok (.invokevirtual 224, 3) := by decide +kernel
theorem dX5_laws_5 : decode cX5_laws 5 = .ok (.ifCond .eq 22, 3) := by decide +kernel
theorem dX5_laws_8 : decode cX5_laws 8 = .ok (.iload_n 2, 1) := by decide +kernel
theorem dX5_laws_9 : decode cX5_laws 9 = .ok (.iconst 0, 1) := by decide +kernel
theorem dX5_laws_10 : decode cX5_laws 10 = .ok (.bipush 99, 2) := by decide +kernel
theorem dX5_laws_12 : decode cX5_laws 12 = .ok (.invokestatic 66, 3) := by decide +kernel
theorem dX5_laws_15 : decode cX5_laws 15 = .ok (.ifCond .eq 12, 3) := by decide +kernel
theorem dX5_laws_18 : decode cX5_laws 18 = .ok (.iload_n 3, 1) := by decide +kernel
theorem dX5_laws_19 : decode cX5_laws 19 = .ok (.iconst 0, 1) := by decide +kernel
theorem dX5_laws_20 : decode cX5_laws 20 = .ok (.iconst 1, 1) := by decide +kernel
theorem dX5_laws_21 : decode cX5_laws 21 = .ok (.invokestatic 66, 3) := by decide +kernel
theorem dX5_laws_24 : decode cX5_laws 24 = .ok (.ifCond .ne 6, 3) := by decide +kernel
theorem dX5_laws_27 : decode cX5_laws 27 = .ok (.ldc 142, 2) := by decide +kernel
theorem dX5_laws_29 : decode cX5_laws 29 = .ok (.ireturn, 1) := by decide +kernel
theorem dX5_laws_30 : decode cX5_laws 30 = .ok (.iload_n 3, 1) := by decide +kernel
theorem dX5_laws_31 : decode cX5_laws 31 = .ok (.ifCond .ne 10, 3) := by decide +kernel
theorem dX5_laws_34 : decode cX5_laws 34 = .ok (.aload_n 0, 1) := by decide +kernel
theorem dX5_laws_35 : decode cX5_laws 35 = .ok (.iload_n 1, 1) := by decide +kernel
theorem dX5_laws_36 : decode cX5_laws 36 = .ok (.iload_n 2, 1) := by decide +kernel
theorem dX5_laws_37 : decode cX5_laws 37 = .ok (.invokevirtual 227, 3) := by decide +kernel
theorem dX5_laws_40 : decode cX5_laws 40 = .ok (.ireturn, 1) := by decide +kernel
theorem dX5_laws_41 : decode cX5_laws 41 = .ok (.aload_n 0, 1) := by decide +kernel
theorem dX5_laws_42 : decode cX5_laws 42 = .ok (.aload_n 0, 1) := by decide +kernel
theorem dX5_laws_43 : decode cX5_laws 43 = .ok (.iload_n 1, 1) := by decide +kernel
theorem dX5_laws_44 : decode cX5_laws 44 = .ok (.invokevirtual 230, 3) := by decide +kernel
theorem dX5_laws_47 : decode cX5_laws 47 = .ok (.iload_n 1, 1) := by decide +kernel
theorem dX5_laws_48 : decode cX5_laws 48 = .ok (.invokestatic 234, 3) := by decide +kernel
theorem dX5_laws_51 : decode cX5_laws 51 = .ok (.iload_n 2, 1) := by decide +kernel
theorem dX5_laws_52 : decode cX5_laws 52 = .ok (.invokevirtual 177, 3) := by decide +kernel
theorem dX5_laws_55 : decode cX5_laws 55 = .ok (.istore 4, 2) := by decide +kernel
theorem dX5_laws_57 : decode cX5_laws 57 = .ok (.iload 4, 2) := by decide +kernel
theorem dX5_laws_59 : decode cX5_laws 59 = .ok (.bipush (-4), 2) := by decide +kernel
theorem dX5_laws_61 : decode cX5_laws 61 = .ok (.if_icmp .ne 8, 3) := by decide +kernel
theorem dX5_laws_64 : decode cX5_laws 64 = .ok (.ldc 143, 2) := by decide +kernel
theorem dX5_laws_66 : decode cX5_laws 66 = .ok (.goto 5, 3) := by decide +kernel
theorem dX5_laws_69 : decode cX5_laws 69 = .ok (.iload 4, 2) := by decide +kernel
theorem dX5_laws_71 : decode cX5_laws 71 = .ok (.ireturn, 1) := by decide +kernel
theorem dX5_bestLaws_0 : decode cX5_bestLaws 0 = .ok (.iload_n 1, 1) := by decide +kernel
theorem dX5_bestLaws_1 : decode cX5_bestLaws 1 = .ok (.iconst 0, 1) := by decide +kernel
theorem dX5_bestLaws_2 : decode cX5_bestLaws 2 = .ok (.bipush 99, 2) := by decide +kernel
theorem dX5_bestLaws_4 : decode cX5_bestLaws 4 = .ok (.invokestatic 66, 3) := by decide +kernel
theorem dX5_bestLaws_7 : decode cX5_bestLaws 7 = .ok (.ifCond .eq 12, 3) := by decide +kernel
theorem dX5_bestLaws_10 : decode cX5_bestLaws 10 = .ok (.iload_n 2, 1) := by decide +kernel
theorem dX5_bestLaws_11 : decode cX5_bestLaws 11 = .ok (.iconst 0, 1) := by decide +kernel
theorem dX5_bestLaws_12 : decode cX5_bestLaws 12 = .ok (.iconst 1, 1) := by decide +kernel
theorem dX5_bestLaws_13 : decode cX5_bestLaws 13 = .ok (.invokestatic 66, 3) := by decide +kernel
theorem dX5_bestLaws_16 : decode cX5_bestLaws 16 = .ok (.ifCond .ne 6, 3) := by decide +kernel
theorem dX5_bestLaws_19 : decode cX5_bestLaws 19 = .ok (.ldc 142, 2) := by decide +kernel
theorem dX5_bestLaws_21 : decode cX5_bestLaws 21 = .ok (.ireturn, 1) := by decide +kernel
theorem dX5_bestLaws_22 : decode cX5_bestLaws 22 = .ok (.iconst 0, 1) := by decide +kernel
theorem dX5_bestLaws_23 : decode cX5_bestLaws 23 = .ok (.istore_n 3, 1) := by decide +kernel
theorem dX5_bestLaws_24 : decode cX5_bestLaws 24 = .ok (.aload_n 0, 1) := by decide +kernel
theorem dX5_bestLaws_25 : decode cX5_bestLaws 25 = .ok (.iconst 0, 1) := by decide +kernel
theorem dX5_bestLaws_26 : decode cX5_bestLaws 26 = .ok (.iload_n 1, 1) := by decide +kernel
theorem dX5_bestLaws_27 : decode cX5_bestLaws 27 = .ok (.invokevirtual 227, 3) := by decide +kernel
theorem dX5_bestLaws_30 : decode cX5_bestLaws 30 = .ok (.istore 4, 2) := by decide +kernel
theorem dX5_bestLaws_32 : decode cX5_bestLaws 32 = .ok (.iconst 1, 1) := by decide +kernel
theorem dX5_bestLaws_33 : decode cX5_bestLaws 33 = .ok (.istore 5, 2) := by decide +kernel
theorem dX5_bestLaws_35 : decode cX5_bestLaws 35 = .ok (.iload 5, 2) := by decide +kernel
theorem dX5_bestLaws_37 : decode cX5_bestLaws 37 = .ok (.bipush 16, 2) := by decide +kernel
theorem dX5_bestLaws_39 : decode cX5_bestLaws 39 = .ok (.if_icmp .ge 41, 3) := by decide +kernel
theorem dX5_bestLaws_42 : decode cX5_bestLaws 42 = .ok (.aload_n 0, 1) := by decide +kernel
theorem dX5_bestLaws_43 : decode cX5_bestLaws 43 = .ok (.iload 5, 2) := by decide +kernel
theorem dX5_bestLaws_45 : decode cX5_bestLaws 45 = .ok (.invokevirtual 224, 3) := by decide +kernel
theorem dX5_bestLaws_48 : decode cX5_bestLaws 48 = .ok (.ifCond .eq 26, 3) := by decide +kernel
theorem dX5_bestLaws_51 : decode cX5_bestLaws 51 = .ok (.aload_n 0, 1) := by decide +kernel
theorem dX5_bestLaws_52 : decode cX5_bestLaws 52 = .ok (.iload 5, 2) := by decide +kernel
theorem dX5_bestLaws_54 : decode cX5_bestLaws 54 = .ok (.iload_n 1, 1) := by decide +kernel
theorem dX5_bestLaws_55 : decode cX5_bestLaws 55 = .ok (.invokevirtual 227, 3) := by decide +kernel
theorem dX5_bestLaws_58 : decode cX5_bestLaws 58 = .ok (.istore 6, 2) := by decide +kernel
theorem dX5_bestLaws_60 : decode cX5_bestLaws 60 = .ok (.iload 6, 2) := by decide +kernel
theorem dX5_bestLaws_62 : decode cX5_bestLaws 62 = .ok (.iload 4, 2) := by decide +kernel
theorem dX5_bestLaws_64 : decode cX5_bestLaws 64 = .ok (.if_icmp .le 10, 3) := by decide +kernel
theorem dX5_bestLaws_67 : decode cX5_bestLaws 67 = .ok (.iload 5, 2) := by decide +kernel
theorem dX5_bestLaws_69 : decode cX5_bestLaws 69 = .ok (.istore_n 3, 1) := by decide +kernel
theorem dX5_bestLaws_70 : decode cX5_bestLaws 70 = .ok (.iload 6, 2) := by decide +kernel
theorem dX5_bestLaws_72 : decode cX5_bestLaws 72 = .ok (.istore 4, 2) := by decide +kernel
theorem dX5_bestLaws_74 : decode cX5_bestLaws 74 = .ok (.iinc 5 1, 3) := by decide +kernel
theorem dX5_bestLaws_77 : decode cX5_bestLaws 77 = .ok (.goto (-42), 3) := by decide +kernel
theorem dX5_bestLaws_80 : decode cX5_bestLaws 80 = .ok (.iload_n 2, 1) := by decide +kernel
theorem dX5_bestLaws_81 : decode cX5_bestLaws 81 = .ok (.ifCond .ne 7, 3) := by decide +kernel
theorem dX5_bestLaws_84 : decode cX5_bestLaws 84 = .ok (.iload_n 3, 1) := by decide +kernel
theorem dX5_bestLaws_85 : decode cX5_bestLaws 85 = .ok (.goto 5, 3) := by decide +kernel
theorem dX5_bestLaws_88 : decode cX5_bestLaws 88 = .ok (.iload 4, 2) := by decide +kernel
theorem dX5_bestLaws_90 : decode cX5_bestLaws 90 = .ok (.ireturn, 1) := by decide +kernel
theorem dX5_learn_0 : decode cX5_learn 0 = .ok (.iload_n 1, 1) := by decide +kernel
theorem dX5_learn_1 : decode cX5_learn 1 = .ok (.invokestatic 122, 3) := by decide +kernel
theorem dX5_learn_4 : decode cX5_learn 4 = .ok (.ifCond .eq 22, 3) := by decide +kernel
theorem dX5_learn_7 : decode cX5_learn 7 = .ok (.iload_n 2, 1) := by decide +kernel
theorem dX5_learn_8 : decode cX5_learn 8 = .ok (.iconst 0, 1) := by decide +kernel
theorem dX5_learn_9 : decode cX5_learn 9 = .ok (.bipush 99, 2) := by decide +kernel
theorem dX5_learn_11 : decode cX5_learn 11 = .ok (.invokestatic 66, 3) := by decide +kernel
theorem dX5_learn_14 : decode cX5_learn 14 = .ok (.ifCond .eq 12, 3) := by decide +kernel
theorem dX5_learn_17 : decode cX5_learn 17 = .ok (.iload_n 3, 1) := by decide +kernel
theorem dX5_learn_18 : decode cX5_learn 18 = .ok (.iconst 0, 1) := by decide +kernel
theorem dX5_learn_19 : decode cX5_learn 19 = .ok (.iconst 1, 1) := by decide +kernel
theorem dX5_learn_20 : decode cX5_learn 20 = .ok (.invokestatic 66, 3) := by decide +kernel
theorem dX5_learn_23 : decode cX5_learn 23 = .ok (.ifCond .ne 5, 3) := by decide +kernel
theorem dX5_learn_26 : decode cX5_learn 26 = .ok (.iconst (-1), 1) := by decide +kernel
theorem dX5_learn_27 : decode cX5_learn 27 = .ok (.ireturn, 1) := by decide +kernel
theorem dX5_learn_28 : decode cX5_learn 28 = .ok (.iload_n 1, 1) := by decide +kernel
theorem dX5_learn_29 : decode cX5_learn 29 = .ok (.istore 4, 2) := by decide +kernel
theorem dX5_learn_31 : decode cX5_learn 31 = .ok (.iconst 0, 1) := by decide +kernel
theorem dX5_learn_32 : decode cX5_learn 32 = .ok (.istore 5, 2) := by decide +kernel
theorem dX5_learn_34 : decode cX5_learn 34 = .ok (.iload 5, 2) := by decide +kernel
theorem dX5_learn_36 : decode cX5_learn 36 = .ok (.bipush 99, 2) := by decide +kernel
theorem dX5_learn_38 : decode cX5_learn 38 = .ok (.if_icmp .gt 49, 3) := by decide +kernel
theorem dX5_learn_41 : decode cX5_learn 41 = .ok (.iload_n 3, 1) := by decide +kernel
theorem dX5_learn_42 : decode cX5_learn 42 = .ok (.ifCond .ne 12, 3) := by decide +kernel
theorem dX5_learn_45 : decode cX5_learn 45 = .ok (.iload 5, 2) := by decide +kernel
theorem dX5_learn_47 : decode cX5_learn 47 = .ok (.iload_n 2, 1) := by decide +kernel
theorem dX5_learn_48 : decode cX5_learn 48 = .ok (.if_icmp .ne 6, 3) := by decide +kernel
theorem dX5_learn_51 : decode cX5_learn 51 = .ok (.iload 4, 2) := by decide +kernel
theorem dX5_learn_53 : decode cX5_learn 53 = .ok (.ireturn, 1) := by decide +kernel
theorem dX5_learn_54 : decode cX5_learn 54 = .ok (.aload_n 0, 1) := by decide +kernel
theorem dX5_learn_55 : decode cX5_learn 55 = .ok (.iload 4, 2) := by decide +kernel
theorem dX5_learn_57 : decode cX5_learn 57 = .ok (.invokevirtual 237, 3) := by decide +kernel
theorem dX5_learn_60 : decode cX5_learn 60 = .ok (.istore 6, 2) := by decide +kernel
theorem dX5_learn_62 : decode cX5_learn 62 = .ok (.iload_n 3, 1) := by decide +kernel
theorem dX5_learn_63 : decode cX5_learn 63 = .ok (.iconst 1, 1) := by decide +kernel
theorem dX5_learn_64 : decode cX5_learn 64 = .ok (.if_icmp .ne 13, 3) := by decide +kernel
theorem dX5_learn_67 : decode cX5_learn 67 = .ok (.iload 6, 2) := by decide +kernel
theorem dX5_learn_69 : decode cX5_learn 69 = .ok (.iload 4, 2) := by decide +kernel
theorem dX5_learn_71 : decode cX5_learn 71 = .ok (.if_icmp .ne 6, 3) := by decide +kernel
theorem dX5_learn_74 : decode cX5_learn 74 = .ok (.iload 5, 2) := by decide +kernel
theorem dX5_learn_76 : decode cX5_learn 76 = .ok (.ireturn, 1) := by decide +kernel
theorem dX5_learn_77 : decode cX5_learn 77 = .ok (.iload 6, 2) := by decide +kernel
theorem dX5_learn_79 : decode cX5_learn 79 = .ok (.istore 4, 2) := by decide +kernel
theorem dX5_learn_81 : decode cX5_learn 81 = .ok (.iinc 5 1, 3) := by decide +kernel
theorem dX5_learn_84 : decode cX5_learn 84 = .ok (.goto (-50), 3) := by decide +kernel
theorem dX5_learn_87 : decode cX5_learn 87 = .ok (.bipush (-4), 2) := by decide +kernel
theorem dX5_learn_89 : decode cX5_learn 89 = .ok (.ireturn, 1) := by decide +kernel
theorem dX5_sheet_0 : decode cX5_sheet 0 = .ok (.iload_n 1, 1) := by decide +kernel
theorem dX5_sheet_1 : decode cX5_sheet 1 = .ok (.iconst 0, 1) := by decide +kernel
theorem dX5_sheet_2 : decode cX5_sheet 2 = .ok (.iconst 3, 1) := by decide +kernel
theorem dX5_sheet_3 : decode cX5_sheet 3 = .ok (.invokestatic 66, 3) := by decide +kernel
theorem dX5_sheet_6 : decode cX5_sheet 6 = .ok (.ifCond .eq 18, 3) := by decide +kernel
theorem dX5_sheet_9 : decode cX5_sheet 9 = .ok (.iload_n 2, 1) := by decide +kernel
theorem dX5_sheet_10 : decode cX5_sheet 10 = .ok (.iconst 0, 1) := by decide +kernel
theorem dX5_sheet_11 : decode cX5_sheet 11 = .ok (.iconst 2, 1) := by decide +kernel
theorem dX5_sheet_12 : decode cX5_sheet 12 = .ok (.invokestatic 66, 3) := by decide +kernel
theorem dX5_sheet_15 : decode cX5_sheet 15 = .ok (.ifCond .eq 9, 3) := by decide +kernel
theorem dX5_sheet_18 : decode cX5_sheet 18 = .ok (.iload_n 3, 1) := by decide +kernel
theorem dX5_sheet_19 : decode cX5_sheet 19 = .ok (.bipush 40, 2) := by decide +kernel
theorem dX5_sheet_21 : decode cX5_sheet 21 = .ok (.if_icmp .le 5, 3) := by decide +kernel
theorem dX5_sheet_24 : decode cX5_sheet 24 = .ok (.iconst (-1), 1) := by decide +kernel
theorem dX5_sheet_25 : decode cX5_sheet 25 = .ok (.ireturn, 1) := by decide +kernel
theorem dX5_sheet_26 : decode cX5_sheet 26 = .ok (.iload_n 3, 1) := by decide +kernel
theorem dX5_sheet_27 : decode cX5_sheet 27 = .ok (.ifCond .ge 6, 3) := by decide +kernel
theorem dX5_sheet_30 : decode cX5_sheet 30 = .ok (.bipush (-14), 2) := by decide +kernel
theorem dX5_sheet_32 : decode cX5_sheet 32 = .ok (.ireturn, 1) := by decide +kernel
theorem dX5_sheet_33 : decode cX5_sheet 33 = .ok (.aload_n 0, 1) := by decide +kernel
theorem dX5_sheet_34 : decode cX5_sheet 34 = .ok (.getfield 34, 3) := by decide +kernel
theorem dX5_sheet_37 : decode cX5_sheet 37 = .ok (.iload_n 1, 1) := by decide +kernel
theorem dX5_sheet_38 : decode cX5_sheet 38 = .ok (.aaload, 1) := by decide +kernel
theorem dX5_sheet_39 : decode cX5_sheet 39 = .ok (.iload_n 2, 1) := by decide +kernel
theorem dX5_sheet_40 : decode cX5_sheet 40 = .ok (.iload_n 3, 1) := by decide +kernel
theorem dX5_sheet_41 : decode cX5_sheet 41 = .ok (.invokevirtual 240, 3) := by decide +kernel
theorem dX5_sheet_44 : decode cX5_sheet 44 = .ok (.iconst 1, 1) := by decide +kernel
theorem dX5_sheet_45 : decode cX5_sheet 45 = .ok (.ireturn, 1) := by decide +kernel
theorem dX5_lay_0 : decode cX5_lay 0 = .ok (.iload_n 1, 1) := by decide +kernel
theorem dX5_lay_1 : decode cX5_lay 1 = .ok (.iconst 0, 1) := by decide +kernel
theorem dX5_lay_2 : decode cX5_lay 2 = .ok (.iconst 3, 1) := by decide +kernel
theorem dX5_lay_3 : decode cX5_lay 3 = .ok (.invokestatic 66, 3) := by decide +kernel
theorem dX5_lay_6 : decode cX5_lay 6 = .ok (.ifCond .ne 5, 3) := by decide +kernel
theorem dX5_lay_9 : decode cX5_lay 9 = .ok (.iconst (-1), 1) := by decide +kernel
theorem dX5_lay_10 : decode cX5_lay 10 = .ok (.ireturn, 1) := by decide +kernel
theorem dX5_lay_11 : decode cX5_lay 11 = .ok (.aload_n 0, 1) := by decide +kernel
theorem dX5_lay_12 : decode cX5_lay 12 = .ok (.getfield 34, 3) := by decide +kernel
theorem dX5_lay_15 : decode cX5_lay 15 = .ok (.iload_n 1, 1) := by decide +kernel
theorem dX5_lay_16 : decode cX5_lay 16 = .ok (.aaload, 1) := by decide +kernel
theorem dX5_lay_17 : decode cX5_lay 17 = .ok (.astore 4, 2) := by decide +kernel
theorem dX5_lay_19 : decode cX5_lay 19 = .ok (.aload 4, 2) := by decide +kernel
theorem dX5_lay_21 : decode cX5_lay 21 = .ok (.aload 4, 2) := by decide +kernel
theorem dX5_lay_23 : decode cX5_lay 23 = .ok (.getfield 244, 3) := by decide +kernel
theorem dX5_lay_26 : decode cX5_lay 26 = .ok (.iload_n 2, 1) := by decide +kernel
theorem dX5_lay_27 : decode cX5_lay 27 = .ok (.iconst 1, 1) := by decide +kernel
theorem dX5_lay_28 : decode cX5_lay 28 = .ok (.invokevirtual 247, 3) := by decide +kernel
theorem dX5_lay_31 : decode cX5_lay 31 = .ok (.istore 5, 2) := by decide +kernel
theorem dX5_lay_33 : decode cX5_lay 33 = .ok (.iload 5, 2) := by decide +kernel
theorem dX5_lay_35 : decode cX5_lay 35 = .ok (.ifCond .eq 9, 3) := by decide +kernel
theorem dX5_lay_38 : decode cX5_lay 38 = .ok (.bipush (-10), 2) := by decide +kernel
theorem dX5_lay_40 : decode cX5_lay 40 = .ok (.iload 5, 2) := by decide +kernel
theorem dX5_lay_42 : decode cX5_lay 42 = .ok (.isub, 1) := by decide +kernel
theorem dX5_lay_43 : decode cX5_lay 43 = .ok (.ireturn, 1) := by decide +kernel
theorem dX5_lay_44 : decode cX5_lay 44 = .ok (.aload 4, 2) := by decide +kernel
theorem dX5_lay_46 : decode cX5_lay 46 = .ok (.getfield 251, 3) := by decide +kernel
theorem dX5_lay_49 : decode cX5_lay 49 = .ok (.iload_n 2, 1) := by decide +kernel
theorem dX5_lay_50 : decode cX5_lay 50 = .ok (.aload 4, 2) := by decide +kernel
theorem dX5_lay_52 : decode cX5_lay 52 = .ok (.iload_n 3, 1) := by decide +kernel
theorem dX5_lay_53 : decode cX5_lay 53 = .ok (.invokevirtual 254, 3) := by decide +kernel
theorem dX5_lay_56 : decode cX5_lay 56 = .ok (.iastore, 1) := by decide +kernel
theorem dX5_lay_57 : decode cX5_lay 57 = .ok (.iconst 1, 1) := by decide +kernel
theorem dX5_lay_58 : decode cX5_lay 58 = .ok (.ireturn, 1) := by decide +kernel
theorem dX5_read_0 : decode cX5_read 0 = .ok (.iload_n 1, 1) := by decide +kernel
theorem dX5_read_1 : decode cX5_read 1 = .ok (.iconst 0, 1) := by decide +kernel
theorem dX5_read_2 : decode cX5_read 2 = .ok (.iconst 3, 1) := by decide +kernel
theorem dX5_read_3 : decode cX5_read 3 = .ok (.invokestatic 66, 3) := by decide +kernel
theorem dX5_read_6 : decode cX5_read 6 = .ok (.ifCond .eq 23, 3) := by decide +kernel
theorem dX5_read_9 : decode cX5_read 9 = .ok (.iload_n 2, 1) := by decide +kernel
theorem dX5_read_10 : decode cX5_read 10 = .ok (.iconst 0, 1) := by decide +kernel
theorem dX5_read_11 : decode cX5_read 11 = .ok (.iconst 2, 1) := by decide +kernel
theorem dX5_read_12 : decode cX5_read 12 = .ok (.invokestatic 66, 3) := by decide +kernel
theorem dX5_read_15 : decode cX5_read 15 = .ok (.ifCond .eq 14, 3) := by decide +kernel
theorem dX5_read_18 : decode cX5_read 18 = .ok (.iload 4, 2) := by decide +kernel
theorem dX5_read_20 : decode cX5_read 20 = .ok (.iconst 0, 1) := by decide +kernel
theorem dX5_read_21 : decode cX5_read 21 = .ok (.bipush 8, 2) := by decide +kernel
theorem dX5_read_23 : decode cX5_read 23 = .ok (.invokestatic 66, 3) := by decide +kernel
theorem dX5_read_26 : decode cX5_read 26 = .ok (.ifCond .ne 5, 3) := by decide +kernel
theorem dX5_read_29 : decode cX5_read 29 = .ok (.iconst (-1), 1) := by decide +kernel
theorem dX5_read_30 : decode cX5_read 30 = .ok (.ireturn, 1) := by decide +kernel
theorem dX5_read_31 : decode cX5_read 31 = .ok (.aload_n 0, 1) := by decide +kernel
theorem dX5_read_32 : decode cX5_read 32 = .ok (.getfield 34, 3) := by decide +kernel
theorem dX5_read_35 : decode cX5_read 35 = .ok (.iload_n 1, 1) := by decide +kernel
theorem dX5_read_36 : decode cX5_read 36 = .ok (.aaload, 1) := by decide +kernel
theorem dX5_read_37 : decode cX5_read 37 = .ok (.astore 5, 2) := by decide +kernel
theorem dX5_read_39 : decode cX5_read 39 = .ok (.iconst 0, 1) := by decide +kernel
theorem dX5_read_40 : decode cX5_read 40 = .ok (.istore 6, 2) := by decide +kernel
theorem dX5_read_42 : decode cX5_read 42 = .ok (.iconst 0, 1) := by decide +kernel
theorem dX5_read_43 : decode cX5_read 43 = .ok (.istore 7, 2) := by decide +kernel
theorem dX5_read_45 : decode cX5_read 45 = .ok (.iconst 0, 1) := by decide +kernel
theorem dX5_read_46 : decode cX5_read 46 = .ok (.istore 8, 2) := by decide +kernel
theorem dX5_read_48 : decode cX5_read 48 = .ok (.iload 8, 2) := by decide +kernel
theorem dX5_read_50 : decode cX5_read 50 = .ok (.iload 4, 2) := by decide +kernel
theorem dX5_read_52 : decode cX5_read 52 = .ok (.if_icmp .ge 75, 3) := by decide +kernel
theorem dX5_read_55 : decode cX5_read 55 = .ok (.iload 7, 2) := by decide +kernel
theorem dX5_read_57 : decode cX5_read 57 = .ok (.ifCond .ne 70, 3) := by decide +kernel
theorem dX5_read_60 : decode cX5_read 60 = .ok (.iload_n 3, 1) := by decide +kernel
theorem dX5_read_61 : decode cX5_read 61 = .ok (.iconst 4, 1) := by decide +kernel
theorem dX5_read_62 : decode cX5_read 62 = .ok (.iload 8, 2) := by decide +kernel
theorem dX5_read_64 : decode cX5_read 64 = .ok (.imul, 1) := by decide +kernel
theorem dX5_read_65 : decode cX5_read 65 = .ok (.iadd, 1) := by decide +kernel
theorem dX5_read_66 : decode cX5_read 66 = .ok (.istore 9, 2) := by decide +kernel
theorem dX5_read_68 : decode cX5_read 68 = .ok (.aload 5, 2) := by decide +kernel
theorem dX5_read_70 : decode cX5_read 70 = .ok (.iload_n 2, 1) := by decide +kernel
theorem dX5_read_71 : decode cX5_read 71 = .ok (.iload 9, 2) := by decide +kernel
theorem dX5_read_73 : decode cX5_read 73 = .ok (.iconst 4, 1) := by decide +kernel
theorem dX5_read_74 : decode cX5_read 74 = .ok (.invokevirtual 247, 3) := by decide +kernel
theorem dX5_read_77 : decode cX5_read 77 = .ok (.istore 7, 2) := by decide +kernel
theorem dX5_read_79 : decode cX5_read 79 = .ok (.iload 7, 2) := by decide +kernel
theorem dX5_read_81 : decode cX5_read 81 = .ok (.ifCond .ne 40, 3) := by decide +kernel
theorem dX5_read_84 : decode cX5_read 84 = .ok (.aload 5, 2) := by decide +kernel
theorem dX5_read_86 : decode cX5_read 86 = .ok (.iload 9, 2) := by decide +kernel
theorem dX5_read_88 : decode cX5_read 88 = .ok (.invokevirtual 257, 3) := by decide +kernel
theorem dX5_read_91 : decode cX5_read 91 = .ok (.ifCond .ne 9, 3) := by decide +kernel
theorem dX5_read_94 : decode cX5_read 94 = .ok (.bipush (-20), 2) := by decide +kernel
theorem dX5_read_96 : decode cX5_read 96 = .ok (.iload 8, 2) := by decide +kernel
theorem dX5_read_98 : decode cX5_read 98 = .ok (.isub, 1) := by decide +kernel
theorem dX5_read_99 : decode cX5_read 99 = .ok (.ireturn, 1) := by decide +kernel
theorem dX5_read_100 : decode cX5_read 100 = .ok (.aload_n 0, 1) := by decide +kernel
theorem dX5_read_101 : decode cX5_read 101 = .ok (.getfield 42, 3) := by decide +kernel
theorem dX5_read_104 : decode cX5_read 104 = .ok (.getfield 87, 3) := by decide +kernel
theorem dX5_read_107 : decode cX5_read 107 = .ok (.iload 8, 2) := by decide +kernel
theorem dX5_read_109 : decode cX5_read 109 = .ok (.iadd, 1) := by decide +kernel
theorem dX5_read_110 : decode cX5_read 110 = .ok (.bipush 8, 2) := by decide +kernel
theorem dX5_read_112 : decode cX5_read 112 = .ok (.if_icmp .lt 6, 3) := by decide +kernel
theorem dX5_read_115 : decode cX5_read 115 = .ok (.bipush (-3), 2) := by decide +kernel
theorem dX5_read_117 : decode cX5_read 117 = .ok (.ireturn, 1) := by decide +kernel
theorem dX5_read_118 : decode cX5_read 118 = .ok (.iinc 6 1, 3) := by decide +kernel
theorem dX5_read_121 : decode cX5_read 121 = .ok (.iinc 8 1, 3) := by decide +kernel
theorem dX5_read_124 : decode cX5_read 124 = .ok (.goto (-76), 3) := by decide +kernel
theorem dX5_read_127 : decode cX5_read 127 = .ok (.iconst 0, 1) := by decide +kernel
theorem dX5_read_128 : decode cX5_read 128 = .ok (.istore 8, 2) := by decide +kernel
theorem dX5_read_130 : decode cX5_read 130 = .ok (.iload 8, 2) := by decide +kernel
theorem dX5_read_132 : decode cX5_read 132 = .ok (.iload 6, 2) := by decide +kernel
theorem dX5_read_134 : decode cX5_read 134 = .ok (.if_icmp .ge 24, 3) := by decide +kernel
theorem dX5_read_137 : decode cX5_read 137 = .ok (.aload 5, 2) := by decide +kernel
theorem dX5_read_139 : decode cX5_read 139 = .ok (.iload_n 3, 1) := by decide +kernel
theorem dX5_read_140 : decode cX5_read 140 = .ok (.iconst 4, 1) := by decide +kernel
theorem dX5_read_141 : decode cX5_read 141 = .ok (.iload 8, 2) := by decide +kernel
theorem dX5_read_143 : decode cX5_read 143 = .ok (.imul, 1) := by decide +kernel
theorem dX5_read_144 : decode cX5_read 144 = .ok (.iadd, 1) := by decide +kernel
theorem dX5_read_145 : decode cX5_read 145 = .ok (.aload_n 0, 1) := by decide +kernel
theorem dX5_read_146 : decode cX5_read 146 = .ok (.getfield 42, 3) := by decide +kernel
theorem dX5_read_149 : decode cX5_read 149 = .ok (.invokevirtual 260, 3) := by decide +kernel
theorem dX5_read_152 : decode cX5_read 152 = .ok (.iinc 8 1, 3) := by decide +kernel
theorem dX5_read_155 : decode cX5_read 155 = .ok (.goto (-25), 3) := by decide +kernel
theorem dX5_read_158 : decode cX5_read 158 = .ok (.aload_n 0, 1) := by decide +kernel
theorem dX5_read_159 : decode cX5_read 159 = .ok (.iload 7, 2) := by decide +kernel
theorem dX5_read_161 : decode cX5_read 161 = .ok (.putfield 56, 3) := by decide +kernel
theorem dX5_read_164 : decode cX5_read 164 = .ok (.iload 6, 2) := by decide +kernel
theorem dX5_read_166 : decode cX5_read 166 = .ok (.ireturn, 1) := by decide +kernel
theorem dX5_torn_0 : decode cX5_torn 0 = .ok (.aload_n 0, 1) := by decide +kernel
theorem dX5_torn_1 : decode cX5_torn 1 = .ok (.getfield 56, 3) := by decide +kernel
theorem dX5_torn_4 : decode cX5_torn 4 = .ok (.ireturn, 1) := by decide +kernel
theorem dX5_count_0 : decode cX5_count 0 = .ok (.iload_n 1, 1) := by decide +kernel
theorem dX5_count_1 : decode cX5_count 1 = .ok (.tableswitch 111 0 5 #[39, 47, 56, 65, 76, 84], 39) := by decide +kernel
theorem dX5_count_40 : decode cX5_count 40 = .ok (.aload_n 0, 1) := by decide +kernel
theorem dX5_count_41 : decode cX5_count 41 = .ok (.getfield 42, 3) := by decide +kernel
theorem dX5_count_44 : decode cX5_count 44 = .ok (.getfield 87, 3) := by decide +kernel
theorem dX5_count_47 : decode cX5_count 47 = .ok (.ireturn, 1) := by decide +kernel
theorem dX5_count_48 : decode cX5_count 48 = .ok (.aload_n 0, 1) := by decide +kernel
theorem dX5_count_49 : decode cX5_count 49 = .ok (.getfield 42, 3) := by decide +kernel
theorem dX5_count_52 : decode cX5_count 52 = .ok (.iconst 0, 1) := by decide +kernel
theorem dX5_count_53 : decode cX5_count 53 = .ok (.invokevirtual 264, 3) := by decide +kernel
theorem dX5_count_56 : decode cX5_count 56 = .ok (.ireturn, 1) := by decide +kernel
theorem dX5_count_57 : decode cX5_count 57 = .ok (.aload_n 0, 1) := by decide +kernel
theorem dX5_count_58 : decode cX5_count 58 = .ok (.getfield 42, 3) := by decide +kernel
theorem dX5_count_61 : decode cX5_count 61 = .ok (.iconst 4, 1) := by decide +kernel
theorem dX5_count_62 : decode cX5_count 62 = .ok (.invokevirtual 264, 3) := by decide +kernel
theorem dX5_count_65 : decode cX5_count 65 = .ok (.ireturn, 1) := by decide +kernel
theorem dX5_count_66 : decode cX5_count 66 = .ok (.aload_n 0, 1) := by decide +kernel
theorem dX5_count_67 : decode cX5_count 67 = .ok (.getfield 42, 3) := by decide +kernel
theorem dX5_count_70 : decode cX5_count 70 = .ok (.invokevirtual 193, 3) := by decide +kernel
theorem dX5_count_73 : decode cX5_count 73 = .ok (.invokestatic 267, 3) := by decide +kernel
theorem dX5_count_76 : decode cX5_count 76 = .ok (.ireturn, 1) := by decide +kernel
theorem dX5_count_77 : decode cX5_count 77 = .ok (.aload_n 0, 1) := by decide +kernel
theorem dX5_count_78 : decode cX5_count 78 = .ok (.getfield 10, 3) := by decide +kernel
theorem dX5_count_81 : decode cX5_count 81 = .ok (.getfield 59, 3) := by decide +kernel
theorem dX5_count_84 : decode cX5_count 84 = .ok (.ireturn, 1) := by decide +kernel
theorem dX5_count_85 : decode cX5_count 85 = .ok (.aload_n 0, 1) := by decide +kernel
theorem dX5_count_86 : decode cX5_count 86 = .ok (.getfield 34, 3) := by decide +kernel
theorem dX5_count_89 : decode cX5_count 89 = .ok (.iconst 0, 1) := by decide +kernel
theorem dX5_count_90 : decode cX5_count 90 = .ok (.aaload, 1) := by decide +kernel
theorem dX5_count_91 : decode cX5_count 91 = .ok (.getfield 272, 3) := by decide +kernel
theorem dX5_count_94 : decode cX5_count 94 = .ok (.ifCond .ge 8, 3) := by decide +kernel
theorem dX5_count_97 : decode cX5_count 97 = .ok (.bipush (-4), 2) := by decide +kernel
theorem dX5_count_99 : decode cX5_count 99 = .ok (.goto 12, 3) := by decide +kernel
theorem dX5_count_102 : decode cX5_count 102 = .ok (.aload_n 0, 1) := by decide +kernel
theorem dX5_count_103 : decode cX5_count 103 = .ok (.getfield 34, 3) := by decide +kernel
theorem dX5_count_106 : decode cX5_count 106 = .ok (.iconst 0, 1) := by decide +kernel
theorem dX5_count_107 : decode cX5_count 107 = .ok (.aaload, 1) := by decide +kernel
theorem dX5_count_108 : decode cX5_count 108 = .ok (.getfield 272, 3) := by decide +kernel
theorem dX5_count_111 : decode cX5_count 111 = .ok (.ireturn, 1) := by decide +kernel
theorem dX5_count_112 : decode cX5_count 112 = .ok (.iconst (-1), 1) := by decide +kernel
theorem dX5_count_113 : decode cX5_count 113 = .ok (.ireturn, 1) := by decide +kernel
theorem dX5_isWithin_0 : decode cX5_isWithin 0 = .ok (.iload_n 0, 1) := by decide +kernel
theorem dX5_isWithin_1 : decode cX5_isWithin 1 = .ok (.iload_n 1, 1) := by decide +kernel
theorem dX5_isWithin_2 : decode cX5_isWithin 2 = .ok (.if_icmp .lt 12, 3) := by decide +kernel
theorem dX5_isWithin_5 : decode cX5_isWithin 5 = .ok (.iload_n 0, 1) := by decide +kernel
theorem dX5_isWithin_6 : decode cX5_isWithin 6 = .ok (.iload_n 2, 1) := by decide +kernel
theorem dX5_isWithin_7 : decode cX5_isWithin 7 = .ok (.if_icmp .gt 7, 3) := by decide +kernel
theorem dX5_isWithin_10 : decode cX5_isWithin 10 = .ok (.iconst 1, 1) := by decide +kernel
theorem dX5_isWithin_11 : decode cX5_isWithin 11 = .ok (.goto 4, 3) := by decide +kernel
theorem dX5_isWithin_14 : decode cX5_isWithin 14 = .ok (.iconst 0, 1) := by decide +kernel
theorem dX5_isWithin_15 : decode cX5_isWithin 15 = .ok (.ireturn, 1) := by decide +kernel
theorem dX5_isSortAsTold_0 : decode cX5_isSortAsTold 0 = .ok (.iload_n 0, 1) := by decide +kernel
theorem dX5_isSortAsTold_1 : decode cX5_isSortAsTold 1 = .ok (.iconst 1, 1) := by decide +kernel
theorem dX5_isSortAsTold_2 : decode cX5_isSortAsTold 2 = .ok (.bipush 50, 2) := by decide +kernel
theorem dX5_isSortAsTold_4 : decode cX5_isSortAsTold 4 = .ok (.invokestatic 66, 3) := by decide +kernel
theorem dX5_isSortAsTold_7 : decode cX5_isSortAsTold 7 = .ok (.ifCond .eq 37, 3) := by decide +kernel
theorem dX5_isSortAsTold_10 : decode cX5_isSortAsTold 10 = .ok (.iload_n 1, 1) := by decide +kernel
theorem dX5_isSortAsTold_11 : decode cX5_isSortAsTold 11 = .ok (.iconst 0, 1) := by decide +kernel
theorem dX5_isSortAsTold_12 : decode cX5_isSortAsTold 12 = .ok (.bipush 99, 2) := by decide +kernel
theorem dX5_isSortAsTold_14 : decode cX5_isSortAsTold 14 = .ok (.invokestatic 66, 3) := by decide +kernel
theorem dX5_isSortAsTold_17 : decode cX5_isSortAsTold 17 = .ok (.ifCond .eq 27, 3) := by decide +kernel
theorem dX5_isSortAsTold_20 : decode cX5_isSortAsTold 20 = .ok (.iload_n 2, 1) := by decide +kernel
theorem dX5_isSortAsTold_21 : decode cX5_isSortAsTold 21 = .ok (.iconst 0, 1) := by decide +kernel
theorem dX5_isSortAsTold_22 : decode cX5_isSortAsTold 22 = .ok (.bipush 99, 2) := by decide +kernel
theorem dX5_isSortAsTold_24 : decode cX5_isSortAsTold 24 = .ok (.invokestatic 66, 3) := by decide +kernel
theorem dX5_isSortAsTold_27 : decode cX5_isSortAsTold 27 = .ok (.ifCond .eq 17, 3) := by decide +kernel
theorem dX5_isSortAsTold_30 : decode cX5_isSortAsTold 30 = .ok (.iload_n 3, 1) := by decide +kernel
theorem dX5_isSortAsTold_31 : decode cX5_isSortAsTold 31 = .ok (.iconst 0, 1) := by decide +kernel
theorem dX5_isSortAsTold_32 : decode cX5_isSortAsTold 32 = .ok (.bipush 10, 2) := by decide +kernel
theorem dX5_isSortAsTold_34 : decode cX5_isSortAsTold 34 = .ok (.invokestatic 66, 3) := by decide +kernel
theorem dX5_isSortAsTold_37 : decode cX5_isSortAsTold 37 = .ok (.ifCond .eq 7, 3) := by decide +kernel
theorem dX5_isSortAsTold_40 : decode cX5_isSortAsTold 40 = .ok (.iconst 1, 1) := by decide +kernel
theorem dX5_isSortAsTold_41 : decode cX5_isSortAsTold 41 = .ok (.goto 4, 3) := by decide +kernel
theorem dX5_isSortAsTold_44 : decode cX5_isSortAsTold 44 = .ok (.iconst 0, 1) := by decide +kernel
theorem dX5_isSortAsTold_45 : decode cX5_isSortAsTold 45 = .ok (.ireturn, 1) := by decide +kernel
theorem dX5_isOffer_0 : decode cX5_isOffer 0 = .ok (.iload_n 0, 1) := by decide +kernel
theorem dX5_isOffer_1 : decode cX5_isOffer 1 = .ok (.iconst 0, 1) := by decide +kernel
theorem dX5_isOffer_2 : decode cX5_isOffer 2 = .ok (.iconst 4, 1) := by decide +kernel
theorem dX5_isOffer_3 : decode cX5_isOffer 3 = .ok (.invokestatic 66, 3) := by decide +kernel
theorem dX5_isOffer_6 : decode cX5_isOffer 6 = .ok (.ifCond .eq 27, 3) := by decide +kernel
theorem dX5_isOffer_9 : decode cX5_isOffer 9 = .ok (.iload_n 1, 1) := by decide +kernel
theorem dX5_isOffer_10 : decode cX5_isOffer 10 = .ok (.iconst 0, 1) := by decide +kernel
theorem dX5_isOffer_11 : decode cX5_isOffer 11 = .ok (.iload_n 0, 1) := by decide +kernel
theorem dX5_isOffer_12 : decode cX5_isOffer 12 = .ok (.iconst 3, 1) := by decide +kernel
theorem dX5_isOffer_13 : decode cX5_isOffer 13 = .ok (.if_icmp .ne 8, 3) := by decide +kernel
theorem dX5_isOffer_16 : decode cX5_isOffer 16 = .ok (.bipush 10, 2) := by decide +kernel
theorem dX5_isOffer_18 : decode cX5_isOffer 18 = .ok (.goto 5, 3) := by decide +kernel
theorem dX5_isOffer_21 : decode cX5_isOffer 21 = .ok (.bipush 99, 2) := by decide +kernel
theorem dX5_isOffer_23 : decode cX5_isOffer 23 = .ok (.invokestatic 66, 3) := by decide +kernel
theorem dX5_isOffer_26 : decode cX5_isOffer 26 = .ok (.ifCond .eq 7, 3) := by decide +kernel
theorem dX5_isOffer_29 : decode cX5_isOffer 29 = .ok (.iconst 1, 1) := by decide +kernel
theorem dX5_isOffer_30 : decode cX5_isOffer 30 = .ok (.goto 4, 3) := by decide +kernel
theorem dX5_isOffer_33 : decode cX5_isOffer 33 = .ok (.iconst 0, 1) := by decide +kernel
theorem dX5_isOffer_34 : decode cX5_isOffer 34 = .ok (.ireturn, 1) := by decide +kernel
theorem dX5_isPrice_0 : decode cX5_isPrice 0 = .ok (.iload_n 0, 1) := by decide +kernel
theorem dX5_isPrice_1 : decode cX5_isPrice 1 = .ok (.iconst 0, 1) := by decide +kernel
theorem dX5_isPrice_2 : decode cX5_isPrice 2 = .ok (.bipush 99, 2) := by decide +kernel
theorem dX5_isPrice_4 : decode cX5_isPrice 4 = .ok (.invokestatic 66, 3) := by decide +kernel
theorem dX5_isPrice_7 : decode cX5_isPrice 7 = .ok (.ireturn, 1) := by decide +kernel
theorem dX5_isSort_0 : decode cX5_isSort 0 = .ok (.iload_n 1, 1) := by decide +kernel
theorem dX5_isSort_1 : decode cX5_isSort 1 = .ok (.iconst 0, 1) := by decide +kernel
theorem dX5_isSort_2 : decode cX5_isSort 2 = .ok (.aload_n 0, 1) := by decide +kernel
theorem dX5_isSort_3 : decode cX5_isSort 3 = .ok (.getfield 42, 3) := by decide +kernel
theorem dX5_isSort_6 : decode cX5_isSort 6 = .ok (.getfield 87, 3) := by decide +kernel
theorem dX5_isSort_9 : decode cX5_isSort 9 = .ok (.iconst 1, 1) := by decide +kernel
theorem dX5_isSort_10 : decode cX5_isSort 10 = .ok (.isub, 1) := by decide +kernel
theorem dX5_isSort_11 : decode cX5_isSort 11 = .ok (.invokestatic 66, 3) := by decide +kernel
theorem dX5_isSort_14 : decode cX5_isSort 14 = .ok (.ireturn, 1) := by decide +kernel
theorem dX5_fewestSteps_0 : decode cX5_fewestSteps 0 = .ok (.iload_n 0, 1) := by decide +kernel
theorem dX5_fewestSteps_1 : decode cX5_fewestSteps 1 = .ok (.ifCond .gt 5, 3) := by decide +kernel
theorem dX5_fewestSteps_4 : decode cX5_fewestSteps 4 = .ok (.iconst 0, 1) := by decide +kernel
theorem dX5_fewestSteps_5 : decode cX5_fewestSteps 5 = .ok (.ireturn, 1) := by decide +kernel
theorem dX5_fewestSteps_6 : decode cX5_fewestSteps 6 = .ok (.iload_n 1, 1) := by decide +kernel
theorem dX5_fewestSteps_7 : decode cX5_fewestSteps 7 = .ok (.ifCond .gt 8, 3) := by decide +kernel
theorem dX5_fewestSteps_10 : decode cX5_fewestSteps 10 = .ok (.ldc 208, 2) := by decide +kernel
theorem dX5_fewestSteps_12 : decode cX5_fewestSteps 12 = .ok (.goto 10, 3) := by decide +kernel
theorem dX5_fewestSteps_15 : decode cX5_fewestSteps 15 = .ok (.iload_n 0, 1) := by decide +kernel
theorem dX5_fewestSteps_16 : decode cX5_fewestSteps 16 = .ok (.iload_n 1, 1) := by decide +kernel
theorem dX5_fewestSteps_17 : decode cX5_fewestSteps 17 = .ok (.iadd, 1) := by decide +kernel
theorem dX5_fewestSteps_18 : decode cX5_fewestSteps 18 = .ok (.iconst 1, 1) := by decide +kernel
theorem dX5_fewestSteps_19 : decode cX5_fewestSteps 19 = .ok (.isub, 1) := by decide +kernel
theorem dX5_fewestSteps_20 : decode cX5_fewestSteps 20 = .ok (.iload_n 1, 1) := by decide +kernel
theorem dX5_fewestSteps_21 : decode cX5_fewestSteps 21 = .ok (.idiv, 1) := by decide +kernel
theorem dX5_fewestSteps_22 : decode cX5_fewestSteps 22 = .ok (.ireturn, 1) := by decide +kernel
theorem dX5_greatestDivisor_0 : decode cX5_greatestDivisor 0 = .ok (.iload_n 0, 1) := by decide +kernel
theorem dX5_greatestDivisor_1 : decode cX5_greatestDivisor 1 = .ok (.istore_n 2, 1) := by decide +kernel
theorem dX5_greatestDivisor_2 : decode cX5_greatestDivisor 2 = .ok (.iload_n 1, 1) := by decide +kernel
theorem dX5_greatestDivisor_3 : decode cX5_greatestDivisor 3 = .ok (.istore_n 3, 1) := by decide +kernel
theorem dX5_greatestDivisor_4 : decode cX5_greatestDivisor 4 = .ok (.iconst 0, 1) := by decide +kernel
theorem dX5_greatestDivisor_5 : decode cX5_greatestDivisor 5 = .ok (.istore 4, 2) := by decide +kernel
theorem dX5_greatestDivisor_7 : decode cX5_greatestDivisor 7 = .ok (.iload 4, 2) := by decide +kernel
theorem dX5_greatestDivisor_9 : decode cX5_greatestDivisor 9 = .ok (.bipush 64, 2) := by decide +kernel
theorem dX5_greatestDivisor_11 : decode cX5_greatestDivisor 11 = .ok (.if_icmp .ge 23, 3) := by decide +kernel
theorem dX5_greatestDivisor_14 : decode cX5_greatestDivisor 14 = .ok (.iload_n 3, 1) := by decide +kernel
theorem dX5_greatestDivisor_15 : decode cX5_greatestDivisor 15 = .ok (.ifCond .le 19, 3) := by decide +kernel
theorem dX5_greatestDivisor_18 : decode cX5_greatestDivisor 18 = .ok (.iload_n 2, 1) := by decide +kernel
theorem dX5_greatestDivisor_19 : decode cX5_greatestDivisor 19 = .ok (.iload_n 3, 1) := by decide +kernel
theorem dX5_greatestDivisor_20 : decode cX5_greatestDivisor 20 = .ok (.irem, 1) := by decide +kernel
theorem dX5_greatestDivisor_21 : decode cX5_greatestDivisor 21 = .ok (.istore 5, 2) := by decide +kernel
theorem dX5_greatestDivisor_23 : decode cX5_greatestDivisor 23 = .ok (.iload_n 3, 1) := by decide +kernel
theorem dX5_greatestDivisor_24 : decode cX5_greatestDivisor 24 = .ok (.istore_n 2, 1) := by decide +kernel
theorem dX5_greatestDivisor_25 : decode cX5_greatestDivisor 25 = .ok (.iload 5, 2) := by decide +kernel
theorem dX5_greatestDivisor_27 : decode cX5_greatestDivisor 27 = .ok (.istore_n 3, 1) := by decide +kernel
theorem dX5_greatestDivisor_28 : decode cX5_greatestDivisor 28 = .ok (.iinc 4 1, 3) := by decide +kernel
theorem dX5_greatestDivisor_31 : decode cX5_greatestDivisor 31 = .ok (.goto (-24), 3) := by decide +kernel
theorem dX5_greatestDivisor_34 : decode cX5_greatestDivisor 34 = .ok (.iconst 1, 1) := by decide +kernel
theorem dX5_greatestDivisor_35 : decode cX5_greatestDivisor 35 = .ok (.iload_n 2, 1) := by decide +kernel
theorem dX5_greatestDivisor_36 : decode cX5_greatestDivisor 36 = .ok (.invokestatic 164, 3) := by decide +kernel
theorem dX5_greatestDivisor_39 : decode cX5_greatestDivisor 39 = .ok (.ireturn, 1) := by decide +kernel
theorem dX5_gainAt_0 : decode cX5_gainAt 0 = .ok (.aload_n 0, 1) := by decide +kernel
theorem dX5_gainAt_1 : decode cX5_gainAt 1 = .ok (.getfield 28, 3) := by decide +kernel
theorem dX5_gainAt_4 : decode cX5_gainAt 4 = .ok (.aload_n 1, 1) := by decide +kernel
theorem dX5_gainAt_5 : decode cX5_gainAt 5 = .ok (.iload_n 2, 1) := by decide +kernel
theorem dX5_gainAt_6 : decode cX5_gainAt 6 = .ok (.iload_n 3, 1) := by decide +kernel
theorem dX5_gainAt_7 : decode cX5_gainAt 7 = .ok (.iload 4, 2) := by decide +kernel
theorem dX5_gainAt_9 : decode cX5_gainAt 9 = .ok (.invokevirtual 125, 3) := by decide +kernel
theorem dX5_gainAt_12 : decode cX5_gainAt 12 = .ok (.aload_n 0, 1) := by decide +kernel
theorem dX5_gainAt_13 : decode cX5_gainAt 13 = .ok (.getfield 28, 3) := by decide +kernel
theorem dX5_gainAt_16 : decode cX5_gainAt 16 = .ok (.getfield 273, 3) := by decide +kernel
theorem dX5_gainAt_19 : decode cX5_gainAt 19 = .ok (.ireturn, 1) := by decide +kernel
theorem dX5_bestPrice_0 : decode cX5_bestPrice 0 = .ok (.bipush (-4), 2) := by decide +kernel
theorem dX5_bestPrice_2 : decode cX5_bestPrice 2 = .ok (.istore 4, 2) := by decide +kernel
theorem dX5_bestPrice_4 : decode cX5_bestPrice 4 = .ok (.iconst 0, 1) := by decide +kernel
theorem dX5_bestPrice_5 : decode cX5_bestPrice 5 = .ok (.istore 5, 2) := by decide +kernel
theorem dX5_bestPrice_7 : decode cX5_bestPrice 7 = .ok (.iconst 0, 1) := by decide +kernel
theorem dX5_bestPrice_8 : decode cX5_bestPrice 8 = .ok (.istore 6, 2) := by decide +kernel
theorem dX5_bestPrice_10 : decode cX5_bestPrice 10 = .ok (.iload 6, 2) := by decide +kernel
theorem dX5_bestPrice_12 : decode cX5_bestPrice 12 = .ok (.bipush 100, 2) := by decide +kernel
theorem dX5_bestPrice_14 : decode cX5_bestPrice 14 = .ok (.if_icmp .ge 65, 3) := by decide +kernel
theorem dX5_bestPrice_17 : decode cX5_bestPrice 17 = .ok (.aload_n 0, 1) := by decide +kernel
theorem dX5_bestPrice_18 : decode cX5_bestPrice 18 = .ok (.getfield 28, 3) := by decide +kernel
theorem dX5_bestPrice_21 : decode cX5_bestPrice 21 = .ok (.aload_n 1, 1) := by decide +kernel
theorem dX5_bestPrice_22 : decode cX5_bestPrice 22 = .ok (.iload_n 2, 1) := by decide +kernel
theorem dX5_bestPrice_23 : decode cX5_bestPrice 23 = .ok (.iload_n 3, 1) := by decide +kernel
theorem dX5_bestPrice_24 : decode cX5_bestPrice 24 = .ok (.iload 6, 2) := by decide +kernel
theorem dX5_bestPrice_26 : decode cX5_bestPrice 26 = .ok (.invokevirtual 125, 3) := by decide +kernel
theorem dX5_bestPrice_29 : decode cX5_bestPrice 29 = .ok (.aload_n 0, 1) := by decide +kernel
theorem dX5_bestPrice_30 : decode cX5_bestPrice 30 = .ok (.getfield 28, 3) := by decide +kernel
theorem dX5_bestPrice_33 : decode cX5_bestPrice 33 = .ok (.iload 6, 2) := by decide +kernel
theorem dX5_bestPrice_35 : decode cX5_bestPrice 35 = .ok (.invokevirtual 161, 3) := by decide +kernel
theorem dX5_bestPrice_38 : decode cX5_bestPrice 38 = .ok (.ifCond .eq 35, 3) := by decide +kernel
theorem dX5_bestPrice_41 : decode cX5_bestPrice 41 = .ok (.iload 4, 2) := by decide +kernel
theorem dX5_bestPrice_43 : decode cX5_bestPrice 43 = .ok (.bipush (-4), 2) := by decide +kernel
theorem dX5_bestPrice_45 : decode cX5_bestPrice 45 = .ok (.if_icmp .eq 15, 3) := by decide +kernel
theorem dX5_bestPrice_48 : decode cX5_bestPrice 48 = .ok (.aload_n 0, 1) := by decide +kernel
theorem dX5_bestPrice_49 : decode cX5_bestPrice 49 = .ok (.getfield 28, 3) := by decide +kernel
theorem dX5_bestPrice_52 : decode cX5_bestPrice 52 = .ok (.getfield 273, 3) := by decide +kernel
theorem dX5_bestPrice_55 : decode cX5_bestPrice 55 = .ok (.iload 5, 2) := by decide +kernel
theorem dX5_bestPrice_57 : decode cX5_bestPrice 57 = .ok (.if_icmp .le 16, 3) := by decide +kernel
theorem dX5_bestPrice_60 : decode cX5_bestPrice 60 = .ok (.iload 6, 2) := by decide +kernel
theorem dX5_bestPrice_62 : decode cX5_bestPrice 62 = .ok (.istore 4, 2) := by decide +kernel
theorem dX5_bestPrice_64 : decode cX5_bestPrice 64 = .ok (.aload_n 0, 1) := by decide +kernel
theorem dX5_bestPrice_65 : decode cX5_bestPrice 65 = .ok (.getfield 28, 3) := by decide +kernel
theorem dX5_bestPrice_68 : decode cX5_bestPrice 68 = .ok (.getfield 273, 3) := by decide +kernel
theorem dX5_bestPrice_71 : decode cX5_bestPrice 71 = .ok (.istore 5, 2) := by decide +kernel
theorem dX5_bestPrice_73 : decode cX5_bestPrice 73 = .ok (.iinc 6 1, 3) := by decide +kernel
theorem dX5_bestPrice_76 : decode cX5_bestPrice 76 = .ok (.goto (-66), 3) := by decide +kernel
theorem dX5_bestPrice_79 : decode cX5_bestPrice 79 = .ok (.iload 4, 2) := by decide +kernel
theorem dX5_bestPrice_81 : decode cX5_bestPrice 81 = .ok (.ireturn, 1) := by decide +kernel
theorem dX5_goTogether_0 : decode cX5_goTogether 0 = .ok (.iload_n 1, 1) := by decide +kernel
theorem dX5_goTogether_1 : decode cX5_goTogether 1 = .ok (.bipush 11, 2) := by decide +kernel
theorem dX5_goTogether_3 : decode cX5_goTogether 3 = .ok (.iand, 1) := by decide +kernel
theorem dX5_goTogether_4 : decode cX5_goTogether 4 = .ok (.invokestatic 267, 3) := by decide +kernel
theorem dX5_goTogether_7 : decode cX5_goTogether 7 = .ok (.iconst 1, 1) := by decide +kernel
theorem dX5_goTogether_8 : decode cX5_goTogether 8 = .ok (.if_icmp .gt 7, 3) := by decide +kernel
theorem dX5_goTogether_11 : decode cX5_goTogether 11 = .ok (.iconst 1, 1) := by decide +kernel
theorem dX5_goTogether_12 : decode cX5_goTogether 12 = .ok (.goto 4, 3) := by decide +kernel
theorem dX5_goTogether_15 : decode cX5_goTogether 15 = .ok (.iconst 0, 1) := by decide +kernel
theorem dX5_goTogether_16 : decode cX5_goTogether 16 = .ok (.istore_n 2, 1) := by decide +kernel
theorem dX5_goTogether_17 : decode cX5_goTogether 17 = .ok (.iload_n 1, 1) := by decide +kernel
theorem dX5_goTogether_18 : decode cX5_goTogether 18 = .ok (.iconst 4, 1) := by decide +kernel
theorem dX5_goTogether_19 : decode cX5_goTogether 19 = .ok (.iand, 1) := by decide +kernel
theorem dX5_goTogether_20 : decode cX5_goTogether 20 = .ok (.ifCond .eq 13, 3) := by decide +kernel
theorem dX5_goTogether_23 : decode cX5_goTogether 23 = .ok (.aload_n 0, 1) := by decide +kernel
theorem dX5_goTogether_24 : decode cX5_goTogether 24 = .ok (.getfield 42, 3) := by decide +kernel
theorem dX5_goTogether_27 : decode cX5_goTogether 27 = .ok (.getfield 87, 3) := by decide +kernel
theorem dX5_goTogether_30 : decode cX5_goTogether 30 = .ok (.ifCond .le 7, 3) := by decide +kernel
theorem dX5_goTogether_33 : decode cX5_goTogether 33 = .ok (.iconst 1, 1) := by decide +kernel
theorem dX5_goTogether_34 : decode cX5_goTogether 34 = .ok (.goto 4, 3) := by decide +kernel
theorem dX5_goTogether_37 : decode cX5_goTogether 37 = .ok (.iconst 0, 1) := by decide +kernel
theorem dX5_goTogether_38 : decode cX5_goTogether 38 = .ok (.istore_n 3, 1) := by decide +kernel
theorem dX5_goTogether_39 : decode cX5_goTogether 39 = .ok (.iload_n 1, 1) := by decide +kernel
theorem dX5_goTogether_40 : decode cX5_goTogether 40 = .ok (.iconst 0, 1) := by decide +kernel
theorem dX5_goTogether_41 : decode cX5_goTogether 41 = .ok (.bipush 15, 2) := by decide +kernel
theorem dX5_goTogether_43 : decode cX5_goTogether 43 = .ok (.invokestatic 66, 3) := by decide +kernel
theorem dX5_goTogether_46 : decode cX5_goTogether 46 = .ok (.ifCond .eq 15, 3) := by decide +kernel
theorem dX5_goTogether_49 : decode cX5_goTogether 49 = .ok (.iload_n 2, 1) := by decide +kernel
theorem dX5_goTogether_50 : decode cX5_goTogether 50 = .ok (.ifCond .eq 11, 3) := by decide +kernel
theorem dX5_goTogether_53 : decode cX5_goTogether 53 = .ok (.iload_n 3, 1) := by decide +kernel
theorem dX5_goTogether_54 : decode cX5_goTogether 54 = .ok (.ifCond .eq 7, 3) := by decide +kernel
theorem dX5_goTogether_57 : decode cX5_goTogether 57 = .ok (.iconst 1, 1) := by decide +kernel
theorem dX5_goTogether_58 : decode cX5_goTogether 58 = .ok (.goto 4, 3) := by decide +kernel
theorem dX5_goTogether_61 : decode cX5_goTogether 61 = .ok (.iconst 0, 1) := by decide +kernel
theorem dX5_goTogether_62 : decode cX5_goTogether 62 = .ok (.ireturn, 1) := by decide +kernel
theorem dX5_offerOf_0 : decode cX5_offerOf 0 = .ok (.iload_n 0, 1) := by decide +kernel
theorem dX5_offerOf_1 : decode cX5_offerOf 1 = .ok (.iconst 1, 1) := by decide +kernel
theorem dX5_offerOf_2 : decode cX5_offerOf 2 = .ok (.iand, 1) := by decide +kernel
theorem dX5_offerOf_3 : decode cX5_offerOf 3 = .ok (.ifCond .eq 5, 3) := by decide +kernel
theorem dX5_offerOf_6 : decode cX5_offerOf 6 = .ok (.iconst 1, 1) := by decide +kernel
theorem dX5_offerOf_7 : decode cX5_offerOf 7 = .ok (.ireturn, 1) := by decide +kernel
theorem dX5_offerOf_8 : decode cX5_offerOf 8 = .ok (.iload_n 0, 1) := by decide +kernel
theorem dX5_offerOf_9 : decode cX5_offerOf 9 = .ok (.iconst 2, 1) := by decide +kernel
theorem dX5_offerOf_10 : decode cX5_offerOf 10 = .ok (.iand, 1) := by decide +kernel
theorem dX5_offerOf_11 : decode cX5_offerOf 11 = .ok (.ifCond .eq 5, 3) := by decide +kernel
theorem dX5_offerOf_14 : decode cX5_offerOf 14 = .ok (.iconst 2, 1) := by decide +kernel
theorem dX5_offerOf_15 : decode cX5_offerOf 15 = .ok (.ireturn, 1) := by decide +kernel
theorem dX5_offerOf_16 : decode cX5_offerOf 16 = .ok (.iload_n 0, 1) := by decide +kernel
theorem dX5_offerOf_17 : decode cX5_offerOf 17 = .ok (.bipush 8, 2) := by decide +kernel
theorem dX5_offerOf_19 : decode cX5_offerOf 19 = .ok (.iand, 1) := by decide +kernel
theorem dX5_offerOf_20 : decode cX5_offerOf 20 = .ok (.ifCond .eq 7, 3) := by decide +kernel
theorem dX5_offerOf_23 : decode cX5_offerOf 23 = .ok (.iconst 4, 1) := by decide +kernel
theorem dX5_offerOf_24 : decode cX5_offerOf 24 = .ok (.goto 4, 3) := by decide +kernel
theorem dX5_offerOf_27 : decode cX5_offerOf 27 = .ok (.iconst 0, 1) := by decide +kernel
theorem dX5_offerOf_28 : decode cX5_offerOf 28 = .ok (.ireturn, 1) := by decide +kernel
theorem dX5_leftBy_0 : decode cX5_leftBy 0 = .ok (.iload_n 1, 1) := by decide +kernel
theorem dX5_leftBy_1 : decode cX5_leftBy 1 = .ok (.iconst 4, 1) := by decide +kernel
theorem dX5_leftBy_2 : decode cX5_leftBy 2 = .ok (.iand, 1) := by decide +kernel
theorem dX5_leftBy_3 : decode cX5_leftBy 3 = .ok (.ifCond .ne 8, 3) := by decide +kernel
theorem dX5_leftBy_6 : decode cX5_leftBy 6 = .ok (.aload_n 0, 1) := by decide +kernel
theorem dX5_leftBy_7 : decode cX5_leftBy 7 = .ok (.getfield 42, 3) := by decide +kernel
theorem dX5_leftBy_10 : decode cX5_leftBy 10 = .ok (.areturn, 1) := by decide +kernel
theorem dX5_leftBy_11 : decode cX5_leftBy 11 = .ok (.aload_n 0, 1) := by decide +kernel
theorem dX5_leftBy_12 : decode cX5_leftBy 12 = .ok (.getfield 49, 3) := by decide +kernel
theorem dX5_leftBy_15 : decode cX5_leftBy 15 = .ok (.aload_n 0, 1) := by decide +kernel
theorem dX5_leftBy_16 : decode cX5_leftBy 16 = .ok (.getfield 42, 3) := by decide +kernel
theorem dX5_leftBy_19 : decode cX5_leftBy 19 = .ok (.invokevirtual 196, 3) := by decide +kernel
theorem dX5_leftBy_22 : decode cX5_leftBy 22 = .ok (.aload_n 0, 1) := by decide +kernel
theorem dX5_leftBy_23 : decode cX5_leftBy 23 = .ok (.getfield 49, 3) := by decide +kernel
theorem dX5_leftBy_26 : decode cX5_leftBy 26 = .ok (.aload_n 0, 1) := by decide +kernel
theorem dX5_leftBy_27 : decode cX5_leftBy 27 = .ok (.getfield 42, 3) := by decide +kernel
theorem dX5_leftBy_30 : decode cX5_leftBy 30 = .ok (.invokevirtual 276, 3) := by decide +kernel
theorem dX5_leftBy_33 : decode cX5_leftBy 33 = .ok (.invokevirtual 279, 3) := by decide +kernel
theorem dX5_leftBy_36 : decode cX5_leftBy 36 = .ok (.aload_n 0, 1) := by decide +kernel
theorem dX5_leftBy_37 : decode cX5_leftBy 37 = .ok (.getfield 49, 3) := by decide +kernel
theorem dX5_leftBy_40 : decode cX5_leftBy 40 = .ok (.areturn, 1) := by decide +kernel
theorem dX5_outcome_0 : decode cX5_outcome 0 = .ok (.aload_n 0, 1) := by decide +kernel
theorem dX5_outcome_1 : decode cX5_outcome 1 = .ok (.iload_n 1, 1) := by decide +kernel
theorem dX5_outcome_2 : decode cX5_outcome 2 = .ok (.invokevirtual 230, 3) := by decide +kernel
theorem dX5_outcome_5 : decode cX5_outcome 5 = .ok (.astore_n 3, 1) := by decide +kernel
theorem dX5_outcome_6 : decode cX5_outcome 6 = .ok (.iload_n 1, 1) := by decide +kernel
theorem dX5_outcome_7 : decode cX5_outcome 7 = .ok (.invokestatic 234, 3) := by decide +kernel
theorem dX5_outcome_10 : decode cX5_outcome 10 = .ok (.istore 4, 2) := by decide +kernel
theorem dX5_outcome_12 : decode cX5_outcome 12 = .ok (.aload_n 0, 1) := by decide +kernel
theorem dX5_outcome_13 : decode cX5_outcome 13 = .ok (.aload_n 3, 1) := by decide +kernel
theorem dX5_outcome_14 : decode cX5_outcome 14 = .ok (.iload 4, 2) := by decide +kernel
theorem dX5_outcome_16 : decode cX5_outcome 16 = .ok (.iload_n 2, 1) := by decide +kernel
theorem dX5_outcome_17 : decode cX5_outcome 17 = .ok (.invokevirtual 177, 3) := by decide +kernel
theorem dX5_outcome_20 : decode cX5_outcome 20 = .ok (.istore 5, 2) := by decide +kernel
theorem dX5_outcome_22 : decode cX5_outcome 22 = .ok (.iload 5, 2) := by decide +kernel
theorem dX5_outcome_24 : decode cX5_outcome 24 = .ok (.bipush (-4), 2) := by decide +kernel
theorem dX5_outcome_26 : decode cX5_outcome 26 = .ok (.if_icmp .ne 7, 3) := by decide +kernel
theorem dX5_outcome_29 : decode cX5_outcome 29 = .ok (.iconst 0, 1) := by decide +kernel
theorem dX5_outcome_30 : decode cX5_outcome 30 = .ok (.goto 13, 3) := by decide +kernel
theorem dX5_outcome_33 : decode cX5_outcome 33 = .ok (.aload_n 0, 1) := by decide +kernel
theorem dX5_outcome_34 : decode cX5_outcome 34 = .ok (.aload_n 3, 1) := by decide +kernel
theorem dX5_outcome_35 : decode cX5_outcome 35 = .ok (.iload 4, 2) := by decide +kernel
theorem dX5_outcome_37 : decode cX5_outcome 37 = .ok (.iload_n 2, 1) := by decide +kernel
theorem dX5_outcome_38 : decode cX5_outcome 38 = .ok (.iload 5, 2) := by decide +kernel
theorem dX5_outcome_40 : decode cX5_outcome 40 = .ok (.invokevirtual 170, 3) := by decide +kernel
theorem dX5_outcome_43 : decode cX5_outcome 43 = .ok (.istore 6, 2) := by decide +kernel
theorem dX5_outcome_45 : decode cX5_outcome 45 = .ok (.iload_n 1, 1) := by decide +kernel
theorem dX5_outcome_46 : decode cX5_outcome 46 = .ok (.iconst 4, 1) := by decide +kernel
theorem dX5_outcome_47 : decode cX5_outcome 47 = .ok (.iand, 1) := by decide +kernel
theorem dX5_outcome_48 : decode cX5_outcome 48 = .ok (.ifCond .ne 6, 3) := by decide +kernel
theorem dX5_outcome_51 : decode cX5_outcome 51 = .ok (.iload 6, 2) := by decide +kernel
theorem dX5_outcome_53 : decode cX5_outcome 53 = .ok (.ireturn, 1) := by decide +kernel
theorem dX5_outcome_54 : decode cX5_outcome 54 = .ok (.aload_n 0, 1) := by decide +kernel
theorem dX5_outcome_55 : decode cX5_outcome 55 = .ok (.getfield 42, 3) := by decide +kernel
theorem dX5_outcome_58 : decode cX5_outcome 58 = .ok (.invokevirtual 276, 3) := by decide +kernel
theorem dX5_outcome_61 : decode cX5_outcome 61 = .ok (.istore 7, 2) := by decide +kernel
theorem dX5_outcome_63 : decode cX5_outcome 63 = .ok (.iload 6, 2) := by decide +kernel
theorem dX5_outcome_65 : decode cX5_outcome 65 = .ok (.sipush 800, 3) := by decide +kernel
theorem dX5_outcome_68 : decode cX5_outcome 68 = .ok (.aload_n 0, 1) := by decide +kernel
theorem dX5_outcome_69 : decode cX5_outcome 69 = .ok (.getfield 42, 3) := by decide +kernel
theorem dX5_outcome_72 : decode cX5_outcome 72 = .ok (.getfield 181, 3) := by decide +kernel
theorem dX5_outcome_75 : decode cX5_outcome 75 = .ok (.iload 7, 2) := by decide +kernel
theorem dX5_outcome_77 : decode cX5_outcome 77 = .ok (.iaload, 1) := by decide +kernel
theorem dX5_outcome_78 : decode cX5_outcome 78 = .ok (.imul, 1) := by decide +kernel
theorem dX5_outcome_79 : decode cX5_outcome 79 = .ok (.aload_n 0, 1) := by decide +kernel
theorem dX5_outcome_80 : decode cX5_outcome 80 = .ok (.getfield 42, 3) := by decide +kernel
theorem dX5_outcome_83 : decode cX5_outcome 83 = .ok (.getfield 209, 3) := by decide +kernel
theorem dX5_outcome_86 : decode cX5_outcome 86 = .ok (.iload 7, 2) := by decide +kernel
theorem dX5_outcome_88 : decode cX5_outcome 88 = .ok (.iaload, 1) := by decide +kernel
theorem dX5_outcome_89 : decode cX5_outcome 89 = .ok (.imul, 1) := by decide +kernel
theorem dX5_outcome_90 : decode cX5_outcome 90 = .ok (.isub, 1) := by decide +kernel
theorem dX5_outcome_91 : decode cX5_outcome 91 = .ok (.ireturn, 1) := by decide +kernel
theorem dX5_priceLearned_0 : decode cX5_priceLearned 0 = .ok (.aload_n 0, 1) := by decide +kernel
theorem dX5_priceLearned_1 : decode cX5_priceLearned 1 = .ok (.getfield 28, 3) := by decide +kernel
theorem dX5_priceLearned_4 : decode cX5_priceLearned 4 = .ok (.aload_n 0, 1) := by decide +kernel
theorem dX5_priceLearned_5 : decode cX5_priceLearned 5 = .ok (.getfield 42, 3) := by decide +kernel
theorem dX5_priceLearned_8 : decode cX5_priceLearned 8 = .ok (.iconst 0, 1) := by decide +kernel
theorem dX5_priceLearned_9 : decode cX5_priceLearned 9 = .ok (.iconst 0, 1) := by decide +kernel
theorem dX5_priceLearned_10 : decode cX5_priceLearned 10 = .ok (.iload_n 1, 1) := by decide +kernel
theorem dX5_priceLearned_11 : decode cX5_priceLearned 11 = .ok (.invokevirtual 125, 3) := by decide +kernel
theorem dX5_priceLearned_14 : decode cX5_priceLearned 14 = .ok (.aload_n 0, 1) := by decide +kernel
theorem dX5_priceLearned_15 : decode cX5_priceLearned 15 = .ok (.getfield 42, 3) := by decide +kernel
theorem dX5_priceLearned_18 : decode cX5_priceLearned 18 = .ok (.getfield 115, 3) := by decide +kernel
theorem dX5_priceLearned_21 : decode cX5_priceLearned 21 = .ok (.aload_n 0, 1) := by decide +kernel
theorem dX5_priceLearned_22 : decode cX5_priceLearned 22 = .ok (.getfield 28, 3) := by decide +kernel
theorem dX5_priceLearned_25 : decode cX5_priceLearned 25 = .ok (.invokevirtual 283, 3) := by decide +kernel
theorem dX5_priceLearned_28 : decode cX5_priceLearned 28 = .ok (.imul, 1) := by decide +kernel
theorem dX5_priceLearned_29 : decode cX5_priceLearned 29 = .ok (.bipush 10, 2) := by decide +kernel
theorem dX5_priceLearned_31 : decode cX5_priceLearned 31 = .ok (.aload_n 0, 1) := by decide +kernel
theorem dX5_priceLearned_32 : decode cX5_priceLearned 32 = .ok (.getfield 42, 3) := by decide +kernel
theorem dX5_priceLearned_35 : decode cX5_priceLearned 35 = .ok (.getfield 115, 3) := by decide +kernel
theorem dX5_priceLearned_38 : decode cX5_priceLearned 38 = .ok (.isub, 1) := by decide +kernel
theorem dX5_priceLearned_39 : decode cX5_priceLearned 39 = .ok (.iload_n 1, 1) := by decide +kernel
theorem dX5_priceLearned_40 : decode cX5_priceLearned 40 = .ok (.imul, 1) := by decide +kernel
theorem dX5_priceLearned_41 : decode cX5_priceLearned 41 = .ok (.iadd, 1) := by decide +kernel
theorem dX5_priceLearned_42 : decode cX5_priceLearned 42 = .ok (.bipush 10, 2) := by decide +kernel
theorem dX5_priceLearned_44 : decode cX5_priceLearned 44 = .ok (.invokestatic 286, 3) := by decide +kernel
theorem dX5_priceLearned_47 : decode cX5_priceLearned 47 = .ok (.ireturn, 1) := by decide +kernel
