theorem dX0_init_0 : decode cX0_init 0 = .ok (.aload_n 0, 1) := by decide +kernel
theorem dX0_init_1 : decode cX0_init 1 = .ok (.invokespecial 3, 3) := by decide +kernel
theorem dX0_init_4 : decode cX0_init 4 = .ok (.aload_n 0, 1) := by decide +kernel
theorem dX0_init_5 : decode cX0_init 5 = .ok (.aload_n 1, 1) := by decide +kernel
theorem dX0_init_6 : decode cX0_init 6 = .ok (.putfield 9, 3) := by decide +kernel
theorem dX0_init_9 : decode cX0_init 9 = .ok (.return_, 1) := by decide +kernel
theorem dX0_readInto_0 : decode cX0_readInto 0 = .ok (.aload_n 0, 1) := by decide +kernel
theorem dX0_readInto_1 : decode cX0_readInto 1 = .ok (.iconst 0, 1) := by decide +kernel
theorem dX0_readInto_2 : decode cX0_readInto 2 = .ok (.putfield 15, 3) := by decide +kernel
theorem dX0_readInto_5 : decode cX0_readInto 5 = .ok (.aload_n 0, 1) := by decide +kernel
theorem dX0_readInto_6 : decode cX0_readInto 6 = .ok (.iconst 0, 1) := by decide +kernel
theorem dX0_readInto_7 : decode cX0_readInto 7 = .ok (.putfield 19, 3) := by decide +kernel
theorem dX0_readInto_10 : decode cX0_readInto 10 = .ok (.aload_n 0, 1) := by decide +kernel
theorem dX0_readInto_11 : decode cX0_readInto 11 = .ok (.iconst 0, 1) := by decide +kernel
theorem dX0_readInto_12 : decode cX0_readInto 12 = .ok (.putfield 22, 3) := by decide +kernel
theorem dX0_readInto_15 : decode cX0_readInto 15 = .ok (.aload_n 0, 1) := by decide +kernel
theorem dX0_readInto_16 : decode cX0_readInto 16 = .ok (.iconst 0, 1) := by decide +kernel
theorem dX0_readInto_17 : decode cX0_readInto 17 = .ok (.putfield 25, 3) := by decide +kernel
theorem dX0_readInto_20 : decode cX0_readInto 20 = .ok (.aload_n 0, 1) := by decide +kernel
theorem dX0_readInto_21 : decode cX0_readInto 21 = .ok (.iconst 0, 1) := by decide +kernel
theorem dX0_readInto_22 : decode cX0_readInto 22 = .ok (.putfield 28, 3) := by decide +kernel
theorem dX0_readInto_25 : decode cX0_readInto 25 = .ok (.aload_n 0, 1) := by decide +kernel
theorem dX0_readInto_26 : decode cX0_readInto 26 = .ok (.invokevirtual 31, 3) := by decide +kernel
theorem dX0_readInto_29 : decode cX0_readInto 29 = .ok (.iconst 0, 1) := by decide +kernel
theorem dX0_readInto_30 : decode cX0_readInto 30 = .ok (.istore_n 2, 1) := by decide +kernel
theorem dX0_readInto_31 : decode cX0_readInto 31 = .ok (.iload_n 2, 1) := by decide +kernel
theorem dX0_readInto_32 : decode cX0_readInto 32 = .ok (.sipush 240, 3) := by decide +kernel
theorem dX0_readInto_35 : decode cX0_readInto 35 = .ok (.if_icmp .ge 49, 3) := by decide +kernel
theorem dX0_readInto_38 : decode cX0_readInto 38 = .ok (.aload_n 0, 1) := by decide +kernel
theorem dX0_readInto_39 : decode cX0_readInto 39 = .ok (.getfield 15, 3) := by decide +kernel
theorem dX0_readInto_42 : decode cX0_readInto 42 = .ok (.ifCond .ne 42, 3) := by decide +kernel
theorem dX0_readInto_45 : decode cX0_readInto 45 = .ok (.aload_n 0, 1) := by decide +kernel
theorem dX0_readInto_46 : decode cX0_readInto 46 = .ok (.getfield 36, 3) := by decide +kernel
theorem dX0_readInto_49 : decode cX0_readInto 49 = .ok (.ifCond .eq 35, 3) := by decide +kernel
theorem dX0_readInto_52 : decode cX0_readInto 52 = .ok (.aload_n 0, 1) := by decide +kernel
theorem dX0_readInto_53 : decode cX0_readInto 53 = .ok (.aload_n 1, 1) := by decide +kernel
theorem dX0_readInto_54 : decode cX0_readInto 54 = .ok (.invokevirtual 39, 3) := by decide +kernel
theorem dX0_readInto_57 : decode cX0_readInto 57 = .ok (.aload_n 0, 1) := by decide +kernel
theorem dX0_readInto_58 : decode cX0_readInto 58 = .ok (.dup, 1) := by decide +kernel
theorem dX0_readInto_59 : decode cX0_readInto 59 = .ok (.getfield 22, 3) := by decide +kernel
theorem dX0_readInto_62 : decode cX0_readInto 62 = .ok (.iconst 1, 1) := by decide +kernel
theorem dX0_readInto_63 : decode cX0_readInto 63 = .ok (.iadd, 1) := by decide +kernel
theorem dX0_readInto_64 : decode cX0_readInto 64 = .ok (.putfield 22, 3) := by decide +kernel
theorem dX0_readInto_67 : decode cX0_readInto 67 = .ok (.aload_n 0, 1) := by decide +kernel
theorem dX0_readInto_68 : decode cX0_readInto 68 = .ok (.getfield 15, 3) := by decide +kernel
theorem dX0_readInto_71 : decode cX0_readInto 71 = .ok (.ifCond .ne 7, 3) := by decide +kernel
theorem dX0_readInto_74 : decode cX0_readInto 74 = .ok (.aload_n 0, 1) := by decide +kernel
theorem dX0_readInto_75 : decode cX0_readInto 75 = .ok (.invokevirtual 31, 3) := by decide +kernel
theorem dX0_readInto_78 : decode cX0_readInto 78 = .ok (.iinc 2 1, 3) := by decide +kernel
theorem dX0_readInto_81 : decode cX0_readInto 81 = .ok (.goto (-50), 3) := by decide +kernel
theorem dX0_readInto_84 : decode cX0_readInto 84 = .ok (.return_, 1) := by decide +kernel
theorem dX0_takeLine_0 : decode cX0_takeLine 0 = .ok (.aload_n 0, 1) := by decide +kernel
theorem dX0_takeLine_1 : decode cX0_takeLine 1 = .ok (.getfield 36, 3) := by decide +kernel
theorem dX0_takeLine_4 : decode cX0_takeLine 4 = .ok (.iconst 1, 1) := by decide +kernel
theorem dX0_takeLine_5 : decode cX0_takeLine 5 = .ok (.if_icmp .eq 9, 3) := by decide +kernel
theorem dX0_takeLine_8 : decode cX0_takeLine 8 = .ok (.aload_n 0, 1) := by decide +kernel
theorem dX0_takeLine_9 : decode cX0_takeLine 9 = .ok (.iconst 2, 1) := by decide +kernel
theorem dX0_takeLine_10 : decode cX0_takeLine 10 = .ok (.invokevirtual 43, 3) := by decide +kernel
theorem dX0_takeLine_13 : decode cX0_takeLine 13 = .ok (.return_, 1) := by decide +kernel
theorem dX0_takeLine_14 : decode cX0_takeLine 14 = .ok (.aload_n 0, 1) := by decide +kernel
theorem dX0_takeLine_15 : decode cX0_takeLine 15 = .ok (.getfield 47, 3) := by decide +kernel
theorem dX0_takeLine_18 : decode cX0_takeLine 18 = .ok (.lookupswitch 90 #[(1717660012, 58), (1819242347, 82), (1835102827, 74), (1836413812, 66), (1936683636, 50)], 50) := by decide +kernel
theorem dX0_takeLine_68 : decode cX0_takeLine 68 = .ok (.aload_n 0, 1) := by decide +kernel
theorem dX0_takeLine_69 : decode cX0_takeLine 69 = .ok (.aload_n 1, 1) := by decide +kernel
theorem dX0_takeLine_70 : decode cX0_takeLine 70 = .ok (.invokevirtual 50, 3) := by decide +kernel
theorem dX0_takeLine_73 : decode cX0_takeLine 73 = .ok (.goto 40, 3) := by decide +kernel
theorem dX0_takeLine_76 : decode cX0_takeLine 76 = .ok (.aload_n 0, 1) := by decide +kernel
theorem dX0_takeLine_77 : decode cX0_takeLine 77 = .ok (.aload_n 1, 1) := by decide +kernel
theorem dX0_takeLine_78 : decode cX0_takeLine 78 = .ok (.invokevirtual 53, 3) := by decide +kernel
theorem dX0_takeLine_81 : decode cX0_takeLine 81 = .ok (.goto 32, 3) := by decide +kernel
theorem dX0_takeLine_84 : decode cX0_takeLine 84 = .ok (.aload_n 0, 1) := by decide +kernel
theorem dX0_takeLine_85 : decode cX0_takeLine 85 = .ok (.aload_n 1, 1) := by decide +kernel
theorem dX0_takeLine_86 : decode cX0_takeLine 86 = .ok (.invokevirtual 56, 3) := by decide +kernel
theorem dX0_takeLine_89 : decode cX0_takeLine 89 = .ok (.goto 24, 3) := by decide +kernel
theorem dX0_takeLine_92 : decode cX0_takeLine 92 = .ok (.aload_n 0, 1) := by decide +kernel
theorem dX0_takeLine_93 : decode cX0_takeLine 93 = .ok (.aload_n 1, 1) := by decide +kernel
theorem dX0_takeLine_94 : decode cX0_takeLine 94 = .ok (.invokevirtual 59, 3) := by decide +kernel
theorem dX0_takeLine_97 : decode cX0_takeLine 97 = .ok (.goto 16, 3) := by decide +kernel
theorem dX0_takeLine_100 : decode cX0_takeLine 100 = .ok (.aload_n 0, 1) := by decide +kernel
theorem dX0_takeLine_101 : decode cX0_takeLine 101 = .ok (.aload_n 1, 1) := by decide +kernel
theorem dX0_takeLine_102 : decode cX0_takeLine 102 = .ok (.invokevirtual 62, 3) := by decide +kernel
theorem dX0_takeLine_105 : decode cX0_takeLine 105 = .ok (.goto 8, 3) := by decide +kernel
theorem dX0_takeLine_108 : decode cX0_takeLine 108 = .ok (.aload_n 0, 1) := by decide +kernel
theorem dX0_takeLine_109 : decode cX0_takeLine 109 = .ok (.aload_n 1, 1) := by decide +kernel
theorem dX0_takeLine_110 : decode cX0_takeLine 110 = .ok (.invokevirtual 65, 3) := by decide +kernel
theorem dX0_takeLine_113 : decode cX0_takeLine 113 = .ok (.aload_n 0, 1) := by decide +kernel
theorem dX0_takeLine_114 : decode cX0_takeLine 114 = .ok (.invokevirtual 68, 3) := by decide +kernel
theorem dX0_takeLine_117 : decode cX0_takeLine 117 = .ok (.return_, 1) := by decide +kernel
theorem dX0_takeSort_0 : decode cX0_takeSort 0 = .ok (.aload_n 1, 1) := by decide +kernel
theorem dX0_takeSort_1 : decode cX0_takeSort 1 = .ok (.getfield 71, 3) := by decide +kernel
theorem dX0_takeSort_4 : decode cX0_takeSort 4 = .ok (.bipush 8, 2) := by decide +kernel
theorem dX0_takeSort_6 : decode cX0_takeSort 6 = .ok (.if_icmp .lt 8, 3) := by decide +kernel
theorem dX0_takeSort_9 : decode cX0_takeSort 9 = .ok (.aload_n 0, 1) := by decide +kernel
theorem dX0_takeSort_10 : decode cX0_takeSort 10 = .ok (.iconst 5, 1) := by decide +kernel
theorem dX0_takeSort_11 : decode cX0_takeSort 11 = .ok (.invokevirtual 43, 3) := by decide +kernel
theorem dX0_takeSort_14 : decode cX0_takeSort 14 = .ok (.aload_n 0, 1) := by decide +kernel
theorem dX0_takeSort_15 : decode cX0_takeSort 15 = .ok (.iconst 1, 1) := by decide +kernel
theorem dX0_takeSort_16 : decode cX0_takeSort 16 = .ok (.bipush 50, 2) := by decide +kernel
theorem dX0_takeSort_18 : decode cX0_takeSort 18 = .ok (.invokevirtual 76, 3) := by decide +kernel
theorem dX0_takeSort_21 : decode cX0_takeSort 21 = .ok (.istore_n 2, 1) := by decide +kernel
theorem dX0_takeSort_22 : decode cX0_takeSort 22 = .ok (.aload_n 0, 1) := by decide +kernel
theorem dX0_takeSort_23 : decode cX0_takeSort 23 = .ok (.iconst 0, 1) := by decide +kernel
theorem dX0_takeSort_24 : decode cX0_takeSort 24 = .ok (.bipush 99, 2) := by decide +kernel
theorem dX0_takeSort_26 : decode cX0_takeSort 26 = .ok (.invokevirtual 76, 3) := by decide +kernel
theorem dX0_takeSort_29 : decode cX0_takeSort 29 = .ok (.istore_n 3, 1) := by decide +kernel
theorem dX0_takeSort_30 : decode cX0_takeSort 30 = .ok (.aload_n 0, 1) := by decide +kernel
theorem dX0_takeSort_31 : decode cX0_takeSort 31 = .ok (.iconst 0, 1) := by decide +kernel
theorem dX0_takeSort_32 : decode cX0_takeSort 32 = .ok (.bipush 99, 2) := by decide +kernel
theorem dX0_takeSort_34 : decode cX0_takeSort 34 = .ok (.invokevirtual 76, 3) := by decide +kernel
theorem dX0_takeSort_37 : decode cX0_takeSort 37 = .ok (.istore 4, 2) := by decide +kernel
theorem dX0_takeSort_39 : decode cX0_takeSort 39 = .ok (.aload_n 1, 1) := by decide +kernel
theorem dX0_takeSort_40 : decode cX0_takeSort 40 = .ok (.iload_n 2, 1) := by decide +kernel
theorem dX0_takeSort_41 : decode cX0_takeSort 41 = .ok (.iload_n 3, 1) := by decide +kernel
theorem dX0_takeSort_42 : decode cX0_takeSort 42 = .ok (.iload 4, 2) := by decide +kernel
theorem dX0_takeSort_44 : decode cX0_takeSort 44 = .ok (.iconst 0, 1) := by decide +kernel
theorem dX0_takeSort_45 : decode cX0_takeSort 45 = .ok (.invokevirtual 80, 3) := by decide +kernel
theorem dX0_takeSort_48 : decode cX0_takeSort 48 = .ok (.return_, 1) := by decide +kernel
theorem dX0_takeFail_0 : decode cX0_takeFail 0 = .ok (.aload_n 0, 1) := by decide +kernel
theorem dX0_takeFail_1 : decode cX0_takeFail 1 = .ok (.iconst 0, 1) := by decide +kernel
theorem dX0_takeFail_2 : decode cX0_takeFail 2 = .ok (.aload_n 1, 1) := by decide +kernel
theorem dX0_takeFail_3 : decode cX0_takeFail 3 = .ok (.getfield 71, 3) := by decide +kernel
theorem dX0_takeFail_6 : decode cX0_takeFail 6 = .ok (.iconst 1, 1) := by decide +kernel
theorem dX0_takeFail_7 : decode cX0_takeFail 7 = .ok (.isub, 1) := by decide +kernel
theorem dX0_takeFail_8 : decode cX0_takeFail 8 = .ok (.invokevirtual 76, 3) := by decide +kernel
theorem dX0_takeFail_11 : decode cX0_takeFail 11 = .ok (.istore_n 2, 1) := by decide +kernel
theorem dX0_takeFail_12 : decode cX0_takeFail 12 = .ok (.aload_n 0, 1) := by decide +kernel
theorem dX0_takeFail_13 : decode cX0_takeFail 13 = .ok (.iconst 0, 1) := by decide +kernel
theorem dX0_takeFail_14 : decode cX0_takeFail 14 = .ok (.iload_n 2, 1) := by decide +kernel
theorem dX0_takeFail_15 : decode cX0_takeFail 15 = .ok (.iadd, 1) := by decide +kernel
theorem dX0_takeFail_16 : decode cX0_takeFail 16 = .ok (.invokevirtual 84, 3) := by decide +kernel
theorem dX0_takeFail_19 : decode cX0_takeFail 19 = .ok (.aload_n 1, 1) := by decide +kernel
theorem dX0_takeFail_20 : decode cX0_takeFail 20 = .ok (.getfield 87, 3) := by decide +kernel
theorem dX0_takeFail_23 : decode cX0_takeFail 23 = .ok (.iload_n 2, 1) := by decide +kernel
theorem dX0_takeFail_24 : decode cX0_takeFail 24 = .ok (.aload_n 0, 1) := by decide +kernel
theorem dX0_takeFail_25 : decode cX0_takeFail 25 = .ok (.iconst 0, 1) := by decide +kernel
theorem dX0_takeFail_26 : decode cX0_takeFail 26 = .ok (.bipush 10, 2) := by decide +kernel
theorem dX0_takeFail_28 : decode cX0_takeFail 28 = .ok (.invokevirtual 76, 3) := by decide +kernel
theorem dX0_takeFail_31 : decode cX0_takeFail 31 = .ok (.iastore, 1) := by decide +kernel
theorem dX0_takeFail_32 : decode cX0_takeFail 32 = .ok (.return_, 1) := by decide +kernel
theorem dX0_takeMust_0 : decode cX0_takeMust 0 = .ok (.aload_n 0, 1) := by decide +kernel
theorem dX0_takeMust_1 : decode cX0_takeMust 1 = .ok (.iconst 0, 1) := by decide +kernel
theorem dX0_takeMust_2 : decode cX0_takeMust 2 = .ok (.aload_n 1, 1) := by decide +kernel
theorem dX0_takeMust_3 : decode cX0_takeMust 3 = .ok (.getfield 71, 3) := by decide +kernel
theorem dX0_takeMust_6 : decode cX0_takeMust 6 = .ok (.iconst 1, 1) := by decide +kernel
theorem dX0_takeMust_7 : decode cX0_takeMust 7 = .ok (.isub, 1) := by decide +kernel
theorem dX0_takeMust_8 : decode cX0_takeMust 8 = .ok (.invokevirtual 76, 3) := by decide +kernel
theorem dX0_takeMust_11 : decode cX0_takeMust 11 = .ok (.istore_n 2, 1) := by decide +kernel
theorem dX0_takeMust_12 : decode cX0_takeMust 12 = .ok (.aload_n 0, 1) := by decide +kernel
theorem dX0_takeMust_13 : decode cX0_takeMust 13 = .ok (.bipush 8, 2) := by decide +kernel
theorem dX0_takeMust_15 : decode cX0_takeMust 15 = .ok (.iload_n 2, 1) := by decide +kernel
theorem dX0_takeMust_16 : decode cX0_takeMust 16 = .ok (.iadd, 1) := by decide +kernel
theorem dX0_takeMust_17 : decode cX0_takeMust 17 = .ok (.invokevirtual 84, 3) := by decide +kernel
theorem dX0_takeMust_20 : decode cX0_takeMust 20 = .ok (.aload_n 1, 1) := by decide +kernel
theorem dX0_takeMust_21 : decode cX0_takeMust 21 = .ok (.getfield 91, 3) := by decide +kernel
theorem dX0_takeMust_24 : decode cX0_takeMust 24 = .ok (.iload_n 2, 1) := by decide +kernel
theorem dX0_takeMust_25 : decode cX0_takeMust 25 = .ok (.aload_n 0, 1) := by decide +kernel
theorem dX0_takeMust_26 : decode cX0_takeMust 26 = .ok (.iconst 0, 1) := by decide +kernel
theorem dX0_takeMust_27 : decode cX0_takeMust 27 = .ok (.aload_n 1, 1) := by decide +kernel
theorem dX0_takeMust_28 : decode cX0_takeMust 28 = .ok (.getfield 94, 3) := by decide +kernel
theorem dX0_takeMust_31 : decode cX0_takeMust 31 = .ok (.iload_n 2, 1) := by decide +kernel
theorem dX0_takeMust_32 : decode cX0_takeMust 32 = .ok (.iaload, 1) := by decide +kernel
theorem dX0_takeMust_33 : decode cX0_takeMust 33 = .ok (.invokevirtual 76, 3) := by decide +kernel
theorem dX0_takeMust_36 : decode cX0_takeMust 36 = .ok (.iastore, 1) := by decide +kernel
theorem dX0_takeMust_37 : decode cX0_takeMust 37 = .ok (.return_, 1) := by decide +kernel
theorem dX0_takeMark_0 : decode cX0_takeMark 0 = .ok (.aload_n 0, 1) := by decide +kernel
theorem dX0_takeMark_1 : decode cX0_takeMark 1 = .ok (.bipush 16, 2) := by decide +kernel
theorem dX0_takeMark_3 : decode cX0_takeMark 3 = .ok (.invokevirtual 84, 3) := by decide +kernel
theorem dX0_takeMark_6 : decode cX0_takeMark 6 = .ok (.aload_n 1, 1) := by decide +kernel
theorem dX0_takeMark_7 : decode cX0_takeMark 7 = .ok (.aload_n 0, 1) := by decide +kernel
theorem dX0_takeMark_8 : decode cX0_takeMark 8 = .ok (.iconst 0, 1) := by decide +kernel
theorem dX0_takeMark_9 : decode cX0_takeMark 9 = .ok (.bipush 99, 2) := by decide +kernel
theorem dX0_takeMark_11 : decode cX0_takeMark 11 = .ok (.invokevirtual 76, 3) := by decide +kernel
theorem dX0_takeMark_14 : decode cX0_takeMark 14 = .ok (.putfield 97, 3) := by decide +kernel
theorem dX0_takeMark_17 : decode cX0_takeMark 17 = .ok (.return_, 1) := by decide +kernel
theorem dX0_takeLook_0 : decode cX0_takeLook 0 = .ok (.aload_n 0, 1) := by decide +kernel
theorem dX0_takeLook_1 : decode cX0_takeLook 1 = .ok (.bipush 17, 2) := by decide +kernel
theorem dX0_takeLook_3 : decode cX0_takeLook 3 = .ok (.invokevirtual 84, 3) := by decide +kernel
theorem dX0_takeLook_6 : decode cX0_takeLook 6 = .ok (.aload_n 1, 1) := by decide +kernel
theorem dX0_takeLook_7 : decode cX0_takeLook 7 = .ok (.aload_n 0, 1) := by decide +kernel
theorem dX0_takeLook_8 : decode cX0_takeLook 8 = .ok (.iconst 4, 1) := by decide +kernel
theorem dX0_takeLook_9 : decode cX0_takeLook 9 = .ok (.bipush 8, 2) := by decide +kernel
theorem dX0_takeLook_11 : decode cX0_takeLook 11 = .ok (.invokevirtual 76, 3) := by decide +kernel
theorem dX0_takeLook_14 : decode cX0_takeLook 14 = .ok (.putfield 100, 3) := by decide +kernel
theorem dX0_takeLook_17 : decode cX0_takeLook 17 = .ok (.aload_n 1, 1) := by decide +kernel
theorem dX0_takeLook_18 : decode cX0_takeLook 18 = .ok (.aload_n 0, 1) := by decide +kernel
theorem dX0_takeLook_19 : decode cX0_takeLook 19 = .ok (.iconst 0, 1) := by decide +kernel
theorem dX0_takeLook_20 : decode cX0_takeLook 20 = .ok (.bipush 20, 2) := by decide +kernel
theorem dX0_takeLook_22 : decode cX0_takeLook 22 = .ok (.invokevirtual 76, 3) := by decide +kernel
theorem dX0_takeLook_25 : decode cX0_takeLook 25 = .ok (.putfield 103, 3) := by decide +kernel
theorem dX0_takeLook_28 : decode cX0_takeLook 28 = .ok (.return_, 1) := by decide +kernel
theorem dX0_takeKeen_0 : decode cX0_takeKeen 0 = .ok (.aload_n 0, 1) := by decide +kernel
theorem dX0_takeKeen_1 : decode cX0_takeKeen 1 = .ok (.bipush 18, 2) := by decide +kernel
theorem dX0_takeKeen_3 : decode cX0_takeKeen 3 = .ok (.invokevirtual 84, 3) := by decide +kernel
theorem dX0_takeKeen_6 : decode cX0_takeKeen 6 = .ok (.aload_n 1, 1) := by decide +kernel
theorem dX0_takeKeen_7 : decode cX0_takeKeen 7 = .ok (.aload_n 0, 1) := by decide +kernel
theorem dX0_takeKeen_8 : decode cX0_takeKeen 8 = .ok (.iconst 1, 1) := by decide +kernel
theorem dX0_takeKeen_9 : decode cX0_takeKeen 9 = .ok (.bipush 10, 2) := by decide +kernel
theorem dX0_takeKeen_11 : decode cX0_takeKeen 11 = .ok (.invokevirtual 76, 3) := by decide +kernel
theorem dX0_takeKeen_14 : decode cX0_takeKeen 14 = .ok (.putfield 106, 3) := by decide +kernel
theorem dX0_takeKeen_17 : decode cX0_takeKeen 17 = .ok (.return_, 1) := by decide +kernel
theorem dX0_takeNumber_0 : decode cX0_takeNumber 0 = .ok (.aload_n 0, 1) := by decide +kernel
theorem dX0_takeNumber_1 : decode cX0_takeNumber 1 = .ok (.getfield 15, 3) := by decide +kernel
theorem dX0_takeNumber_4 : decode cX0_takeNumber 4 = .ok (.ifCond .ne 7, 3) := by decide +kernel
theorem dX0_takeNumber_7 : decode cX0_takeNumber 7 = .ok (.aload_n 0, 1) := by decide +kernel
theorem dX0_takeNumber_8 : decode cX0_takeNumber 8 = .ok (.invokevirtual 31, 3) := by decide +kernel
theorem dX0_takeNumber_11 : decode cX0_takeNumber 11 = .ok (.aload_n 0, 1) := by decide +kernel
theorem dX0_takeNumber_12 : decode cX0_takeNumber 12 = .ok (.getfield 15, 3) := by decide +kernel
theorem dX0_takeNumber_15 : decode cX0_takeNumber 15 = .ok (.ifCond .ne 16, 3) := by decide +kernel
theorem dX0_takeNumber_18 : decode cX0_takeNumber 18 = .ok (.aload_n 0, 1) := by decide +kernel
theorem dX0_takeNumber_19 : decode cX0_takeNumber 19 = .ok (.getfield 36, 3) := by decide +kernel
theorem dX0_takeNumber_22 : decode cX0_takeNumber 22 = .ok (.iconst 2, 1) := by decide +kernel
theorem dX0_takeNumber_23 : decode cX0_takeNumber 23 = .ok (.if_icmp .eq 8, 3) := by decide +kernel
theorem dX0_takeNumber_26 : decode cX0_takeNumber 26 = .ok (.aload_n 0, 1) := by decide +kernel
theorem dX0_takeNumber_27 : decode cX0_takeNumber 27 = .ok (.iconst 2, 1) := by decide +kernel
theorem dX0_takeNumber_28 : decode cX0_takeNumber 28 = .ok (.invokevirtual 43, 3) := by decide +kernel
theorem dX0_takeNumber_31 : decode cX0_takeNumber 31 = .ok (.aload_n 0, 1) := by decide +kernel
theorem dX0_takeNumber_32 : decode cX0_takeNumber 32 = .ok (.getfield 15, 3) := by decide +kernel
theorem dX0_takeNumber_35 : decode cX0_takeNumber 35 = .ok (.ifCond .ne 20, 3) := by decide +kernel
theorem dX0_takeNumber_38 : decode cX0_takeNumber 38 = .ok (.aload_n 0, 1) := by decide +kernel
theorem dX0_takeNumber_39 : decode cX0_takeNumber 39 = .ok (.getfield 47, 3) := by decide +kernel
theorem dX0_takeNumber_42 : decode cX0_takeNumber 42 = .ok (.iload_n 1, 1) := by decide +kernel
theorem dX0_takeNumber_43 : decode cX0_takeNumber 43 = .ok (.iload_n 2, 1) := by decide +kernel
theorem dX0_takeNumber_44 : decode cX0_takeNumber 44 = .ok (.invokestatic 109, 3) := by decide +kernel
theorem dX0_takeNumber_47 : decode cX0_takeNumber 47 = .ok (.ifCond .ne 8, 3) := by decide +kernel
theorem dX0_takeNumber_50 : decode cX0_takeNumber 50 = .ok (.aload_n 0, 1) := by decide +kernel
theorem dX0_takeNumber_51 : decode cX0_takeNumber 51 = .ok (.iconst 3, 1) := by decide +kernel
theorem dX0_takeNumber_52 : decode cX0_takeNumber 52 = .ok (.invokevirtual 43, 3) := by decide +kernel
theorem dX0_takeNumber_55 : decode cX0_takeNumber 55 = .ok (.aload_n 0, 1) := by decide +kernel
theorem dX0_takeNumber_56 : decode cX0_takeNumber 56 = .ok (.getfield 15, 3) := by decide +kernel
theorem dX0_takeNumber_59 : decode cX0_takeNumber 59 = .ok (.ifCond .ne 10, 3) := by decide +kernel
theorem dX0_takeNumber_62 : decode cX0_takeNumber 62 = .ok (.aload_n 0, 1) := by decide +kernel
theorem dX0_takeNumber_63 : decode cX0_takeNumber 63 = .ok (.getfield 47, 3) := by decide +kernel
theorem dX0_takeNumber_66 : decode cX0_takeNumber 66 = .ok (.goto 4, 3) := by decide +kernel
theorem dX0_takeNumber_69 : decode cX0_takeNumber 69 = .ok (.iconst 0, 1) := by decide +kernel
theorem dX0_takeNumber_70 : decode cX0_takeNumber 70 = .ok (.ireturn, 1) := by decide +kernel
theorem dX0_takeStop_0 : decode cX0_takeStop 0 = .ok (.aload_n 0, 1) := by decide +kernel
theorem dX0_takeStop_1 : decode cX0_takeStop 1 = .ok (.getfield 15, 3) := by decide +kernel
theorem dX0_takeStop_4 : decode cX0_takeStop 4 = .ok (.ifCond .ne 7, 3) := by decide +kernel
theorem dX0_takeStop_7 : decode cX0_takeStop 7 = .ok (.aload_n 0, 1) := by decide +kernel
theorem dX0_takeStop_8 : decode cX0_takeStop 8 = .ok (.invokevirtual 31, 3) := by decide +kernel
theorem dX0_takeStop_11 : decode cX0_takeStop 11 = .ok (.aload_n 0, 1) := by decide +kernel
theorem dX0_takeStop_12 : decode cX0_takeStop 12 = .ok (.getfield 15, 3) := by decide +kernel
theorem dX0_takeStop_15 : decode cX0_takeStop 15 = .ok (.ifCond .ne 16, 3) := by decide +kernel
theorem dX0_takeStop_18 : decode cX0_takeStop 18 = .ok (.aload_n 0, 1) := by decide +kernel
theorem dX0_takeStop_19 : decode cX0_takeStop 19 = .ok (.getfield 36, 3) := by decide +kernel
theorem dX0_takeStop_22 : decode cX0_takeStop 22 = .ok (.iconst 3, 1) := by decide +kernel
theorem dX0_takeStop_23 : decode cX0_takeStop 23 = .ok (.if_icmp .eq 8, 3) := by decide +kernel
theorem dX0_takeStop_26 : decode cX0_takeStop 26 = .ok (.aload_n 0, 1) := by decide +kernel
theorem dX0_takeStop_27 : decode cX0_takeStop 27 = .ok (.iconst 2, 1) := by decide +kernel
theorem dX0_takeStop_28 : decode cX0_takeStop 28 = .ok (.invokevirtual 43, 3) := by decide +kernel
theorem dX0_takeStop_31 : decode cX0_takeStop 31 = .ok (.return_, 1) := by decide +kernel
theorem dX0_tellOnce_0 : decode cX0_tellOnce 0 = .ok (.aload_n 0, 1) := by decide +kernel
theorem dX0_tellOnce_1 : decode cX0_tellOnce 1 = .ok (.getfield 15, 3) := by decide +kernel
theorem dX0_tellOnce_4 : decode cX0_tellOnce 4 = .ok (.ifCond .ne 19, 3) := by decide +kernel
theorem dX0_tellOnce_7 : decode cX0_tellOnce 7 = .ok (.aload_n 0, 1) := by decide +kernel
theorem dX0_tellOnce_8 : decode cX0_tellOnce 8 = .ok (.getfield 28, 3) := by decide +kernel
theorem dX0_tellOnce_11 : decode cX0_tellOnce 11 = .ok (.iload_n 1, 1) := by decide +kernel
theorem dX0_tellOnce_12 : decode cX0_tellOnce 12 = .ok (.ishr, 1) := by decide +kernel
theorem dX0_tellOnce_13 : decode cX0_tellOnce 13 = .ok (.iconst 1, 1) := by decide +kernel
theorem dX0_tellOnce_14 : decode cX0_tellOnce 14 = .ok (.iand, 1) := by decide +kernel
theorem dX0_tellOnce_15 : decode cX0_tellOnce 15 = .ok (.ifCond .eq 8, 3) := by decide +kernel
theorem dX0_tellOnce_18 : decode cX0_tellOnce 18 = .ok (.aload_n 0, 1) := by decide +kernel
theorem dX0_tellOnce_19 : decode cX0_tellOnce 19 = .ok (.iconst 4, 1) := by decide +kernel
theorem dX0_tellOnce_20 : decode cX0_tellOnce 20 = .ok (.invokevirtual 43, 3) := by decide +kernel
theorem dX0_tellOnce_23 : decode cX0_tellOnce 23 = .ok (.aload_n 0, 1) := by decide +kernel
theorem dX0_tellOnce_24 : decode cX0_tellOnce 24 = .ok (.dup, 1) := by decide +kernel
theorem dX0_tellOnce_25 : decode cX0_tellOnce 25 = .ok (.getfield 28, 3) := by decide +kernel
theorem dX0_tellOnce_28 : decode cX0_tellOnce 28 = .ok (.iconst 1, 1) := by decide +kernel
theorem dX0_tellOnce_29 : decode cX0_tellOnce 29 = .ok (.iload_n 1, 1) := by decide +kernel
theorem dX0_tellOnce_30 : decode cX0_tellOnce 30 = .ok (.ishl, 1) := by decide +kernel
theorem dX0_tellOnce_31 : decode cX0_tellOnce 31 = .ok (.ior, 1) := by decide +kernel
theorem dX0_tellOnce_32 : decode cX0_tellOnce 32 = .ok (.putfield 28, 3) := by decide +kernel
theorem dX0_tellOnce_35 : decode cX0_tellOnce 35 = .ok (.return_, 1) := by decide +kernel
theorem dX0_refuse_0 : decode cX0_refuse 0 = .ok (.aload_n 0, 1) := by decide +kernel
theorem dX0_refuse_1 : decode cX0_refuse 1 = .ok (.iload_n 1, 1) := by decide +kernel
theorem dX0_refuse_2 : decode cX0_refuse 2 = .ok (.putfield 15, 3) := by decide +kernel
theorem dX0_refuse_5 : decode cX0_refuse 5 = .ok (.aload_n 0, 1) := by decide +kernel
theorem dX0_refuse_6 : decode cX0_refuse 6 = .ok (.aload_n 0, 1) := by decide +kernel
theorem dX0_refuse_7 : decode cX0_refuse 7 = .ok (.getfield 113, 3) := by decide +kernel
theorem dX0_refuse_10 : decode cX0_refuse 10 = .ok (.putfield 19, 3) := by decide +kernel
theorem dX0_refuse_13 : decode cX0_refuse 13 = .ok (.return_, 1) := by decide +kernel
theorem dX0_readToken_0 : decode cX0_readToken 0 = .ok (.aload_n 0, 1) := by decide +kernel
theorem dX0_readToken_1 : decode cX0_readToken 1 = .ok (.aload_n 0, 1) := by decide +kernel
theorem dX0_readToken_2 : decode cX0_readToken 2 = .ok (.aload_n 0, 1) := by decide +kernel
theorem dX0_readToken_3 : decode cX0_readToken 3 = .ok (.getfield 25, 3) := by decide +kernel
theorem dX0_readToken_6 : decode cX0_readToken 6 = .ok (.bipush 32, 2) := by decide +kernel
theorem dX0_readToken_8 : decode cX0_readToken 8 = .ok (.bipush 32, 2) := by decide +kernel
theorem dX0_readToken_10 : decode cX0_readToken 10 = .ok (.invokevirtual 116, 3) := by decide +kernel
theorem dX0_readToken_13 : decode cX0_readToken 13 = .ok (.putfield 25, 3) := by decide +kernel
theorem dX0_readToken_16 : decode cX0_readToken 16 = .ok (.aload_n 0, 1) := by decide +kernel
theorem dX0_readToken_17 : decode cX0_readToken 17 = .ok (.aload_n 0, 1) := by decide +kernel
theorem dX0_readToken_18 : decode cX0_readToken 18 = .ok (.getfield 25, 3) := by decide +kernel
theorem dX0_readToken_21 : decode cX0_readToken 21 = .ok (.putfield 113, 3) := by decide +kernel
theorem dX0_readToken_24 : decode cX0_readToken 24 = .ok (.aload_n 0, 1) := by decide +kernel
theorem dX0_readToken_25 : decode cX0_readToken 25 = .ok (.getfield 25, 3) := by decide +kernel
theorem dX0_readToken_28 : decode cX0_readToken 28 = .ok (.aload_n 0, 1) := by decide +kernel
theorem dX0_readToken_29 : decode cX0_readToken 29 = .ok (.getfield 9, 3) := by decide +kernel
theorem dX0_readToken_32 : decode cX0_readToken 32 = .ok (.getfield 120, 3) := by decide +kernel
theorem dX0_readToken_35 : decode cX0_readToken 35 = .ok (.if_icmp .lt 9, 3) := by decide +kernel
theorem dX0_readToken_38 : decode cX0_readToken 38 = .ok (.aload_n 0, 1) := by decide +kernel
theorem dX0_readToken_39 : decode cX0_readToken 39 = .ok (.iconst 0, 1) := by decide +kernel
theorem dX0_readToken_40 : decode cX0_readToken 40 = .ok (.putfield 36, 3) := by decide +kernel
theorem dX0_readToken_43 : decode cX0_readToken 43 = .ok (.return_, 1) := by decide +kernel
theorem dX0_readToken_44 : decode cX0_readToken 44 = .ok (.aload_n 0, 1) := by decide +kernel
theorem dX0_readToken_45 : decode cX0_readToken 45 = .ok (.getfield 9, 3) := by decide +kernel
theorem dX0_readToken_48 : decode cX0_readToken 48 = .ok (.getfield 121, 3) := by decide +kernel
theorem dX0_readToken_51 : decode cX0_readToken 51 = .ok (.aload_n 0, 1) := by decide +kernel
theorem dX0_readToken_52 : decode cX0_readToken 52 = .ok (.getfield 25, 3) := by decide +kernel
theorem dX0_readToken_55 : decode cX0_readToken 55 = .ok (.baload, 1) := by decide +kernel
theorem dX0_readToken_56 : decode cX0_readToken 56 = .ok (.istore_n 1, 1) := by decide +kernel
theorem dX0_readToken_57 : decode cX0_readToken 57 = .ok (.iconst 1, 1) := by decide +kernel
theorem dX0_readToken_58 : decode cX0_readToken 58 = .ok (.istore_n 2, 1) := by decide +kernel
theorem dX0_readToken_59 : decode cX0_readToken 59 = .ok (.iload_n 1, 1) := by decide +kernel
theorem dX0_readToken_60 : decode cX0_readToken 60 = .ok (.bipush 97, 2) := by decide +kernel
theorem dX0_readToken_62 : decode cX0_readToken 62 = .ok (.bipush 122, 2) := by decide +kernel
theorem dX0_readToken_64 : decode cX0_readToken 64 = .ok (.invokestatic 109, 3) := by decide +kernel
theorem dX0_readToken_67 : decode cX0_readToken 67 = .ok (.ifCond .eq 43, 3) := by decide +kernel
theorem dX0_readToken_70 : decode cX0_readToken 70 = .ok (.aload_n 0, 1) := by decide +kernel
theorem dX0_readToken_71 : decode cX0_readToken 71 = .ok (.iconst 1, 1) := by decide +kernel
theorem dX0_readToken_72 : decode cX0_readToken 72 = .ok (.putfield 36, 3) := by decide +kernel
theorem dX0_readToken_75 : decode cX0_readToken 75 = .ok (.aload_n 0, 1) := by decide +kernel
theorem dX0_readToken_76 : decode cX0_readToken 76 = .ok (.aload_n 0, 1) := by decide +kernel
theorem dX0_readToken_77 : decode cX0_readToken 77 = .ok (.aload_n 0, 1) := by decide +kernel
theorem dX0_readToken_78 : decode cX0_readToken 78 = .ok (.getfield 25, 3) := by decide +kernel
theorem dX0_readToken_81 : decode cX0_readToken 81 = .ok (.bipush 97, 2) := by decide +kernel
theorem dX0_readToken_83 : decode cX0_readToken 83 = .ok (.bipush 122, 2) := by decide +kernel
theorem dX0_readToken_85 : decode cX0_readToken 85 = .ok (.invokevirtual 116, 3) := by decide +kernel
theorem dX0_readToken_88 : decode cX0_readToken 88 = .ok (.putfield 25, 3) := by decide +kernel
theorem dX0_readToken_91 : decode cX0_readToken 91 = .ok (.aload_n 0, 1) := by decide +kernel
theorem dX0_readToken_92 : decode cX0_readToken 92 = .ok (.aload_n 0, 1) := by decide +kernel
theorem dX0_readToken_93 : decode cX0_readToken 93 = .ok (.invokevirtual 125, 3) := by decide +kernel
theorem dX0_readToken_96 : decode cX0_readToken 96 = .ok (.putfield 47, 3) := by decide +kernel
theorem dX0_readToken_99 : decode cX0_readToken 99 = .ok (.aload_n 0, 1) := by decide +kernel
theorem dX0_readToken_100 : decode cX0_readToken 100 = .ok (.getfield 47, 3) := by decide +kernel
theorem dX0_readToken_103 : decode cX0_readToken 103 = .ok (.invokestatic 129, 3) := by decide +kernel
theorem dX0_readToken_106 : decode cX0_readToken 106 = .ok (.istore_n 2, 1) := by decide +kernel
theorem dX0_readToken_107 : decode cX0_readToken 107 = .ok (.goto 92, 3) := by decide +kernel
theorem dX0_readToken_110 : decode cX0_readToken 110 = .ok (.iload_n 1, 1) := by decide +kernel
theorem dX0_readToken_111 : decode cX0_readToken 111 = .ok (.bipush 48, 2) := by decide +kernel
theorem dX0_readToken_113 : decode cX0_readToken 113 = .ok (.bipush 57, 2) := by decide +kernel
theorem dX0_readToken_115 : decode cX0_readToken 115 = .ok (.invokestatic 109, 3) := by decide +kernel
theorem dX0_readToken_118 : decode cX0_readToken 118 = .ok (.ifCond .eq 54, 3) := by decide +kernel
theorem dX0_readToken_121 : decode cX0_readToken 121 = .ok (.aload_n 0, 1) := by decide +kernel
theorem dX0_readToken_122 : decode cX0_readToken 122 = .ok (.iconst 2, 1) := by decide +kernel
theorem dX0_readToken_123 : decode cX0_readToken 123 = .ok (.putfield 36, 3) := by decide +kernel
theorem dX0_readToken_126 : decode cX0_readToken 126 = .ok (.aload_n 0, 1) := by decide +kernel
theorem dX0_readToken_127 : decode cX0_readToken 127 = .ok (.aload_n 0, 1) := by decide +kernel
theorem dX0_readToken_128 : decode cX0_readToken 128 = .ok (.aload_n 0, 1) := by decide +kernel
theorem dX0_readToken_129 : decode cX0_readToken 129 = .ok (.getfield 25, 3) := by decide +kernel
theorem dX0_readToken_132 : decode cX0_readToken 132 = .ok (.bipush 48, 2) := by decide +kernel
theorem dX0_readToken_134 : decode cX0_readToken 134 = .ok (.bipush 57, 2) := by decide +kernel
theorem dX0_readToken_136 : decode cX0_readToken 136 = .ok (.invokevirtual 116, 3) := by decide +kernel
theorem dX0_readToken_139 : decode cX0_readToken 139 = .ok (.putfield 25, 3) := by decide +kernel
theorem dX0_readToken_142 : decode cX0_readToken 142 = .ok (.aload_n 0, 1) := by decide +kernel
theorem dX0_readToken_143 : decode cX0_readToken 143 = .ok (.aload_n 0, 1) := by decide +kernel
theorem dX0_readToken_144 : decode cX0_readToken 144 = .ok (.invokevirtual 133, 3) := by decide +kernel
theorem dX0_readToken_147 : decode cX0_readToken 147 = .ok (.putfield 47, 3) := by decide +kernel
theorem dX0_readToken_150 : decode cX0_readToken 150 = .ok (.aload_n 0, 1) := by decide +kernel
theorem dX0_readToken_151 : decode cX0_readToken 151 = .ok (.getfield 25, 3) := by decide +kernel
theorem dX0_readToken_154 : decode cX0_readToken 154 = .ok (.aload_n 0, 1) := by decide +kernel
theorem dX0_readToken_155 : decode cX0_readToken 155 = .ok (.getfield 113, 3) := by decide +kernel
theorem dX0_readToken_158 : decode cX0_readToken 158 = .ok (.isub, 1) := by decide +kernel
theorem dX0_readToken_159 : decode cX0_readToken 159 = .ok (.iconst 2, 1) := by decide +kernel
theorem dX0_readToken_160 : decode cX0_readToken 160 = .ok (.if_icmp .gt 7, 3) := by decide +kernel
theorem dX0_readToken_163 : decode cX0_readToken 163 = .ok (.iconst 1, 1) := by decide +kernel
theorem dX0_readToken_164 : decode cX0_readToken 164 = .ok (.goto 4, 3) := by decide +kernel
theorem dX0_readToken_167 : decode cX0_readToken 167 = .ok (.iconst 0, 1) := by decide +kernel
theorem dX0_readToken_168 : decode cX0_readToken 168 = .ok (.istore_n 2, 1) := by decide +kernel
theorem dX0_readToken_169 : decode cX0_readToken 169 = .ok (.goto 30, 3) := by decide +kernel
theorem dX0_readToken_172 : decode cX0_readToken 172 = .ok (.aload_n 0, 1) := by decide +kernel
theorem dX0_readToken_173 : decode cX0_readToken 173 = .ok (.iconst 3, 1) := by decide +kernel
theorem dX0_readToken_174 : decode cX0_readToken 174 = .ok (.putfield 36, 3) := by decide +kernel
theorem dX0_readToken_177 : decode cX0_readToken 177 = .ok (.aload_n 0, 1) := by decide +kernel
theorem dX0_readToken_178 : decode cX0_readToken 178 = .ok (.dup, 1) := by decide +kernel
theorem dX0_readToken_179 : decode cX0_readToken 179 = .ok (.getfield 25, 3) := by decide +kernel
theorem dX0_readToken_182 : decode cX0_readToken 182 = .ok (.iconst 1, 1) := by decide +kernel
theorem dX0_readToken_183 : decode cX0_readToken 183 = .ok (.iadd, 1) := by decide +kernel
theorem dX0_readToken_184 : decode cX0_readToken 184 = .ok (.putfield 25, 3) := by decide +kernel
theorem dX0_readToken_187 : decode cX0_readToken 187 = .ok (.iload_n 1, 1) := by decide +kernel
theorem dX0_readToken_188 : decode cX0_readToken 188 = .ok (.bipush 59, 2) := by decide +kernel
theorem dX0_readToken_190 : decode cX0_readToken 190 = .ok (.if_icmp .ne 7, 3) := by decide +kernel
theorem dX0_readToken_193 : decode cX0_readToken 193 = .ok (.iconst 1, 1) := by decide +kernel
theorem dX0_readToken_194 : decode cX0_readToken 194 = .ok (.goto 4, 3) := by decide +kernel
theorem dX0_readToken_197 : decode cX0_readToken 197 = .ok (.iconst 0, 1) := by decide +kernel
theorem dX0_readToken_198 : decode cX0_readToken 198 = .ok (.istore_n 2, 1) := by decide +kernel
theorem dX0_readToken_199 : decode cX0_readToken 199 = .ok (.iload_n 2, 1) := by decide +kernel
theorem dX0_readToken_200 : decode cX0_readToken 200 = .ok (.ifCond .ne 8, 3) := by decide +kernel
theorem dX0_readToken_203 : decode cX0_readToken 203 = .ok (.aload_n 0, 1) := by decide +kernel
theorem dX0_readToken_204 : decode cX0_readToken 204 = .ok (.iconst 1, 1) := by decide +kernel
theorem dX0_readToken_205 : decode cX0_readToken 205 = .ok (.invokevirtual 43, 3) := by decide +kernel
theorem dX0_readToken_208 : decode cX0_readToken 208 = .ok (.return_, 1) := by decide +kernel
theorem dX0_nameAtHand_0 : decode cX0_nameAtHand 0 = .ok (.aload_n 0, 1) := by decide +kernel
theorem dX0_nameAtHand_1 : decode cX0_nameAtHand 1 = .ok (.getfield 25, 3) := by decide +kernel
theorem dX0_nameAtHand_4 : decode cX0_nameAtHand 4 = .ok (.aload_n 0, 1) := by decide +kernel
theorem dX0_nameAtHand_5 : decode cX0_nameAtHand 5 = .ok (.getfield 113, 3) := by decide +kernel
theorem dX0_nameAtHand_8 : decode cX0_nameAtHand 8 = .ok (.isub, 1) := by decide +kernel
theorem dX0_nameAtHand_9 : decode cX0_nameAtHand 9 = .ok (.iconst 4, 1) := by decide +kernel
theorem dX0_nameAtHand_10 : decode cX0_nameAtHand 10 = .ok (.if_icmp .eq 5, 3) := by decide +kernel
theorem dX0_nameAtHand_13 : decode cX0_nameAtHand 13 = .ok (.iconst 0, 1) := by decide +kernel
theorem dX0_nameAtHand_14 : decode cX0_nameAtHand 14 = .ok (.ireturn, 1) := by decide +kernel
theorem dX0_nameAtHand_15 : decode cX0_nameAtHand 15 = .ok (.iconst 0, 1) := by decide +kernel
theorem dX0_nameAtHand_16 : decode cX0_nameAtHand 16 = .ok (.istore_n 1, 1) := by decide +kernel
theorem dX0_nameAtHand_17 : decode cX0_nameAtHand 17 = .ok (.aload_n 0, 1) := by decide +kernel
theorem dX0_nameAtHand_18 : decode cX0_nameAtHand 18 = .ok (.getfield 113, 3) := by decide +kernel
theorem dX0_nameAtHand_21 : decode cX0_nameAtHand 21 = .ok (.istore_n 2, 1) := by decide +kernel
theorem dX0_nameAtHand_22 : decode cX0_nameAtHand 22 = .ok (.iload_n 2, 1) := by decide +kernel
theorem dX0_nameAtHand_23 : decode cX0_nameAtHand 23 = .ok (.aload_n 0, 1) := by decide +kernel
theorem dX0_nameAtHand_24 : decode cX0_nameAtHand 24 = .ok (.getfield 25, 3) := by decide +kernel
theorem dX0_nameAtHand_27 : decode cX0_nameAtHand 27 = .ok (.if_icmp .ge 24, 3) := by decide +kernel
theorem dX0_nameAtHand_30 : decode cX0_nameAtHand 30 = .ok (.iload_n 1, 1) := by decide +kernel
theorem dX0_nameAtHand_31 : decode cX0_nameAtHand 31 = .ok (.bipush 8, 2) := by decide +kernel
theorem dX0_nameAtHand_33 : decode cX0_nameAtHand 33 = .ok (.ishl, 1) := by decide +kernel
theorem dX0_nameAtHand_34 : decode cX0_nameAtHand 34 = .ok (.aload_n 0, 1) := by decide +kernel
theorem dX0_nameAtHand_35 : decode cX0_nameAtHand 35 = .ok (.getfield 9, 3) := by decide +kernel
theorem dX0_nameAtHand_38 : decode cX0_nameAtHand 38 = .ok (.getfield 121, 3) := by decide +kernel
theorem dX0_nameAtHand_41 : decode cX0_nameAtHand 41 = .ok (.iload_n 2, 1) := by decide +kernel
theorem dX0_nameAtHand_42 : decode cX0_nameAtHand 42 = .ok (.baload, 1) := by decide +kernel
theorem dX0_nameAtHand_43 : decode cX0_nameAtHand 43 = .ok (.ior, 1) := by decide +kernel
theorem dX0_nameAtHand_44 : decode cX0_nameAtHand 44 = .ok (.istore_n 1, 1) := by decide +kernel
theorem dX0_nameAtHand_45 : decode cX0_nameAtHand 45 = .ok (.iinc 2 1, 3) := by decide +kernel
theorem dX0_nameAtHand_48 : decode cX0_nameAtHand 48 = .ok (.goto (-26), 3) := by decide +kernel
theorem dX0_nameAtHand_51 : decode cX0_nameAtHand 51 = .ok (.iload_n 1, 1) := by decide +kernel
theorem dX0_nameAtHand_52 : decode cX0_nameAtHand 52 = .ok (.ireturn, 1) := by decide +kernel
theorem dX0_numberAtHand_0 : decode cX0_numberAtHand 0 = .ok (.iconst 0, 1) := by decide +kernel
theorem dX0_numberAtHand_1 : decode cX0_numberAtHand 1 = .ok (.istore_n 1, 1) := by decide +kernel
theorem dX0_numberAtHand_2 : decode cX0_numberAtHand 2 = .ok (.aload_n 0, 1) := by decide +kernel
theorem dX0_numberAtHand_3 : decode cX0_numberAtHand 3 = .ok (.getfield 113, 3) := by decide +kernel
theorem dX0_numberAtHand_6 : decode cX0_numberAtHand 6 = .ok (.istore_n 2, 1) := by decide +kernel
theorem dX0_numberAtHand_7 : decode cX0_numberAtHand 7 = .ok (.iload_n 2, 1) := by decide +kernel
theorem dX0_numberAtHand_8 : decode cX0_numberAtHand 8 = .ok (.aload_n 0, 1) := by decide +kernel
theorem dX0_numberAtHand_9 : decode cX0_numberAtHand 9 = .ok (.getfield 25, 3) := by decide +kernel
theorem dX0_numberAtHand_12 : decode cX0_numberAtHand 12 = .ok (.if_icmp .ge 27, 3) := by decide +kernel
theorem dX0_numberAtHand_15 : decode cX0_numberAtHand 15 = .ok (.bipush 10, 2) := by decide +kernel
theorem dX0_numberAtHand_17 : decode cX0_numberAtHand 17 = .ok (.iload_n 1, 1) := by decide +kernel
theorem dX0_numberAtHand_18 : decode cX0_numberAtHand 18 = .ok (.imul, 1) := by decide +kernel
theorem dX0_numberAtHand_19 : decode cX0_numberAtHand 19 = .ok (.aload_n 0, 1) := by decide +kernel
theorem dX0_numberAtHand_20 : decode cX0_numberAtHand 20 = .ok (.getfield 9, 3) := by decide +kernel
theorem dX0_numberAtHand_23 : decode cX0_numberAtHand 23 = .ok (.getfield 121, 3) := by decide +kernel
theorem dX0_numberAtHand_26 : decode cX0_numberAtHand 26 = .ok (.iload_n 2, 1) := by decide +kernel
theorem dX0_numberAtHand_27 : decode cX0_numberAtHand 27 = .ok (.baload, 1) := by decide +kernel
theorem dX0_numberAtHand_28 : decode cX0_numberAtHand 28 = .ok (.iadd, 1) := by decide +kernel
theorem dX0_numberAtHand_29 : decode cX0_numberAtHand 29 = .ok (.bipush 48, 2) := by decide +kernel
theorem dX0_numberAtHand_31 : decode cX0_numberAtHand 31 = .ok (.isub, 1) := by decide +kernel
theorem dX0_numberAtHand_32 : decode cX0_numberAtHand 32 = .ok (.istore_n 1, 1) := by decide +kernel
theorem dX0_numberAtHand_33 : decode cX0_numberAtHand 33 = .ok (.iinc 2 1, 3) := by decide +kernel
theorem dX0_numberAtHand_36 : decode cX0_numberAtHand 36 = .ok (.goto (-29), 3) := by decide +kernel
theorem dX0_numberAtHand_39 : decode cX0_numberAtHand 39 = .ok (.iload_n 1, 1) := by decide +kernel
theorem dX0_numberAtHand_40 : decode cX0_numberAtHand 40 = .ok (.ireturn, 1) := by decide +kernel
theorem dX0_isKnown_0 : decode cX0_isKnown 0 = .ok (.iload_n 0, 1) := by decide +kernel
theorem dX0_isKnown_1 : decode cX0_isKnown 1 = .ok (.lookupswitch 61 #[(1717660012, 59), (1801807214, 59), (1819242347, 59), (1835102827, 59), (1836413812, 59), (1936683636, 59)], 59) := by decide +kernel
theorem dX0_isKnown_60 : decode cX0_isKnown 60 = .ok (.iconst 1, 1) := by decide +kernel
theorem dX0_isKnown_61 : decode cX0_isKnown 61 = .ok (.ireturn, 1) := by decide +kernel
theorem dX0_isKnown_62 : decode cX0_isKnown 62 = .ok (.iconst 0, 1) := by decide +kernel
theorem dX0_isKnown_63 : decode cX0_isKnown 63 = .ok (.ireturn, 1) := by decide +kernel
theorem dX0_endOfRun_0 : decode cX0_endOfRun 0 = .ok (.iload_n 1, 1) := by decide +kernel
theorem dX0_endOfRun_1 : decode cX0_endOfRun 1 = .ok (.istore 4, 2) := by decide +kernel
theorem dX0_endOfRun_3 : decode cX0_endOfRun 3 = .ok (.iload 4, 2) := by decide +kernel
theorem dX0_endOfRun_5 : decode cX0_endOfRun 5 = .ok (.aload_n 0, 1) := by decide +kernel
theorem dX0_endOfRun_6 : decode cX0_endOfRun 6 = .ok (.getfield 9, 3) := by decide +kernel
theorem dX0_endOfRun_9 : decode cX0_endOfRun 9 = .ok (.getfield 120, 3) := by decide +kernel
theorem dX0_endOfRun_12 : decode cX0_endOfRun 12 = .ok (.if_icmp .ge 37, 3) := by decide +kernel
theorem dX0_endOfRun_15 : decode cX0_endOfRun 15 = .ok (.aload_n 0, 1) := by decide +kernel
theorem dX0_endOfRun_16 : decode cX0_endOfRun 16 = .ok (.getfield 9, 3) := by decide +kernel
theorem dX0_endOfRun_19 : decode cX0_endOfRun 19 = .ok (.getfield 121, 3) := by decide +kernel
theorem dX0_endOfRun_22 : decode cX0_endOfRun 22 = .ok (.iload 4, 2) := by decide +kernel
theorem dX0_endOfRun_24 : decode cX0_endOfRun 24 = .ok (.baload, 1) := by decide +kernel
theorem dX0_endOfRun_25 : decode cX0_endOfRun 25 = .ok (.iload_n 2, 1) := by decide +kernel
theorem dX0_endOfRun_26 : decode cX0_endOfRun 26 = .ok (.if_icmp .lt 23, 3) := by decide +kernel
theorem dX0_endOfRun_29 : decode cX0_endOfRun 29 = .ok (.aload_n 0, 1) := by decide +kernel
theorem dX0_endOfRun_30 : decode cX0_endOfRun 30 = .ok (.getfield 9, 3) := by decide +kernel
theorem dX0_endOfRun_33 : decode cX0_endOfRun 33 = .ok (.getfield 121, 3) := by decide +kernel
theorem dX0_endOfRun_36 : decode cX0_endOfRun 36 = .ok (.iload 4, 2) := by decide +kernel
theorem dX0_endOfRun_38 : decode cX0_endOfRun 38 = .ok (.baload, 1) := by decide +kernel
theorem dX0_endOfRun_39 : decode cX0_endOfRun 39 = .ok (.iload_n 3, 1) := by decide +kernel
theorem dX0_endOfRun_40 : decode cX0_endOfRun 40 = .ok (.if_icmp .gt 9, 3) := by decide +kernel
theorem dX0_endOfRun_43 : decode cX0_endOfRun 43 = .ok (.iinc 4 1, 3) := by decide +kernel
theorem dX0_endOfRun_46 : decode cX0_endOfRun 46 = .ok (.goto (-43), 3) := by decide +kernel
theorem dX0_endOfRun_49 : decode cX0_endOfRun 49 = .ok (.iload 4, 2) := by decide +kernel
theorem dX0_endOfRun_51 : decode cX0_endOfRun 51 = .ok (.ireturn, 1) := by decide +kernel
theorem dX1_init_0 : decode cX1_init 0 = .ok (.aload_n 0, 1) := by decide +kernel
theorem dX1_init_1 : decode cX1_init 1 = .ok (.invokespecial 3, 3) := by decide +kernel
theorem dX1_init_4 : decode cX1_init 4 = .ok (.aload_n 0, 1) := by decide +kernel
theorem dX1_init_5 : decode cX1_init 5 = .ok (.bipush 40, 2) := by decide +kernel
theorem dX1_init_7 : decode cX1_init 7 = .ok (.newarray .int, 2) := by decide +kernel
theorem dX1_init_9 : decode cX1_init 9 = .ok (.putfield 9, 3) := by decide +kernel
theorem dX1_init_12 : decode cX1_init 12 = .ok (.aload_n 0, 1) := by decide +kernel
theorem dX1_init_13 : decode cX1_init 13 = .ok (.iconst (-1), 1) := by decide +kernel
theorem dX1_init_14 : decode cX1_init 14 = .ok (.putfield 15, 3) := by decide +kernel
theorem dX1_init_17 : decode cX1_init 17 = .ok (.return_, 1) := by decide +kernel
theorem dX1_renew_0 : decode cX1_renew 0 = .ok (.aload_n 0, 1) := by decide +kernel
theorem dX1_renew_1 : decode cX1_renew 1 = .ok (.iload_n 1, 1) := by decide +kernel
theorem dX1_renew_2 : decode cX1_renew 2 = .ok (.putfield 19, 3) := by decide +kernel
theorem dX1_renew_5 : decode cX1_renew 5 = .ok (.aload_n 0, 1) := by decide +kernel
theorem dX1_renew_6 : decode cX1_renew 6 = .ok (.iload_n 2, 1) := by decide +kernel
theorem dX1_renew_7 : decode cX1_renew 7 = .ok (.putfield 15, 3) := by decide +kernel
theorem dX1_renew_10 : decode cX1_renew 10 = .ok (.iconst 0, 1) := by decide +kernel
theorem dX1_renew_11 : decode cX1_renew 11 = .ok (.istore_n 3, 1) := by decide +kernel
theorem dX1_renew_12 : decode cX1_renew 12 = .ok (.iload_n 3, 1) := by decide +kernel
theorem dX1_renew_13 : decode cX1_renew 13 = .ok (.bipush 40, 2) := by decide +kernel
theorem dX1_renew_15 : decode cX1_renew 15 = .ok (.if_icmp .ge 16, 3) := by decide +kernel
theorem dX1_renew_18 : decode cX1_renew 18 = .ok (.aload_n 0, 1) := by decide +kernel
theorem dX1_renew_19 : decode cX1_renew 19 = .ok (.getfield 9, 3) := by decide +kernel
theorem dX1_renew_22 : decode cX1_renew 22 = .ok (.iload_n 3, 1) := by decide +kernel
theorem dX1_renew_23 : decode cX1_renew 23 = .ok (.iconst 0, 1) := by decide +kernel
theorem dX1_renew_24 : decode cX1_renew 24 = .ok (.iastore, 1) := by decide +kernel
theorem dX1_renew_25 : decode cX1_renew 25 = .ok (.iinc 3 1, 3) := by decide +kernel
theorem dX1_renew_28 : decode cX1_renew 28 = .ok (.goto (-16), 3) := by decide +kernel
theorem dX1_renew_31 : decode cX1_renew 31 = .ok (.return_, 1) := by decide +kernel
theorem dX1_lowestBits_0 : decode cX1_lowestBits 0 = .ok (.aload_n 0, 1) := by decide +kernel
theorem dX1_lowestBits_1 : decode cX1_lowestBits 1 = .ok (.getfield 19, 3) := by decide +kernel
theorem dX1_lowestBits_4 : decode cX1_lowestBits 4 = .ok (.ifCond .ne 6, 3) := by decide +kernel
theorem dX1_lowestBits_7 : decode cX1_lowestBits 7 = .ok (.iload_n 1, 1) := by decide +kernel
theorem dX1_lowestBits_8 : decode cX1_lowestBits 8 = .ok (.i2b, 1) := by decide +kernel
theorem dX1_lowestBits_9 : decode cX1_lowestBits 9 = .ok (.ireturn, 1) := by decide +kernel
theorem dX1_lowestBits_10 : decode cX1_lowestBits 10 = .ok (.aload_n 0, 1) := by decide +kernel
theorem dX1_lowestBits_11 : decode cX1_lowestBits 11 = .ok (.getfield 19, 3) := by decide +kernel
theorem dX1_lowestBits_14 : decode cX1_lowestBits 14 = .ok (.iconst 1, 1) := by decide +kernel
theorem dX1_lowestBits_15 : decode cX1_lowestBits 15 = .ok (.if_icmp .ne 8, 3) := by decide +kernel
theorem dX1_lowestBits_18 : decode cX1_lowestBits 18 = .ok (.iload_n 1, 1) := by decide +kernel
theorem dX1_lowestBits_19 : decode cX1_lowestBits 19 = .ok (.i2s, 1) := by decide +kernel
theorem dX1_lowestBits_20 : decode cX1_lowestBits 20 = .ok (.goto 4, 3) := by decide +kernel
theorem dX1_lowestBits_23 : decode cX1_lowestBits 23 = .ok (.iload_n 1, 1) := by decide +kernel
theorem dX1_lowestBits_24 : decode cX1_lowestBits 24 = .ok (.ireturn, 1) := by decide +kernel
theorem dX1_faultAt_0 : decode cX1_faultAt 0 = .ok (.aload_n 0, 1) := by decide +kernel
theorem dX1_faultAt_1 : decode cX1_faultAt 1 = .ok (.getfield 15, 3) := by decide +kernel
theorem dX1_faultAt_4 : decode cX1_faultAt 4 = .ok (.ifCond .ge 5, 3) := by decide +kernel
theorem dX1_faultAt_7 : decode cX1_faultAt 7 = .ok (.iconst 1, 1) := by decide +kernel
theorem dX1_faultAt_8 : decode cX1_faultAt 8 = .ok (.ireturn, 1) := by decide +kernel
theorem dX1_faultAt_9 : decode cX1_faultAt 9 = .ok (.iload_n 1, 1) := by decide +kernel
theorem dX1_faultAt_10 : decode cX1_faultAt 10 = .ok (.aload_n 0, 1) := by decide +kernel
theorem dX1_faultAt_11 : decode cX1_faultAt 11 = .ok (.getfield 19, 3) := by decide +kernel
theorem dX1_faultAt_14 : decode cX1_faultAt 14 = .ok (.if_icmp .eq 5, 3) := by decide +kernel
theorem dX1_faultAt_17 : decode cX1_faultAt 17 = .ok (.iconst 3, 1) := by decide +kernel
theorem dX1_faultAt_18 : decode cX1_faultAt 18 = .ok (.ireturn, 1) := by decide +kernel
theorem dX1_faultAt_19 : decode cX1_faultAt 19 = .ok (.iload_n 2, 1) := by decide +kernel
theorem dX1_faultAt_20 : decode cX1_faultAt 20 = .ok (.iconst 0, 1) := by decide +kernel
theorem dX1_faultAt_21 : decode cX1_faultAt 21 = .ok (.aload_n 0, 1) := by decide +kernel
theorem dX1_faultAt_22 : decode cX1_faultAt 22 = .ok (.getfield 15, 3) := by decide +kernel
theorem dX1_faultAt_25 : decode cX1_faultAt 25 = .ok (.iload_n 3, 1) := by decide +kernel
theorem dX1_faultAt_26 : decode cX1_faultAt 26 = .ok (.isub, 1) := by decide +kernel
theorem dX1_faultAt_27 : decode cX1_faultAt 27 = .ok (.invokestatic 22, 3) := by decide +kernel
theorem dX1_faultAt_30 : decode cX1_faultAt 30 = .ok (.ifCond .eq 7, 3) := by decide +kernel
theorem dX1_faultAt_33 : decode cX1_faultAt 33 = .ok (.iconst 0, 1) := by decide +kernel
theorem dX1_faultAt_34 : decode cX1_faultAt 34 = .ok (.goto 4, 3) := by decide +kernel
theorem dX1_faultAt_37 : decode cX1_faultAt 37 = .ok (.iconst 2, 1) := by decide +kernel
theorem dX1_faultAt_38 : decode cX1_faultAt 38 = .ok (.ireturn, 1) := by decide +kernel
theorem dX1_tellsSortAt_0 : decode cX1_tellsSortAt 0 = .ok (.aload_n 0, 1) := by decide +kernel
theorem dX1_tellsSortAt_1 : decode cX1_tellsSortAt 1 = .ok (.getfield 9, 3) := by decide +kernel
theorem dX1_tellsSortAt_4 : decode cX1_tellsSortAt 4 = .ok (.iload_n 1, 1) := by decide +kernel
theorem dX1_tellsSortAt_5 : decode cX1_tellsSortAt 5 = .ok (.iaload, 1) := by decide +kernel
theorem dX1_tellsSortAt_6 : decode cX1_tellsSortAt 6 = .ok (.aload_n 0, 1) := by decide +kernel
theorem dX1_tellsSortAt_7 : decode cX1_tellsSortAt 7 = .ok (.getfield 9, 3) := by decide +kernel
theorem dX1_tellsSortAt_10 : decode cX1_tellsSortAt 10 = .ok (.iload_n 1, 1) := by decide +kernel
theorem dX1_tellsSortAt_11 : decode cX1_tellsSortAt 11 = .ok (.iconst 1, 1) := by decide +kernel
theorem dX1_tellsSortAt_12 : decode cX1_tellsSortAt 12 = .ok (.iadd, 1) := by decide +kernel
theorem dX1_tellsSortAt_13 : decode cX1_tellsSortAt 13 = .ok (.iaload, 1) := by decide +kernel
theorem dX1_tellsSortAt_14 : decode cX1_tellsSortAt 14 = .ok (.aload_n 0, 1) := by decide +kernel
theorem dX1_tellsSortAt_15 : decode cX1_tellsSortAt 15 = .ok (.getfield 9, 3) := by decide +kernel
theorem dX1_tellsSortAt_18 : decode cX1_tellsSortAt 18 = .ok (.iload_n 1, 1) := by decide +kernel
theorem dX1_tellsSortAt_19 : decode cX1_tellsSortAt 19 = .ok (.iconst 2, 1) := by decide +kernel
theorem dX1_tellsSortAt_20 : decode cX1_tellsSortAt 20 = .ok (.iadd, 1) := by decide +kernel
theorem dX1_tellsSortAt_21 : decode cX1_tellsSortAt 21 = .ok (.iaload, 1) := by decide +kernel
theorem dX1_tellsSortAt_22 : decode cX1_tellsSortAt 22 = .ok (.aload_n 0, 1) := by decide +kernel
theorem dX1_tellsSortAt_23 : decode cX1_tellsSortAt 23 = .ok (.getfield 9, 3) := by decide +kernel
theorem dX1_tellsSortAt_26 : decode cX1_tellsSortAt 26 = .ok (.iload_n 1, 1) := by decide +kernel
theorem dX1_tellsSortAt_27 : decode cX1_tellsSortAt 27 = .ok (.iconst 3, 1) := by decide +kernel
theorem dX1_tellsSortAt_28 : decode cX1_tellsSortAt 28 = .ok (.iadd, 1) := by decide +kernel
theorem dX1_tellsSortAt_29 : decode cX1_tellsSortAt 29 = .ok (.iaload, 1) := by decide +kernel
theorem dX1_tellsSortAt_30 : decode cX1_tellsSortAt 30 = .ok (.invokestatic 26, 3) := by decide +kernel
theorem dX1_tellsSortAt_33 : decode cX1_tellsSortAt 33 = .ok (.ireturn, 1) := by decide +kernel
theorem dX1_addSortAt_0 : decode cX1_addSortAt 0 = .ok (.aload_n 2, 1) := by decide +kernel
theorem dX1_addSortAt_1 : decode cX1_addSortAt 1 = .ok (.aload_n 0, 1) := by decide +kernel
theorem dX1_addSortAt_2 : decode cX1_addSortAt 2 = .ok (.getfield 9, 3) := by decide +kernel
theorem dX1_addSortAt_5 : decode cX1_addSortAt 5 = .ok (.iload_n 1, 1) := by decide +kernel
theorem dX1_addSortAt_6 : decode cX1_addSortAt 6 = .ok (.iaload, 1) := by decide +kernel
theorem dX1_addSortAt_7 : decode cX1_addSortAt 7 = .ok (.aload_n 0, 1) := by decide +kernel
theorem dX1_addSortAt_8 : decode cX1_addSortAt 8 = .ok (.getfield 9, 3) := by decide +kernel
theorem dX1_addSortAt_11 : decode cX1_addSortAt 11 = .ok (.iload_n 1, 1) := by decide +kernel
theorem dX1_addSortAt_12 : decode cX1_addSortAt 12 = .ok (.iconst 1, 1) := by decide +kernel
theorem dX1_addSortAt_13 : decode cX1_addSortAt 13 = .ok (.iadd, 1) := by decide +kernel
theorem dX1_addSortAt_14 : decode cX1_addSortAt 14 = .ok (.iaload, 1) := by decide +kernel
theorem dX1_addSortAt_15 : decode cX1_addSortAt 15 = .ok (.aload_n 0, 1) := by decide +kernel
theorem dX1_addSortAt_16 : decode cX1_addSortAt 16 = .ok (.getfield 9, 3) := by decide +kernel
theorem dX1_addSortAt_19 : decode cX1_addSortAt 19 = .ok (.iload_n 1, 1) := by decide +kernel
theorem dX1_addSortAt_20 : decode cX1_addSortAt 20 = .ok (.iconst 2, 1) := by decide +kernel
theorem dX1_addSortAt_21 : decode cX1_addSortAt 21 = .ok (.iadd, 1) := by decide +kernel
theorem dX1_addSortAt_22 : decode cX1_addSortAt 22 = .ok (.iaload, 1) := by decide +kernel
theorem dX1_addSortAt_23 : decode cX1_addSortAt 23 = .ok (.aload_n 0, 1) := by decide +kernel
theorem dX1_addSortAt_24 : decode cX1_addSortAt 24 = .ok (.getfield 9, 3) := by decide +kernel
theorem dX1_addSortAt_27 : decode cX1_addSortAt 27 = .ok (.iload_n 1, 1) := by decide +kernel
theorem dX1_addSortAt_28 : decode cX1_addSortAt 28 = .ok (.iconst 3, 1) := by decide +kernel
theorem dX1_addSortAt_29 : decode cX1_addSortAt 29 = .ok (.iadd, 1) := by decide +kernel
theorem dX1_addSortAt_30 : decode cX1_addSortAt 30 = .ok (.iaload, 1) := by decide +kernel
theorem dX1_addSortAt_31 : decode cX1_addSortAt 31 = .ok (.invokevirtual 30, 3) := by decide +kernel
theorem dX1_addSortAt_34 : decode cX1_addSortAt 34 = .ok (.return_, 1) := by decide +kernel
theorem dX2_init_0 : decode cX2_init 0 = .ok (.aload_n 0, 1) := by decide +kernel
theorem dX2_init_1 : decode cX2_init 1 = .ok (.invokespecial 3, 3) := by decide +kernel
theorem dX2_init_4 : decode cX2_init 4 = .ok (.aload_n 0, 1) := by decide +kernel
theorem dX2_init_5 : decode cX2_init 5 = .ok (.bipush 8, 2) := by decide +kernel
theorem dX2_init_7 : decode cX2_init 7 = .ok (.newarray .int, 2) := by decide +kernel
theorem dX2_init_9 : decode cX2_init 9 = .ok (.putfield 9, 3) := by decide +kernel
theorem dX2_init_12 : decode cX2_init 12 = .ok (.aload_n 0, 1) := by decide +kernel
theorem dX2_init_13 : decode cX2_init 13 = .ok (.bipush 8, 2) := by decide +kernel
theorem dX2_init_15 : decode cX2_init 15 = .ok (.newarray .int, 2) := by decide +kernel
theorem dX2_init_17 : decode cX2_init 17 = .ok (.putfield 15, 3) := by decide +kernel
theorem dX2_init_20 : decode cX2_init 20 = .ok (.aload_n 0, 1) := by decide +kernel
theorem dX2_init_21 : decode cX2_init 21 = .ok (.bipush 8, 2) := by decide +kernel
theorem dX2_init_23 : decode cX2_init 23 = .ok (.newarray .int, 2) := by decide +kernel
theorem dX2_init_25 : decode cX2_init 25 = .ok (.putfield 18, 3) := by decide +kernel
theorem dX2_init_28 : decode cX2_init 28 = .ok (.aload_n 0, 1) := by decide +kernel
theorem dX2_init_29 : decode cX2_init 29 = .ok (.bipush 8, 2) := by decide +kernel
theorem dX2_init_31 : decode cX2_init 31 = .ok (.newarray .int, 2) := by decide +kernel
theorem dX2_init_33 : decode cX2_init 33 = .ok (.putfield 21, 3) := by decide +kernel
theorem dX2_init_36 : decode cX2_init 36 = .ok (.aload_n 0, 1) := by decide +kernel
theorem dX2_init_37 : decode cX2_init 37 = .ok (.bipush 8, 2) := by decide +kernel
theorem dX2_init_39 : decode cX2_init 39 = .ok (.newarray .int, 2) := by decide +kernel
theorem dX2_init_41 : decode cX2_init 41 = .ok (.putfield 24, 3) := by decide +kernel
theorem dX2_init_44 : decode cX2_init 44 = .ok (.return_, 1) := by decide +kernel
theorem dX2_clear_0 : decode cX2_clear 0 = .ok (.aload_n 0, 1) := by decide +kernel
theorem dX2_clear_1 : decode cX2_clear 1 = .ok (.iconst 0, 1) := by decide +kernel
theorem dX2_clear_2 : decode cX2_clear 2 = .ok (.putfield 27, 3) := by decide +kernel
theorem dX2_clear_5 : decode cX2_clear 5 = .ok (.aload_n 0, 1) := by decide +kernel
theorem dX2_clear_6 : decode cX2_clear 6 = .ok (.bipush 50, 2) := by decide +kernel
theorem dX2_clear_8 : decode cX2_clear 8 = .ok (.putfield 31, 3) := by decide +kernel
theorem dX2_clear_11 : decode cX2_clear 11 = .ok (.aload_n 0, 1) := by decide +kernel
theorem dX2_clear_12 : decode cX2_clear 12 = .ok (.bipush 6, 2) := by decide +kernel
theorem dX2_clear_14 : decode cX2_clear 14 = .ok (.putfield 34, 3) := by decide +kernel
theorem dX2_clear_17 : decode cX2_clear 17 = .ok (.aload_n 0, 1) := by decide +kernel
theorem dX2_clear_18 : decode cX2_clear 18 = .ok (.iconst 1, 1) := by decide +kernel
theorem dX2_clear_19 : decode cX2_clear 19 = .ok (.putfield 37, 3) := by decide +kernel
theorem dX2_clear_22 : decode cX2_clear 22 = .ok (.aload_n 0, 1) := by decide +kernel
theorem dX2_clear_23 : decode cX2_clear 23 = .ok (.iconst 5, 1) := by decide +kernel
theorem dX2_clear_24 : decode cX2_clear 24 = .ok (.putfield 40, 3) := by decide +kernel
theorem dX2_clear_27 : decode cX2_clear 27 = .ok (.return_, 1) := by decide +kernel
theorem dX2_row_0 : decode cX2_row 0 = .ok (.iload_n 1, 1) := by decide +kernel
theorem dX2_row_1 : decode cX2_row 1 = .ok (.tableswitch 51 0 3 #[31, 36, 41, 46], 31) := by decide +kernel
theorem dX2_row_32 : decode cX2_row 32 = .ok (.aload_n 0, 1) := by decide +kernel
theorem dX2_row_33 : decode cX2_row 33 = .ok (.getfield 9, 3) := by decide +kernel
theorem dX2_row_36 : decode cX2_row 36 = .ok (.areturn, 1) := by decide +kernel
theorem dX2_row_37 : decode cX2_row 37 = .ok (.aload_n 0, 1) := by decide +kernel
theorem dX2_row_38 : decode cX2_row 38 = .ok (.getfield 15, 3) := by decide +kernel
theorem dX2_row_41 : decode cX2_row 41 = .ok (.areturn, 1) := by decide +kernel
theorem dX2_row_42 : decode cX2_row 42 = .ok (.aload_n 0, 1) := by decide +kernel
theorem dX2_row_43 : decode cX2_row 43 = .ok (.getfield 18, 3) := by decide +kernel
theorem dX2_row_46 : decode cX2_row 46 = .ok (.areturn, 1) := by decide +kernel
theorem dX2_row_47 : decode cX2_row 47 = .ok (.aload_n 0, 1) := by decide +kernel
theorem dX2_row_48 : decode cX2_row 48 = .ok (.getfield 21, 3) := by decide +kernel
theorem dX2_row_51 : decode cX2_row 51 = .ok (.areturn, 1) := by decide +kernel
theorem dX2_row_52 : decode cX2_row 52 = .ok (.aload_n 0, 1) := by decide +kernel
theorem dX2_row_53 : decode cX2_row 53 = .ok (.getfield 24, 3) := by decide +kernel
theorem dX2_row_56 : decode cX2_row 56 = .ok (.areturn, 1) := by decide +kernel
theorem dX2_copy_0 : decode cX2_copy 0 = .ok (.iconst 0, 1) := by decide +kernel
theorem dX2_copy_1 : decode cX2_copy 1 = .ok (.istore_n 2, 1) := by decide +kernel
theorem dX2_copy_2 : decode cX2_copy 2 = .ok (.iload_n 2, 1) := by decide +kernel
theorem dX2_copy_3 : decode cX2_copy 3 = .ok (.iconst 4, 1) := by decide +kernel
theorem dX2_copy_4 : decode cX2_copy 4 = .ok (.if_icmp .gt 26, 3) := by decide +kernel
theorem dX2_copy_7 : decode cX2_copy 7 = .ok (.aload_n 1, 1) := by decide +kernel
theorem dX2_copy_8 : decode cX2_copy 8 = .ok (.iload_n 2, 1) := by decide +kernel
theorem dX2_copy_9 : decode cX2_copy 9 = .ok (.invokevirtual 43, 3) := by decide +kernel
theorem dX2_copy_12 : decode cX2_copy 12 = .ok (.iconst 0, 1) := by decide +kernel
theorem dX2_copy_13 : decode cX2_copy 13 = .ok (.aload_n 0, 1) := by decide +kernel
theorem dX2_copy_14 : decode cX2_copy 14 = .ok (.iload_n 2, 1) := by decide +kernel
theorem dX2_copy_15 : decode cX2_copy 15 = .ok (.invokevirtual 43, 3) := by decide +kernel
theorem dX2_copy_18 : decode cX2_copy 18 = .ok (.iconst 0, 1) := by decide +kernel
theorem dX2_copy_19 : decode cX2_copy 19 = .ok (.bipush 8, 2) := by decide +kernel
theorem dX2_copy_21 : decode cX2_copy 21 = .ok (.invokestatic 47, 3) := by decide +kernel
theorem dX2_copy_24 : decode cX2_copy 24 = .ok (.iinc 2 1, 3) := by decide +kernel
theorem dX2_copy_27 : decode cX2_copy 27 = .ok (.goto (-25), 3) := by decide +kernel
theorem dX2_copy_30 : decode cX2_copy 30 = .ok (.aload_n 0, 1) := by decide +kernel
theorem dX2_copy_31 : decode cX2_copy 31 = .ok (.aload_n 1, 1) := by decide +kernel
theorem dX2_copy_32 : decode cX2_copy 32 = .ok (.getfield 27, 3) := by decide +kernel
theorem dX2_copy_35 : decode cX2_copy 35 = .ok (.putfield 27, 3) := by decide +kernel
theorem dX2_copy_38 : decode cX2_copy 38 = .ok (.aload_n 0, 1) := by decide +kernel
theorem dX2_copy_39 : decode cX2_copy 39 = .ok (.aload_n 1, 1) := by decide +kernel
theorem dX2_copy_40 : decode cX2_copy 40 = .ok (.getfield 31, 3) := by decide +kernel
theorem dX2_copy_43 : decode cX2_copy 43 = .ok (.putfield 31, 3) := by decide +kernel
theorem dX2_copy_46 : decode cX2_copy 46 = .ok (.aload_n 0, 1) := by decide +kernel
theorem dX2_copy_47 : decode cX2_copy 47 = .ok (.aload_n 1, 1) := by decide +kernel
theorem dX2_copy_48 : decode cX2_copy 48 = .ok (.getfield 34, 3) := by decide +kernel
theorem dX2_copy_51 : decode cX2_copy 51 = .ok (.putfield 34, 3) := by decide +kernel
theorem dX2_copy_54 : decode cX2_copy 54 = .ok (.aload_n 0, 1) := by decide +kernel
theorem dX2_copy_55 : decode cX2_copy 55 = .ok (.aload_n 1, 1) := by decide +kernel
theorem dX2_copy_56 : decode cX2_copy 56 = .ok (.getfield 37, 3) := by decide +kernel
theorem dX2_copy_59 : decode cX2_copy 59 = .ok (.putfield 37, 3) := by decide +kernel
theorem dX2_copy_62 : decode cX2_copy 62 = .ok (.aload_n 0, 1) := by decide +kernel
theorem dX2_copy_63 : decode cX2_copy 63 = .ok (.aload_n 1, 1) := by decide +kernel
theorem dX2_copy_64 : decode cX2_copy 64 = .ok (.getfield 40, 3) := by decide +kernel
theorem dX2_copy_67 : decode cX2_copy 67 = .ok (.putfield 40, 3) := by decide +kernel
theorem dX2_copy_70 : decode cX2_copy 70 = .ok (.return_, 1) := by decide +kernel
theorem dX2_add_0 : decode cX2_add 0 = .ok (.aload_n 0, 1) := by decide +kernel
theorem dX2_add_1 : decode cX2_add 1 = .ok (.getfield 27, 3) := by decide +kernel
theorem dX2_add_4 : decode cX2_add 4 = .ok (.bipush 8, 2) := by decide +kernel
theorem dX2_add_6 : decode cX2_add 6 = .ok (.if_icmp .ge 64, 3) := by decide +kernel
theorem dX2_add_9 : decode cX2_add 9 = .ok (.aload_n 0, 1) := by decide +kernel
theorem dX2_add_10 : decode cX2_add 10 = .ok (.getfield 9, 3) := by decide +kernel
theorem dX2_add_13 : decode cX2_add 13 = .ok (.aload_n 0, 1) := by decide +kernel
theorem dX2_add_14 : decode cX2_add 14 = .ok (.getfield 27, 3) := by decide +kernel
theorem dX2_add_17 : decode cX2_add 17 = .ok (.iload_n 1, 1) := by decide +kernel
theorem dX2_add_18 : decode cX2_add 18 = .ok (.iastore, 1) := by decide +kernel
theorem dX2_add_19 : decode cX2_add 19 = .ok (.aload_n 0, 1) := by decide +kernel
theorem dX2_add_20 : decode cX2_add 20 = .ok (.getfield 15, 3) := by decide +kernel
theorem dX2_add_23 : decode cX2_add 23 = .ok (.aload_n 0, 1) := by decide +kernel
theorem dX2_add_24 : decode cX2_add 24 = .ok (.getfield 27, 3) := by decide +kernel
theorem dX2_add_27 : decode cX2_add 27 = .ok (.iload_n 2, 1) := by decide +kernel
theorem dX2_add_28 : decode cX2_add 28 = .ok (.iastore, 1) := by decide +kernel
theorem dX2_add_29 : decode cX2_add 29 = .ok (.aload_n 0, 1) := by decide +kernel
theorem dX2_add_30 : decode cX2_add 30 = .ok (.getfield 18, 3) := by decide +kernel
theorem dX2_add_33 : decode cX2_add 33 = .ok (.aload_n 0, 1) := by decide +kernel
theorem dX2_add_34 : decode cX2_add 34 = .ok (.getfield 27, 3) := by decide +kernel
theorem dX2_add_37 : decode cX2_add 37 = .ok (.iload_n 3, 1) := by decide +kernel
theorem dX2_add_38 : decode cX2_add 38 = .ok (.iastore, 1) := by decide +kernel
theorem dX2_add_39 : decode cX2_add 39 = .ok (.aload_n 0, 1) := by decide +kernel
theorem dX2_add_40 : decode cX2_add 40 = .ok (.getfield 21, 3) := by decide +kernel
theorem dX2_add_43 : decode cX2_add 43 = .ok (.aload_n 0, 1) := by decide +kernel
theorem dX2_add_44 : decode cX2_add 44 = .ok (.getfield 27, 3) := by decide +kernel
theorem dX2_add_47 : decode cX2_add 47 = .ok (.iload 4, 2) := by decide +kernel
theorem dX2_add_49 : decode cX2_add 49 = .ok (.iastore, 1) := by decide +kernel
theorem dX2_add_50 : decode cX2_add 50 = .ok (.aload_n 0, 1) := by decide +kernel
theorem dX2_add_51 : decode cX2_add 51 = .ok (.getfield 24, 3) := by decide +kernel
theorem dX2_add_54 : decode cX2_add 54 = .ok (.aload_n 0, 1) := by decide +kernel
theorem dX2_add_55 : decode cX2_add 55 = .ok (.getfield 27, 3) := by decide +kernel
theorem dX2_add_58 : decode cX2_add 58 = .ok (.iconst 0, 1) := by decide +kernel
theorem dX2_add_59 : decode cX2_add 59 = .ok (.iastore, 1) := by decide +kernel
theorem dX2_add_60 : decode cX2_add 60 = .ok (.aload_n 0, 1) := by decide +kernel
theorem dX2_add_61 : decode cX2_add 61 = .ok (.dup, 1) := by decide +kernel
theorem dX2_add_62 : decode cX2_add 62 = .ok (.getfield 27, 3) := by decide +kernel
theorem dX2_add_65 : decode cX2_add 65 = .ok (.iconst 1, 1) := by decide +kernel
theorem dX2_add_66 : decode cX2_add 66 = .ok (.iadd, 1) := by decide +kernel
theorem dX2_add_67 : decode cX2_add 67 = .ok (.putfield 27, 3) := by decide +kernel
theorem dX2_add_70 : decode cX2_add 70 = .ok (.return_, 1) := by decide +kernel
theorem dX2_remove_0 : decode cX2_remove 0 = .ok (.iload_n 1, 1) := by decide +kernel
theorem dX2_remove_1 : decode cX2_remove 1 = .ok (.iconst 0, 1) := by decide +kernel
theorem dX2_remove_2 : decode cX2_remove 2 = .ok (.aload_n 0, 1) := by decide +kernel
theorem dX2_remove_3 : decode cX2_remove 3 = .ok (.getfield 27, 3) := by decide +kernel
theorem dX2_remove_6 : decode cX2_remove 6 = .ok (.iconst 1, 1) := by decide +kernel
theorem dX2_remove_7 : decode cX2_remove 7 = .ok (.isub, 1) := by decide +kernel
theorem dX2_remove_8 : decode cX2_remove 8 = .ok (.invokestatic 53, 3) := by decide +kernel
theorem dX2_remove_11 : decode cX2_remove 11 = .ok (.ifCond .eq 49, 3) := by decide +kernel
theorem dX2_remove_14 : decode cX2_remove 14 = .ok (.iconst 0, 1) := by decide +kernel
theorem dX2_remove_15 : decode cX2_remove 15 = .ok (.istore_n 2, 1) := by decide +kernel
theorem dX2_remove_16 : decode cX2_remove 16 = .ok (.iload_n 2, 1) := by decide +kernel
theorem dX2_remove_17 : decode cX2_remove 17 = .ok (.iconst 4, 1) := by decide +kernel
theorem dX2_remove_18 : decode cX2_remove 18 = .ok (.if_icmp .gt 32, 3) := by decide +kernel
theorem dX2_remove_21 : decode cX2_remove 21 = .ok (.aload_n 0, 1) := by decide +kernel
theorem dX2_remove_22 : decode cX2_remove 22 = .ok (.iload_n 2, 1) := by decide +kernel
theorem dX2_remove_23 : decode cX2_remove 23 = .ok (.invokevirtual 43, 3) := by decide +kernel
theorem dX2_remove_26 : decode cX2_remove 26 = .ok (.astore_n 3, 1) := by decide +kernel
theorem dX2_remove_27 : decode cX2_remove 27 = .ok (.aload_n 3, 1) := by decide +kernel
theorem dX2_remove_28 : decode cX2_remove 28 = .ok (.iload_n 1, 1) := by decide +kernel
theorem dX2_remove_29 : decode cX2_remove 29 = .ok (.iconst 1, 1) := by decide +kernel
theorem dX2_remove_30 : decode cX2_remove 30 = .ok (.iadd, 1) := by decide +kernel
theorem dX2_remove_31 : decode cX2_remove 31 = .ok (.aload_n 3, 1) := by decide +kernel
theorem dX2_remove_32 : decode cX2_remove 32 = .ok (.iload_n 1, 1) := by decide +kernel
theorem dX2_remove_33 : decode cX2_remove 33 = .ok (.aload_n 0, 1) := by decide +kernel
theorem dX2_remove_34 : decode cX2_remove 34 = .ok (.getfield 27, 3) := by decide +kernel
theorem dX2_remove_37 : decode cX2_remove 37 = .ok (.iload_n 1, 1) := by decide +kernel
theorem dX2_remove_38 : decode cX2_remove 38 = .ok (.isub, 1) := by decide +kernel
theorem dX2_remove_39 : decode cX2_remove 39 = .ok (.iconst 1, 1) := by decide +kernel
theorem dX2_remove_40 : decode cX2_remove 40 = .ok (.isub, 1) := by decide +kernel
theorem dX2_remove_41 : decode cX2_remove 41 = .ok (.invokestatic 47, 3) := by decide +kernel
theorem dX2_remove_44 : decode cX2_remove 44 = .ok (.iinc 2 1, 3) := by decide +kernel
theorem dX2_remove_47 : decode cX2_remove 47 = .ok (.goto (-31), 3) := by decide +kernel
theorem dX2_remove_50 : decode cX2_remove 50 = .ok (.aload_n 0, 1) := by decide +kernel
theorem dX2_remove_51 : decode cX2_remove 51 = .ok (.dup, 1) := by decide +kernel
theorem dX2_remove_52 : decode cX2_remove 52 = .ok (.getfield 27, 3) := by decide +kernel
theorem dX2_remove_55 : decode cX2_remove 55 = .ok (.iconst 1, 1) := by decide +kernel
theorem dX2_remove_56 : decode cX2_remove 56 = .ok (.isub, 1) := by decide +kernel
theorem dX2_remove_57 : decode cX2_remove 57 = .ok (.putfield 27, 3) := by decide +kernel
theorem dX2_remove_60 : decode cX2_remove 60 = .ok (.return_, 1) := by decide +kernel
theorem dX2_allows_0 : decode cX2_allows 0 = .ok (.iload_n 2, 1) := by decide +kernel
theorem dX2_allows_1 : decode cX2_allows 1 = .ok (.tableswitch 72 0 3 #[31, 48, 56, 64], 31) := by decide +kernel
theorem dX2_allows_32 : decode cX2_allows 32 = .ok (.iload_n 3, 1) := by decide +kernel
theorem dX2_allows_33 : decode cX2_allows 33 = .ok (.iconst 1, 1) := by decide +kernel
theorem dX2_allows_34 : decode cX2_allows 34 = .ok (.aload_n 0, 1) := by decide +kernel
theorem dX2_allows_35 : decode cX2_allows 35 = .ok (.getfield 24, 3) := by decide +kernel
theorem dX2_allows_38 : decode cX2_allows 38 = .ok (.iload_n 1, 1) := by decide +kernel
theorem dX2_allows_39 : decode cX2_allows 39 = .ok (.iaload, 1) := by decide +kernel
theorem dX2_allows_40 : decode cX2_allows 40 = .ok (.invokestatic 57, 3) := by decide +kernel
theorem dX2_allows_43 : decode cX2_allows 43 = .ok (.bipush 50, 2) := by decide +kernel
theorem dX2_allows_45 : decode cX2_allows 45 = .ok (.invokestatic 53, 3) := by decide +kernel
theorem dX2_allows_48 : decode cX2_allows 48 = .ok (.ireturn, 1) := by decide +kernel
theorem dX2_allows_49 : decode cX2_allows 49 = .ok (.iload_n 3, 1) := by decide +kernel
theorem dX2_allows_50 : decode cX2_allows 50 = .ok (.iconst 0, 1) := by decide +kernel
theorem dX2_allows_51 : decode cX2_allows 51 = .ok (.bipush 99, 2) := by decide +kernel
theorem dX2_allows_53 : decode cX2_allows 53 = .ok (.invokestatic 53, 3) := by decide +kernel
theorem dX2_allows_56 : decode cX2_allows 56 = .ok (.ireturn, 1) := by decide +kernel
theorem dX2_allows_57 : decode cX2_allows 57 = .ok (.iload_n 3, 1) := by decide +kernel
theorem dX2_allows_58 : decode cX2_allows 58 = .ok (.iconst 0, 1) := by decide +kernel
theorem dX2_allows_59 : decode cX2_allows 59 = .ok (.bipush 99, 2) := by decide +kernel
theorem dX2_allows_61 : decode cX2_allows 61 = .ok (.invokestatic 53, 3) := by decide +kernel
theorem dX2_allows_64 : decode cX2_allows 64 = .ok (.ireturn, 1) := by decide +kernel
theorem dX2_allows_65 : decode cX2_allows 65 = .ok (.iload_n 3, 1) := by decide +kernel
theorem dX2_allows_66 : decode cX2_allows 66 = .ok (.iconst 0, 1) := by decide +kernel
theorem dX2_allows_67 : decode cX2_allows 67 = .ok (.bipush 10, 2) := by decide +kernel
theorem dX2_allows_69 : decode cX2_allows 69 = .ok (.invokestatic 53, 3) := by decide +kernel
theorem dX2_allows_72 : decode cX2_allows 72 = .ok (.ireturn, 1) := by decide +kernel
theorem dX2_allows_73 : decode cX2_allows 73 = .ok (.iload_n 3, 1) := by decide +kernel
theorem dX2_allows_74 : decode cX2_allows 74 = .ok (.iconst 0, 1) := by decide +kernel
theorem dX2_allows_75 : decode cX2_allows 75 = .ok (.aload_n 0, 1) := by decide +kernel
theorem dX2_allows_76 : decode cX2_allows 76 = .ok (.getfield 9, 3) := by decide +kernel
theorem dX2_allows_79 : decode cX2_allows 79 = .ok (.iload_n 1, 1) := by decide +kernel
theorem dX2_allows_80 : decode cX2_allows 80 = .ok (.iaload, 1) := by decide +kernel
theorem dX2_allows_81 : decode cX2_allows 81 = .ok (.invokestatic 53, 3) := by decide +kernel
theorem dX2_allows_84 : decode cX2_allows 84 = .ok (.ireturn, 1) := by decide +kernel
theorem dX2_surplus_0 : decode cX2_surplus 0 = .ok (.aload_n 0, 1) := by decide +kernel
theorem dX2_surplus_1 : decode cX2_surplus 1 = .ok (.getfield 18, 3) := by decide +kernel
theorem dX2_surplus_4 : decode cX2_surplus 4 = .ok (.iload_n 1, 1) := by decide +kernel
theorem dX2_surplus_5 : decode cX2_surplus 5 = .ok (.iaload, 1) := by decide +kernel
theorem dX2_surplus_6 : decode cX2_surplus 6 = .ok (.aload_n 0, 1) := by decide +kernel
theorem dX2_surplus_7 : decode cX2_surplus 7 = .ok (.getfield 15, 3) := by decide +kernel
theorem dX2_surplus_10 : decode cX2_surplus 10 = .ok (.iload_n 1, 1) := by decide +kernel
theorem dX2_surplus_11 : decode cX2_surplus 11 = .ok (.iaload, 1) := by decide +kernel
theorem dX2_surplus_12 : decode cX2_surplus 12 = .ok (.isub, 1) := by decide +kernel
theorem dX2_surplus_13 : decode cX2_surplus 13 = .ok (.ireturn, 1) := by decide +kernel
theorem dX2_isGood_0 : decode cX2_isGood 0 = .ok (.aload_n 0, 1) := by decide +kernel
theorem dX2_isGood_1 : decode cX2_isGood 1 = .ok (.getfield 18, 3) := by decide +kernel
theorem dX2_isGood_4 : decode cX2_isGood 4 = .ok (.iload_n 1, 1) := by decide +kernel
theorem dX2_isGood_5 : decode cX2_isGood 5 = .ok (.iaload, 1) := by decide +kernel
theorem dX2_isGood_6 : decode cX2_isGood 6 = .ok (.aload_n 0, 1) := by decide +kernel
theorem dX2_isGood_7 : decode cX2_isGood 7 = .ok (.getfield 31, 3) := by decide +kernel
theorem dX2_isGood_10 : decode cX2_isGood 10 = .ok (.if_icmp .lt 7, 3) := by decide +kernel
theorem dX2_isGood_13 : decode cX2_isGood 13 = .ok (.iconst 1, 1) := by decide +kernel
theorem dX2_isGood_14 : decode cX2_isGood 14 = .ok (.goto 4, 3) := by decide +kernel
theorem dX2_isGood_17 : decode cX2_isGood 17 = .ok (.iconst 0, 1) := by decide +kernel
theorem dX2_isGood_18 : decode cX2_isGood 18 = .ok (.ireturn, 1) := by decide +kernel
theorem dX2_sumOf_0 : decode cX2_sumOf 0 = .ok (.aload_n 0, 1) := by decide +kernel
theorem dX2_sumOf_1 : decode cX2_sumOf 1 = .ok (.iload_n 1, 1) := by decide +kernel
theorem dX2_sumOf_2 : decode cX2_sumOf 2 = .ok (.invokevirtual 43, 3) := by decide +kernel
theorem dX2_sumOf_5 : decode cX2_sumOf 5 = .ok (.astore_n 2, 1) := by decide +kernel
theorem dX2_sumOf_6 : decode cX2_sumOf 6 = .ok (.iconst 0, 1) := by decide +kernel
theorem dX2_sumOf_7 : decode cX2_sumOf 7 = .ok (.istore_n 3, 1) := by decide +kernel
theorem dX2_sumOf_8 : decode cX2_sumOf 8 = .ok (.iconst 0, 1) := by decide +kernel
theorem dX2_sumOf_9 : decode cX2_sumOf 9 = .ok (.istore 4, 2) := by decide +kernel
theorem dX2_sumOf_11 : decode cX2_sumOf 11 = .ok (.iload 4, 2) := by decide +kernel
theorem dX2_sumOf_13 : decode cX2_sumOf 13 = .ok (.aload_n 0, 1) := by decide +kernel
theorem dX2_sumOf_14 : decode cX2_sumOf 14 = .ok (.getfield 27, 3) := by decide +kernel
theorem dX2_sumOf_17 : decode cX2_sumOf 17 = .ok (.if_icmp .ge 16, 3) := by decide +kernel
theorem dX2_sumOf_20 : decode cX2_sumOf 20 = .ok (.iload_n 3, 1) := by decide +kernel
theorem dX2_sumOf_21 : decode cX2_sumOf 21 = .ok (.aload_n 2, 1) := by decide +kernel
theorem dX2_sumOf_22 : decode cX2_sumOf 22 = .ok (.iload 4, 2) := by decide +kernel
theorem dX2_sumOf_24 : decode cX2_sumOf 24 = .ok (.iaload, 1) := by decide +kernel
theorem dX2_sumOf_25 : decode cX2_sumOf 25 = .ok (.iadd, 1) := by decide +kernel
theorem dX2_sumOf_26 : decode cX2_sumOf 26 = .ok (.istore_n 3, 1) := by decide +kernel
theorem dX2_sumOf_27 : decode cX2_sumOf 27 = .ok (.iinc 4 1, 3) := by decide +kernel
theorem dX2_sumOf_30 : decode cX2_sumOf 30 = .ok (.goto (-19), 3) := by decide +kernel
theorem dX2_sumOf_33 : decode cX2_sumOf 33 = .ok (.iload_n 3, 1) := by decide +kernel
theorem dX2_sumOf_34 : decode cX2_sumOf 34 = .ok (.ireturn, 1) := by decide +kernel
theorem dX2_goodOnes_0 : decode cX2_goodOnes 0 = .ok (.iconst 0, 1) := by decide +kernel
theorem dX2_goodOnes_1 : decode cX2_goodOnes 1 = .ok (.istore_n 1, 1) := by decide +kernel
theorem dX2_goodOnes_2 : decode cX2_goodOnes 2 = .ok (.iconst 0, 1) := by decide +kernel
theorem dX2_goodOnes_3 : decode cX2_goodOnes 3 = .ok (.istore_n 2, 1) := by decide +kernel
theorem dX2_goodOnes_4 : decode cX2_goodOnes 4 = .ok (.iload_n 2, 1) := by decide +kernel
theorem dX2_goodOnes_5 : decode cX2_goodOnes 5 = .ok (.aload_n 0, 1) := by decide +kernel
theorem dX2_goodOnes_6 : decode cX2_goodOnes 6 = .ok (.getfield 27, 3) := by decide +kernel
theorem dX2_goodOnes_9 : decode cX2_goodOnes 9 = .ok (.if_icmp .ge 27, 3) := by decide +kernel
theorem dX2_goodOnes_12 : decode cX2_goodOnes 12 = .ok (.iload_n 1, 1) := by decide +kernel
theorem dX2_goodOnes_13 : decode cX2_goodOnes 13 = .ok (.aload_n 0, 1) := by decide +kernel
theorem dX2_goodOnes_14 : decode cX2_goodOnes 14 = .ok (.iload_n 2, 1) := by decide +kernel
theorem dX2_goodOnes_15 : decode cX2_goodOnes 15 = .ok (.invokevirtual 63, 3) := by decide +kernel
theorem dX2_goodOnes_18 : decode cX2_goodOnes 18 = .ok (.ifCond .eq 9, 3) := by decide +kernel
theorem dX2_goodOnes_21 : decode cX2_goodOnes 21 = .ok (.iconst 1, 1) := by decide +kernel
theorem dX2_goodOnes_22 : decode cX2_goodOnes 22 = .ok (.iload_n 2, 1) := by decide +kernel
theorem dX2_goodOnes_23 : decode cX2_goodOnes 23 = .ok (.ishl, 1) := by decide +kernel
theorem dX2_goodOnes_24 : decode cX2_goodOnes 24 = .ok (.goto 4, 3) := by decide +kernel
theorem dX2_goodOnes_27 : decode cX2_goodOnes 27 = .ok (.iconst 0, 1) := by decide +kernel
theorem dX2_goodOnes_28 : decode cX2_goodOnes 28 = .ok (.ior, 1) := by decide +kernel
theorem dX2_goodOnes_29 : decode cX2_goodOnes 29 = .ok (.istore_n 1, 1) := by decide +kernel
theorem dX2_goodOnes_30 : decode cX2_goodOnes 30 = .ok (.iinc 2 1, 3) := by decide +kernel
theorem dX2_goodOnes_33 : decode cX2_goodOnes 33 = .ok (.goto (-29), 3) := by decide +kernel
theorem dX2_goodOnes_36 : decode cX2_goodOnes 36 = .ok (.iload_n 1, 1) := by decide +kernel
theorem dX2_goodOnes_37 : decode cX2_goodOnes 37 = .ok (.ireturn, 1) := by decide +kernel
theorem dX2_worthTrading_0 : decode cX2_worthTrading 0 = .ok (.iconst 0, 1) := by decide +kernel
theorem dX2_worthTrading_1 : decode cX2_worthTrading 1 = .ok (.istore_n 1, 1) := by decide +kernel
theorem dX2_worthTrading_2 : decode cX2_worthTrading 2 = .ok (.iconst 0, 1) := by decide +kernel
theorem dX2_worthTrading_3 : decode cX2_worthTrading 3 = .ok (.istore_n 2, 1) := by decide +kernel
theorem dX2_worthTrading_4 : decode cX2_worthTrading 4 = .ok (.iload_n 2, 1) := by decide +kernel
theorem dX2_worthTrading_5 : decode cX2_worthTrading 5 = .ok (.aload_n 0, 1) := by decide +kernel
theorem dX2_worthTrading_6 : decode cX2_worthTrading 6 = .ok (.getfield 27, 3) := by decide +kernel
theorem dX2_worthTrading_9 : decode cX2_worthTrading 9 = .ok (.if_icmp .ge 27, 3) := by decide +kernel
theorem dX2_worthTrading_12 : decode cX2_worthTrading 12 = .ok (.iload_n 1, 1) := by decide +kernel
theorem dX2_worthTrading_13 : decode cX2_worthTrading 13 = .ok (.aload_n 0, 1) := by decide +kernel
theorem dX2_worthTrading_14 : decode cX2_worthTrading 14 = .ok (.iload_n 2, 1) := by decide +kernel
theorem dX2_worthTrading_15 : decode cX2_worthTrading 15 = .ok (.invokevirtual 67, 3) := by decide +kernel
theorem dX2_worthTrading_18 : decode cX2_worthTrading 18 = .ok (.ifCond .le 9, 3) := by decide +kernel
theorem dX2_worthTrading_21 : decode cX2_worthTrading 21 = .ok (.iconst 1, 1) := by decide +kernel
theorem dX2_worthTrading_22 : decode cX2_worthTrading 22 = .ok (.iload_n 2, 1) := by decide +kernel
theorem dX2_worthTrading_23 : decode cX2_worthTrading 23 = .ok (.ishl, 1) := by decide +kernel
theorem dX2_worthTrading_24 : decode cX2_worthTrading 24 = .ok (.goto 4, 3) := by decide +kernel
theorem dX2_worthTrading_27 : decode cX2_worthTrading 27 = .ok (.iconst 0, 1) := by decide +kernel
theorem dX2_worthTrading_28 : decode cX2_worthTrading 28 = .ok (.ior, 1) := by decide +kernel
theorem dX2_worthTrading_29 : decode cX2_worthTrading 29 = .ok (.istore_n 1, 1) := by decide +kernel
theorem dX2_worthTrading_30 : decode cX2_worthTrading 30 = .ok (.iinc 2 1, 3) := by decide +kernel
theorem dX2_worthTrading_33 : decode cX2_worthTrading 33 = .ok (.goto (-29), 3) := by decide +kernel
theorem dX2_worthTrading_36 : decode cX2_worthTrading 36 = .ok (.iload_n 1, 1) := by decide +kernel
theorem dX2_worthTrading_37 : decode cX2_worthTrading 37 = .ok (.ireturn, 1) := by decide +kernel
theorem dX2_failingAtMost_0 : decode cX2_failingAtMost 0 = .ok (.iconst 0, 1) := by decide +kernel
theorem dX2_failingAtMost_1 : decode cX2_failingAtMost 1 = .ok (.istore_n 2, 1) := by decide +kernel
theorem dX2_failingAtMost_2 : decode cX2_failingAtMost 2 = .ok (.iconst 0, 1) := by decide +kernel
theorem dX2_failingAtMost_3 : decode cX2_failingAtMost 3 = .ok (.istore_n 3, 1) := by decide +kernel
theorem dX2_failingAtMost_4 : decode cX2_failingAtMost 4 = .ok (.iload_n 3, 1) := by decide +kernel
theorem dX2_failingAtMost_5 : decode cX2_failingAtMost 5 = .ok (.aload_n 0, 1) := by decide +kernel
theorem dX2_failingAtMost_6 : decode cX2_failingAtMost 6 = .ok (.getfield 27, 3) := by decide +kernel
theorem dX2_failingAtMost_9 : decode cX2_failingAtMost 9 = .ok (.if_icmp .ge 29, 3) := by decide +kernel
theorem dX2_failingAtMost_12 : decode cX2_failingAtMost 12 = .ok (.iload_n 2, 1) := by decide +kernel
theorem dX2_failingAtMost_13 : decode cX2_failingAtMost 13 = .ok (.aload_n 0, 1) := by decide +kernel
theorem dX2_failingAtMost_14 : decode cX2_failingAtMost 14 = .ok (.getfield 21, 3) := by decide +kernel
theorem dX2_failingAtMost_17 : decode cX2_failingAtMost 17 = .ok (.iload_n 3, 1) := by decide +kernel
theorem dX2_failingAtMost_18 : decode cX2_failingAtMost 18 = .ok (.iaload, 1) := by decide +kernel
theorem dX2_failingAtMost_19 : decode cX2_failingAtMost 19 = .ok (.iload_n 1, 1) := by decide +kernel
theorem dX2_failingAtMost_20 : decode cX2_failingAtMost 20 = .ok (.if_icmp .gt 9, 3) := by decide +kernel
theorem dX2_failingAtMost_23 : decode cX2_failingAtMost 23 = .ok (.iconst 1, 1) := by decide +kernel
theorem dX2_failingAtMost_24 : decode cX2_failingAtMost 24 = .ok (.iload_n 3, 1) := by decide +kernel
theorem dX2_failingAtMost_25 : decode cX2_failingAtMost 25 = .ok (.ishl, 1) := by decide +kernel
theorem dX2_failingAtMost_26 : decode cX2_failingAtMost 26 = .ok (.goto 4, 3) := by decide +kernel
theorem dX2_failingAtMost_29 : decode cX2_failingAtMost 29 = .ok (.iconst 0, 1) := by decide +kernel
theorem dX2_failingAtMost_30 : decode cX2_failingAtMost 30 = .ok (.ior, 1) := by decide +kernel
theorem dX2_failingAtMost_31 : decode cX2_failingAtMost 31 = .ok (.istore_n 2, 1) := by decide +kernel
theorem dX2_failingAtMost_32 : decode cX2_failingAtMost 32 = .ok (.iinc 3 1, 3) := by decide +kernel
theorem dX2_failingAtMost_35 : decode cX2_failingAtMost 35 = .ok (.goto (-31), 3) := by decide +kernel
theorem dX2_failingAtMost_38 : decode cX2_failingAtMost 38 = .ok (.iload_n 2, 1) := by decide +kernel
theorem dX2_failingAtMost_39 : decode cX2_failingAtMost 39 = .ok (.ireturn, 1) := by decide +kernel
theorem dX2_tenthsForWarrant_0 : decode cX2_tenthsForWarrant 0 = .ok (.bipush 10, 2) := by decide +kernel
theorem dX2_tenthsForWarrant_2 : decode cX2_tenthsForWarrant 2 = .ok (.aload_n 0, 1) := by decide +kernel
theorem dX2_tenthsForWarrant_3 : decode cX2_tenthsForWarrant 3 = .ok (.getfield 15, 3) := by decide +kernel
theorem dX2_tenthsForWarrant_6 : decode cX2_tenthsForWarrant 6 = .ok (.iload_n 1, 1) := by decide +kernel
theorem dX2_tenthsForWarrant_7 : decode cX2_tenthsForWarrant 7 = .ok (.iaload, 1) := by decide +kernel
theorem dX2_tenthsForWarrant_8 : decode cX2_tenthsForWarrant 8 = .ok (.imul, 1) := by decide +kernel
theorem dX2_tenthsForWarrant_9 : decode cX2_tenthsForWarrant 9 = .ok (.aload_n 0, 1) := by decide +kernel
theorem dX2_tenthsForWarrant_10 : decode cX2_tenthsForWarrant 10 = .ok (.getfield 21, 3) := by decide +kernel
theorem dX2_tenthsForWarrant_13 : decode cX2_tenthsForWarrant 13 = .ok (.iload_n 1, 1) := by decide +kernel
theorem dX2_tenthsForWarrant_14 : decode cX2_tenthsForWarrant 14 = .ok (.iaload, 1) := by decide +kernel
theorem dX2_tenthsForWarrant_15 : decode cX2_tenthsForWarrant 15 = .ok (.iload_n 2, 1) := by decide +kernel
theorem dX2_tenthsForWarrant_16 : decode cX2_tenthsForWarrant 16 = .ok (.imul, 1) := by decide +kernel
theorem dX2_tenthsForWarrant_17 : decode cX2_tenthsForWarrant 17 = .ok (.iadd, 1) := by decide +kernel
theorem dX2_tenthsForWarrant_18 : decode cX2_tenthsForWarrant 18 = .ok (.ireturn, 1) := by decide +kernel
theorem dX2_leastForWarrant_0 : decode cX2_leastForWarrant 0 = .ok (.iconst 0, 1) := by decide +kernel
theorem dX2_leastForWarrant_1 : decode cX2_leastForWarrant 1 = .ok (.istore_n 3, 1) := by decide +kernel
theorem dX2_leastForWarrant_2 : decode cX2_leastForWarrant 2 = .ok (.iconst 0, 1) := by decide +kernel
theorem dX2_leastForWarrant_3 : decode cX2_leastForWarrant 3 = .ok (.istore 4, 2) := by decide +kernel
theorem dX2_leastForWarrant_5 : decode cX2_leastForWarrant 5 = .ok (.iload 4, 2) := by decide +kernel
theorem dX2_leastForWarrant_7 : decode cX2_leastForWarrant 7 = .ok (.aload_n 0, 1) := by decide +kernel
theorem dX2_leastForWarrant_8 : decode cX2_leastForWarrant 8 = .ok (.getfield 27, 3) := by decide +kernel
theorem dX2_leastForWarrant_11 : decode cX2_leastForWarrant 11 = .ok (.if_icmp .ge 36, 3) := by decide +kernel
theorem dX2_leastForWarrant_14 : decode cX2_leastForWarrant 14 = .ok (.iload_n 1, 1) := by decide +kernel
theorem dX2_leastForWarrant_15 : decode cX2_leastForWarrant 15 = .ok (.iload 4, 2) := by decide +kernel
theorem dX2_leastForWarrant_17 : decode cX2_leastForWarrant 17 = .ok (.ishr, 1) := by decide +kernel
theorem dX2_leastForWarrant_18 : decode cX2_leastForWarrant 18 = .ok (.iconst 1, 1) := by decide +kernel
theorem dX2_leastForWarrant_19 : decode cX2_leastForWarrant 19 = .ok (.iand, 1) := by decide +kernel
theorem dX2_leastForWarrant_20 : decode cX2_leastForWarrant 20 = .ok (.ifCond .eq 21, 3) := by decide +kernel
theorem dX2_leastForWarrant_23 : decode cX2_leastForWarrant 23 = .ok (.iload_n 3, 1) := by decide +kernel
theorem dX2_leastForWarrant_24 : decode cX2_leastForWarrant 24 = .ok (.aload_n 0, 1) := by decide +kernel
theorem dX2_leastForWarrant_25 : decode cX2_leastForWarrant 25 = .ok (.iload 4, 2) := by decide +kernel
theorem dX2_leastForWarrant_27 : decode cX2_leastForWarrant 27 = .ok (.iload_n 2, 1) := by decide +kernel
theorem dX2_leastForWarrant_28 : decode cX2_leastForWarrant 28 = .ok (.invokevirtual 71, 3) := by decide +kernel
theorem dX2_leastForWarrant_31 : decode cX2_leastForWarrant 31 = .ok (.bipush 9, 2) := by decide +kernel
theorem dX2_leastForWarrant_33 : decode cX2_leastForWarrant 33 = .ok (.iadd, 1) := by decide +kernel
theorem dX2_leastForWarrant_34 : decode cX2_leastForWarrant 34 = .ok (.bipush 10, 2) := by decide +kernel
theorem dX2_leastForWarrant_36 : decode cX2_leastForWarrant 36 = .ok (.idiv, 1) := by decide +kernel
theorem dX2_leastForWarrant_37 : decode cX2_leastForWarrant 37 = .ok (.invokestatic 57, 3) := by decide +kernel
theorem dX2_leastForWarrant_40 : decode cX2_leastForWarrant 40 = .ok (.istore_n 3, 1) := by decide +kernel
theorem dX2_leastForWarrant_41 : decode cX2_leastForWarrant 41 = .ok (.iinc 4 1, 3) := by decide +kernel
theorem dX2_leastForWarrant_44 : decode cX2_leastForWarrant 44 = .ok (.goto (-39), 3) := by decide +kernel
theorem dX2_leastForWarrant_47 : decode cX2_leastForWarrant 47 = .ok (.iload_n 3, 1) := by decide +kernel
theorem dX2_leastForWarrant_48 : decode cX2_leastForWarrant 48 = .ok (.ireturn, 1) := by decide +kernel
theorem dX2_comesAsHeap_0 : decode cX2_comesAsHeap 0 = .ok (.iconst 0, 1) := by decide +kernel
theorem dX2_comesAsHeap_1 : decode cX2_comesAsHeap 1 = .ok (.istore_n 2, 1) := by decide +kernel
theorem dX2_comesAsHeap_2 : decode cX2_comesAsHeap 2 = .ok (.iconst 0, 1) := by decide +kernel
theorem dX2_comesAsHeap_3 : decode cX2_comesAsHeap 3 = .ok (.istore_n 3, 1) := by decide +kernel
theorem dX2_comesAsHeap_4 : decode cX2_comesAsHeap 4 = .ok (.iload_n 3, 1) := by decide +kernel
theorem dX2_comesAsHeap_5 : decode cX2_comesAsHeap 5 = .ok (.aload_n 0, 1) := by decide +kernel
theorem dX2_comesAsHeap_6 : decode cX2_comesAsHeap 6 = .ok (.getfield 27, 3) := by decide +kernel
theorem dX2_comesAsHeap_9 : decode cX2_comesAsHeap 9 = .ok (.if_icmp .ge 27, 3) := by decide +kernel
theorem dX2_comesAsHeap_12 : decode cX2_comesAsHeap 12 = .ok (.iload_n 2, 1) := by decide +kernel
theorem dX2_comesAsHeap_13 : decode cX2_comesAsHeap 13 = .ok (.aload_n 0, 1) := by decide +kernel
theorem dX2_comesAsHeap_14 : decode cX2_comesAsHeap 14 = .ok (.getfield 9, 3) := by decide +kernel
theorem dX2_comesAsHeap_17 : decode cX2_comesAsHeap 17 = .ok (.iload_n 3, 1) := by decide +kernel
theorem dX2_comesAsHeap_18 : decode cX2_comesAsHeap 18 = .ok (.iaload, 1) := by decide +kernel
theorem dX2_comesAsHeap_19 : decode cX2_comesAsHeap 19 = .ok (.aload_n 0, 1) := by decide +kernel
theorem dX2_comesAsHeap_20 : decode cX2_comesAsHeap 20 = .ok (.getfield 15, 3) := by decide +kernel
theorem dX2_comesAsHeap_23 : decode cX2_comesAsHeap 23 = .ok (.iload_n 3, 1) := by decide +kernel
theorem dX2_comesAsHeap_24 : decode cX2_comesAsHeap 24 = .ok (.iaload, 1) := by decide +kernel
theorem dX2_comesAsHeap_25 : decode cX2_comesAsHeap 25 = .ok (.iload_n 1, 1) := by decide +kernel
theorem dX2_comesAsHeap_26 : decode cX2_comesAsHeap 26 = .ok (.isub, 1) := by decide +kernel
theorem dX2_comesAsHeap_27 : decode cX2_comesAsHeap 27 = .ok (.imul, 1) := by decide +kernel
theorem dX2_comesAsHeap_28 : decode cX2_comesAsHeap 28 = .ok (.iadd, 1) := by decide +kernel
theorem dX2_comesAsHeap_29 : decode cX2_comesAsHeap 29 = .ok (.istore_n 2, 1) := by decide +kernel
theorem dX2_comesAsHeap_30 : decode cX2_comesAsHeap 30 = .ok (.iinc 3 1, 3) := by decide +kernel
theorem dX2_comesAsHeap_33 : decode cX2_comesAsHeap 33 = .ok (.goto (-29), 3) := by decide +kernel
theorem dX2_comesAsHeap_36 : decode cX2_comesAsHeap 36 = .ok (.iload_n 2, 1) := by decide +kernel
theorem dX2_comesAsHeap_37 : decode cX2_comesAsHeap 37 = .ok (.ifCond .gt 7, 3) := by decide +kernel
theorem dX2_comesAsHeap_40 : decode cX2_comesAsHeap 40 = .ok (.iconst 1, 1) := by decide +kernel
theorem dX2_comesAsHeap_41 : decode cX2_comesAsHeap 41 = .ok (.goto 4, 3) := by decide +kernel
theorem dX2_comesAsHeap_44 : decode cX2_comesAsHeap 44 = .ok (.iconst 0, 1) := by decide +kernel
theorem dX2_comesAsHeap_45 : decode cX2_comesAsHeap 45 = .ok (.ireturn, 1) := by decide +kernel
theorem dX2_worst_0 : decode cX2_worst 0 = .ok (.iconst 0, 1) := by decide +kernel
theorem dX2_worst_1 : decode cX2_worst 1 = .ok (.istore_n 1, 1) := by decide +kernel
theorem dX2_worst_2 : decode cX2_worst 2 = .ok (.iconst 1, 1) := by decide +kernel
theorem dX2_worst_3 : decode cX2_worst 3 = .ok (.istore_n 2, 1) := by decide +kernel
theorem dX2_worst_4 : decode cX2_worst 4 = .ok (.iload_n 2, 1) := by decide +kernel
theorem dX2_worst_5 : decode cX2_worst 5 = .ok (.aload_n 0, 1) := by decide +kernel
theorem dX2_worst_6 : decode cX2_worst 6 = .ok (.getfield 27, 3) := by decide +kernel
theorem dX2_worst_9 : decode cX2_worst 9 = .ok (.if_icmp .ge 30, 3) := by decide +kernel
theorem dX2_worst_12 : decode cX2_worst 12 = .ok (.aload_n 0, 1) := by decide +kernel
theorem dX2_worst_13 : decode cX2_worst 13 = .ok (.getfield 18, 3) := by decide +kernel
theorem dX2_worst_16 : decode cX2_worst 16 = .ok (.iload_n 2, 1) := by decide +kernel
theorem dX2_worst_17 : decode cX2_worst 17 = .ok (.iaload, 1) := by decide +kernel
theorem dX2_worst_18 : decode cX2_worst 18 = .ok (.aload_n 0, 1) := by decide +kernel
theorem dX2_worst_19 : decode cX2_worst 19 = .ok (.getfield 18, 3) := by decide +kernel
theorem dX2_worst_22 : decode cX2_worst 22 = .ok (.iload_n 1, 1) := by decide +kernel
theorem dX2_worst_23 : decode cX2_worst 23 = .ok (.iaload, 1) := by decide +kernel
theorem dX2_worst_24 : decode cX2_worst 24 = .ok (.if_icmp .ge 7, 3) := by decide +kernel
theorem dX2_worst_27 : decode cX2_worst 27 = .ok (.iload_n 2, 1) := by decide +kernel
theorem dX2_worst_28 : decode cX2_worst 28 = .ok (.goto 4, 3) := by decide +kernel
theorem dX2_worst_31 : decode cX2_worst 31 = .ok (.iload_n 1, 1) := by decide +kernel
theorem dX2_worst_32 : decode cX2_worst 32 = .ok (.istore_n 1, 1) := by decide +kernel
theorem dX2_worst_33 : decode cX2_worst 33 = .ok (.iinc 2 1, 3) := by decide +kernel
theorem dX2_worst_36 : decode cX2_worst 36 = .ok (.goto (-32), 3) := by decide +kernel
theorem dX2_worst_39 : decode cX2_worst 39 = .ok (.iload_n 1, 1) := by decide +kernel
theorem dX2_worst_40 : decode cX2_worst 40 = .ok (.ireturn, 1) := by decide +kernel
theorem dX3_init_0 : decode cX3_init 0 = .ok (.aload_n 0, 1) := by decide +kernel
theorem dX3_init_1 : decode cX3_init 1 = .ok (.invokespecial 1, 3) := by decide +kernel
theorem dX3_init_4 : decode cX3_init 4 = .ok (.aload_n 0, 1) := by decide +kernel
theorem dX3_init_5 : decode cX3_init 5 = .ok (.sipush 240, 3) := by decide +kernel
theorem dX3_init_8 : decode cX3_init 8 = .ok (.newarray .byte, 2) := by decide +kernel
theorem dX3_init_10 : decode cX3_init 10 = .ok (.putfield 9, 3) := by decide +kernel
theorem dX3_init_13 : decode cX3_init 13 = .ok (.return_, 1) := by decide +kernel
theorem dX4_init_0 : decode cX4_init 0 = .ok (.aload_n 0, 1) := by decide +kernel
theorem dX4_init_1 : decode cX4_init 1 = .ok (.invokespecial 3, 3) := by decide +kernel
theorem dX4_init_4 : decode cX4_init 4 = .ok (.aload_n 0, 1) := by decide +kernel
theorem dX4_init_5 : decode cX4_init 5 = .ok (.bipush 8, 2) := by decide +kernel
theorem dX4_init_7 : decode cX4_init 7 = .ok (.newarray .int, 2) := by decide +kernel
theorem dX4_init_9 : decode cX4_init 9 = .ok (.putfield 9, 3) := by decide +kernel
theorem dX4_init_12 : decode cX4_init 12 = .ok (.return_, 1) := by decide +kernel
theorem dX4_make_0 : decode cX4_make 0 = .ok (.aload_n 0, 1) := by decide +kernel
theorem dX4_make_1 : decode cX4_make 1 = .ok (.iconst 0, 1) := by decide +kernel
theorem dX4_make_2 : decode cX4_make 2 = .ok (.putfield 15, 3) := by decide +kernel
theorem dX4_make_5 : decode cX4_make 5 = .ok (.aload_n 0, 1) := by decide +kernel
theorem dX4_make_6 : decode cX4_make 6 = .ok (.iconst 0, 1) := by decide +kernel
theorem dX4_make_7 : decode cX4_make 7 = .ok (.putfield 19, 3) := by decide +kernel
theorem dX4_make_10 : decode cX4_make 10 = .ok (.aload_n 0, 1) := by decide +kernel
theorem dX4_make_11 : decode cX4_make 11 = .ok (.iconst 0, 1) := by decide +kernel
theorem dX4_make_12 : decode cX4_make 12 = .ok (.putfield 22, 3) := by decide +kernel
theorem dX4_make_15 : decode cX4_make 15 = .ok (.aload_n 0, 1) := by decide +kernel
theorem dX4_make_16 : decode cX4_make 16 = .ok (.iconst 0, 1) := by decide +kernel
theorem dX4_make_17 : decode cX4_make 17 = .ok (.putfield 25, 3) := by decide +kernel
theorem dX4_make_20 : decode cX4_make 20 = .ok (.aload_n 0, 1) := by decide +kernel
theorem dX4_make_21 : decode cX4_make 21 = .ok (.iconst 0, 1) := by decide +kernel
theorem dX4_make_22 : decode cX4_make 22 = .ok (.putfield 28, 3) := by decide +kernel
theorem dX4_make_25 : decode cX4_make 25 = .ok (.aload_n 0, 1) := by decide +kernel
theorem dX4_make_26 : decode cX4_make 26 = .ok (.iconst 0, 1) := by decide +kernel
theorem dX4_make_27 : decode cX4_make 27 = .ok (.putfield 31, 3) := by decide +kernel
theorem dX4_make_30 : decode cX4_make 30 = .ok (.iload_n 2, 1) := by decide +kernel
theorem dX4_make_31 : decode cX4_make 31 = .ok (.iconst 4, 1) := by decide +kernel
theorem dX4_make_32 : decode cX4_make 32 = .ok (.if_icmp .ne 16, 3) := by decide +kernel
theorem dX4_make_35 : decode cX4_make 35 = .ok (.aload_n 1, 1) := by decide +kernel
theorem dX4_make_36 : decode cX4_make 36 = .ok (.iload 4, 2) := by decide +kernel
theorem dX4_make_38 : decode cX4_make 38 = .ok (.invokevirtual 34, 3) := by decide +kernel
theorem dX4_make_41 : decode cX4_make 41 = .ok (.ifCond .eq 7, 3) := by decide +kernel
theorem dX4_make_44 : decode cX4_make 44 = .ok (.iconst 1, 1) := by decide +kernel
theorem dX4_make_45 : decode cX4_make 45 = .ok (.goto 4, 3) := by decide +kernel
theorem dX4_make_48 : decode cX4_make 48 = .ok (.iconst 0, 1) := by decide +kernel
theorem dX4_make_49 : decode cX4_make 49 = .ok (.istore 5, 2) := by decide +kernel
theorem dX4_make_51 : decode cX4_make 51 = .ok (.iconst 0, 1) := by decide +kernel
theorem dX4_make_52 : decode cX4_make 52 = .ok (.istore 6, 2) := by decide +kernel
theorem dX4_make_54 : decode cX4_make 54 = .ok (.iload 6, 2) := by decide +kernel
theorem dX4_make_56 : decode cX4_make 56 = .ok (.aload_n 1, 1) := by decide +kernel
theorem dX4_make_57 : decode cX4_make 57 = .ok (.getfield 40, 3) := by decide +kernel
theorem dX4_make_60 : decode cX4_make 60 = .ok (.if_icmp .ge 136, 3) := by decide +kernel
theorem dX4_make_63 : decode cX4_make 63 = .ok (.iload_n 2, 1) := by decide +kernel
theorem dX4_make_64 : decode cX4_make 64 = .ok (.iconst 4, 1) := by decide +kernel
theorem dX4_make_65 : decode cX4_make 65 = .ok (.if_icmp .ne 8, 3) := by decide +kernel
theorem dX4_make_68 : decode cX4_make 68 = .ok (.iload 5, 2) := by decide +kernel
theorem dX4_make_70 : decode cX4_make 70 = .ok (.goto 13, 3) := by decide +kernel
theorem dX4_make_73 : decode cX4_make 73 = .ok (.aload_n 1, 1) := by decide +kernel
theorem dX4_make_74 : decode cX4_make 74 = .ok (.iload 6, 2) := by decide +kernel
theorem dX4_make_76 : decode cX4_make 76 = .ok (.iload_n 2, 1) := by decide +kernel
theorem dX4_make_77 : decode cX4_make 77 = .ok (.iload_n 3, 1) := by decide +kernel
theorem dX4_make_78 : decode cX4_make 78 = .ok (.iload 4, 2) := by decide +kernel
theorem dX4_make_80 : decode cX4_make 80 = .ok (.invokestatic 43, 3) := by decide +kernel
theorem dX4_make_83 : decode cX4_make 83 = .ok (.istore 7, 2) := by decide +kernel
theorem dX4_make_85 : decode cX4_make 85 = .ok (.aload_n 0, 1) := by decide +kernel
theorem dX4_make_86 : decode cX4_make 86 = .ok (.dup, 1) := by decide +kernel
theorem dX4_make_87 : decode cX4_make 87 = .ok (.getfield 15, 3) := by decide +kernel
theorem dX4_make_90 : decode cX4_make 90 = .ok (.iload 7, 2) := by decide +kernel
theorem dX4_make_92 : decode cX4_make 92 = .ok (.ifCond .eq 10, 3) := by decide +kernel
theorem dX4_make_95 : decode cX4_make 95 = .ok (.iconst 1, 1) := by decide +kernel
theorem dX4_make_96 : decode cX4_make 96 = .ok (.iload 6, 2) := by decide +kernel
theorem dX4_make_98 : decode cX4_make 98 = .ok (.ishl, 1) := by decide +kernel
theorem dX4_make_99 : decode cX4_make 99 = .ok (.goto 4, 3) := by decide +kernel
theorem dX4_make_102 : decode cX4_make 102 = .ok (.iconst 0, 1) := by decide +kernel
theorem dX4_make_103 : decode cX4_make 103 = .ok (.ior, 1) := by decide +kernel
theorem dX4_make_104 : decode cX4_make 104 = .ok (.putfield 15, 3) := by decide +kernel
theorem dX4_make_107 : decode cX4_make 107 = .ok (.iload_n 2, 1) := by decide +kernel
theorem dX4_make_108 : decode cX4_make 108 = .ok (.iconst 4, 1) := by decide +kernel
theorem dX4_make_109 : decode cX4_make 109 = .ok (.if_icmp .ne 7, 3) := by decide +kernel
theorem dX4_make_112 : decode cX4_make 112 = .ok (.iconst 0, 1) := by decide +kernel
theorem dX4_make_113 : decode cX4_make 113 = .ok (.goto 10, 3) := by decide +kernel
theorem dX4_make_116 : decode cX4_make 116 = .ok (.aload_n 1, 1) := by decide +kernel
theorem dX4_make_117 : decode cX4_make 117 = .ok (.getfield 47, 3) := by decide +kernel
theorem dX4_make_120 : decode cX4_make 120 = .ok (.iload 6, 2) := by decide +kernel
theorem dX4_make_122 : decode cX4_make 122 = .ok (.iaload, 1) := by decide +kernel
theorem dX4_make_123 : decode cX4_make 123 = .ok (.istore 8, 2) := by decide +kernel
theorem dX4_make_125 : decode cX4_make 125 = .ok (.iload 7, 2) := by decide +kernel
theorem dX4_make_127 : decode cX4_make 127 = .ok (.ifCond .eq 13, 3) := by decide +kernel
theorem dX4_make_130 : decode cX4_make 130 = .ok (.aload_n 1, 1) := by decide +kernel
theorem dX4_make_131 : decode cX4_make 131 = .ok (.getfield 50, 3) := by decide +kernel
theorem dX4_make_134 : decode cX4_make 134 = .ok (.iload 6, 2) := by decide +kernel
theorem dX4_make_136 : decode cX4_make 136 = .ok (.iaload, 1) := by decide +kernel
theorem dX4_make_137 : decode cX4_make 137 = .ok (.goto 5, 3) := by decide +kernel
theorem dX4_make_140 : decode cX4_make 140 = .ok (.iload 8, 2) := by decide +kernel
theorem dX4_make_142 : decode cX4_make 142 = .ok (.istore 9, 2) := by decide +kernel
theorem dX4_make_144 : decode cX4_make 144 = .ok (.aload_n 0, 1) := by decide +kernel
theorem dX4_make_145 : decode cX4_make 145 = .ok (.dup, 1) := by decide +kernel
theorem dX4_make_146 : decode cX4_make 146 = .ok (.getfield 19, 3) := by decide +kernel
theorem dX4_make_149 : decode cX4_make 149 = .ok (.iload 9, 2) := by decide +kernel
theorem dX4_make_151 : decode cX4_make 151 = .ok (.iadd, 1) := by decide +kernel
theorem dX4_make_152 : decode cX4_make 152 = .ok (.putfield 19, 3) := by decide +kernel
theorem dX4_make_155 : decode cX4_make 155 = .ok (.aload_n 0, 1) := by decide +kernel
theorem dX4_make_156 : decode cX4_make 156 = .ok (.getfield 9, 3) := by decide +kernel
theorem dX4_make_159 : decode cX4_make 159 = .ok (.iload 6, 2) := by decide +kernel
theorem dX4_make_161 : decode cX4_make 161 = .ok (.iload 9, 2) := by decide +kernel
theorem dX4_make_163 : decode cX4_make 163 = .ok (.aload_n 1, 1) := by decide +kernel
theorem dX4_make_164 : decode cX4_make 164 = .ok (.iload 6, 2) := by decide +kernel
theorem dX4_make_166 : decode cX4_make 166 = .ok (.iload_n 2, 1) := by decide +kernel
theorem dX4_make_167 : decode cX4_make 167 = .ok (.iload_n 3, 1) := by decide +kernel
theorem dX4_make_168 : decode cX4_make 168 = .ok (.invokestatic 53, 3) := by decide +kernel
theorem dX4_make_171 : decode cX4_make 171 = .ok (.imul, 1) := by decide +kernel
theorem dX4_make_172 : decode cX4_make 172 = .ok (.iastore, 1) := by decide +kernel
theorem dX4_make_173 : decode cX4_make 173 = .ok (.aload_n 0, 1) := by decide +kernel
theorem dX4_make_174 : decode cX4_make 174 = .ok (.aload_n 1, 1) := by decide +kernel
theorem dX4_make_175 : decode cX4_make 175 = .ok (.iload 6, 2) := by decide +kernel
theorem dX4_make_177 : decode cX4_make 177 = .ok (.iload_n 2, 1) := by decide +kernel
theorem dX4_make_178 : decode cX4_make 178 = .ok (.iconst 1, 1) := by decide +kernel
theorem dX4_make_179 : decode cX4_make 179 = .ok (.if_icmp .ne 7, 3) := by decide +kernel
theorem dX4_make_182 : decode cX4_make 182 = .ok (.iload_n 3, 1) := by decide +kernel
theorem dX4_make_183 : decode cX4_make 183 = .ok (.goto 4, 3) := by decide +kernel
theorem dX4_make_186 : decode cX4_make 186 = .ok (.iconst 0, 1) := by decide +kernel
theorem dX4_make_187 : decode cX4_make 187 = .ok (.invokevirtual 57, 3) := by decide +kernel
theorem dX4_make_190 : decode cX4_make 190 = .ok (.iinc 6 1, 3) := by decide +kernel
theorem dX4_make_193 : decode cX4_make 193 = .ok (.goto (-139), 3) := by decide +kernel
theorem dX4_make_196 : decode cX4_make 196 = .ok (.iload_n 2, 1) := by decide +kernel
theorem dX4_make_197 : decode cX4_make 197 = .ok (.iconst 2, 1) := by decide +kernel
theorem dX4_make_198 : decode cX4_make 198 = .ok (.if_icmp .ne 47, 3) := by decide +kernel
theorem dX4_make_201 : decode cX4_make 201 = .ok (.aload_n 0, 1) := by decide +kernel
theorem dX4_make_202 : decode cX4_make 202 = .ok (.dup, 1) := by decide +kernel
theorem dX4_make_203 : decode cX4_make 203 = .ok (.getfield 25, 3) := by decide +kernel
theorem dX4_make_206 : decode cX4_make 206 = .ok (.sipush 8000, 3) := by decide +kernel
theorem dX4_make_209 : decode cX4_make 209 = .ok (.aload_n 1, 1) := by decide +kernel
theorem dX4_make_210 : decode cX4_make 210 = .ok (.getfield 61, 3) := by decide +kernel
theorem dX4_make_213 : decode cX4_make 213 = .ok (.imul, 1) := by decide +kernel
theorem dX4_make_214 : decode cX4_make 214 = .ok (.aload_n 0, 1) := by decide +kernel
theorem dX4_make_215 : decode cX4_make 215 = .ok (.getfield 19, 3) := by decide +kernel
theorem dX4_make_218 : decode cX4_make 218 = .ok (.imul, 1) := by decide +kernel
theorem dX4_make_219 : decode cX4_make 219 = .ok (.isub, 1) := by decide +kernel
theorem dX4_make_220 : decode cX4_make 220 = .ok (.putfield 25, 3) := by decide +kernel
theorem dX4_make_223 : decode cX4_make 223 = .ok (.aload_n 0, 1) := by decide +kernel
theorem dX4_make_224 : decode cX4_make 224 = .ok (.dup, 1) := by decide +kernel
theorem dX4_make_225 : decode cX4_make 225 = .ok (.getfield 28, 3) := by decide +kernel
theorem dX4_make_228 : decode cX4_make 228 = .ok (.sipush 800, 3) := by decide +kernel
theorem dX4_make_231 : decode cX4_make 231 = .ok (.aload_n 1, 1) := by decide +kernel
theorem dX4_make_232 : decode cX4_make 232 = .ok (.getfield 61, 3) := by decide +kernel
theorem dX4_make_235 : decode cX4_make 235 = .ok (.imul, 1) := by decide +kernel
theorem dX4_make_236 : decode cX4_make 236 = .ok (.aload_n 0, 1) := by decide +kernel
theorem dX4_make_237 : decode cX4_make 237 = .ok (.getfield 19, 3) := by decide +kernel
theorem dX4_make_240 : decode cX4_make 240 = .ok (.imul, 1) := by decide +kernel
theorem dX4_make_241 : decode cX4_make 241 = .ok (.isub, 1) := by decide +kernel
theorem dX4_make_242 : decode cX4_make 242 = .ok (.putfield 28, 3) := by decide +kernel
theorem dX4_make_245 : decode cX4_make 245 = .ok (.return_, 1) := by decide +kernel
theorem dX4_isWhole_0 : decode cX4_isWhole 0 = .ok (.iload_n 2, 1) := by decide +kernel
theorem dX4_isWhole_1 : decode cX4_isWhole 1 = .ok (.iconst 1, 1) := by decide +kernel
theorem dX4_isWhole_2 : decode cX4_isWhole 2 = .ok (.if_icmp .ne 23, 3) := by decide +kernel
theorem dX4_isWhole_5 : decode cX4_isWhole 5 = .ok (.aload_n 0, 1) := by decide +kernel
theorem dX4_isWhole_6 : decode cX4_isWhole 6 = .ok (.iload_n 1, 1) := by decide +kernel
theorem dX4_isWhole_7 : decode cX4_isWhole 7 = .ok (.iload_n 3, 1) := by decide +kernel
theorem dX4_isWhole_8 : decode cX4_isWhole 8 = .ok (.invokevirtual 64, 3) := by decide +kernel
theorem dX4_isWhole_11 : decode cX4_isWhole 11 = .ok (.bipush 10, 2) := by decide +kernel
theorem dX4_isWhole_13 : decode cX4_isWhole 13 = .ok (.iload 4, 2) := by decide +kernel
theorem dX4_isWhole_15 : decode cX4_isWhole 15 = .ok (.imul, 1) := by decide +kernel
theorem dX4_isWhole_16 : decode cX4_isWhole 16 = .ok (.if_icmp .gt 7, 3) := by decide +kernel
theorem dX4_isWhole_19 : decode cX4_isWhole 19 = .ok (.iconst 1, 1) := by decide +kernel
theorem dX4_isWhole_20 : decode cX4_isWhole 20 = .ok (.goto 4, 3) := by decide +kernel
theorem dX4_isWhole_23 : decode cX4_isWhole 23 = .ok (.iconst 0, 1) := by decide +kernel
theorem dX4_isWhole_24 : decode cX4_isWhole 24 = .ok (.ireturn, 1) := by decide +kernel
theorem dX4_isWhole_25 : decode cX4_isWhole 25 = .ok (.iload_n 2, 1) := by decide +kernel
theorem dX4_isWhole_26 : decode cX4_isWhole 26 = .ok (.iconst 3, 1) := by decide +kernel
theorem dX4_isWhole_27 : decode cX4_isWhole 27 = .ok (.if_icmp .ne 20, 3) := by decide +kernel
theorem dX4_isWhole_30 : decode cX4_isWhole 30 = .ok (.aload_n 0, 1) := by decide +kernel
theorem dX4_isWhole_31 : decode cX4_isWhole 31 = .ok (.getfield 68, 3) := by decide +kernel
theorem dX4_isWhole_34 : decode cX4_isWhole 34 = .ok (.iload_n 1, 1) := by decide +kernel
theorem dX4_isWhole_35 : decode cX4_isWhole 35 = .ok (.iaload, 1) := by decide +kernel
theorem dX4_isWhole_36 : decode cX4_isWhole 36 = .ok (.iload_n 3, 1) := by decide +kernel
theorem dX4_isWhole_37 : decode cX4_isWhole 37 = .ok (.imul, 1) := by decide +kernel
theorem dX4_isWhole_38 : decode cX4_isWhole 38 = .ok (.bipush 100, 2) := by decide +kernel
theorem dX4_isWhole_40 : decode cX4_isWhole 40 = .ok (.if_icmp .ne 7, 3) := by decide +kernel
theorem dX4_isWhole_43 : decode cX4_isWhole 43 = .ok (.iconst 1, 1) := by decide +kernel
theorem dX4_isWhole_44 : decode cX4_isWhole 44 = .ok (.goto 4, 3) := by decide +kernel
theorem dX4_isWhole_47 : decode cX4_isWhole 47 = .ok (.iconst 0, 1) := by decide +kernel
theorem dX4_isWhole_48 : decode cX4_isWhole 48 = .ok (.istore 5, 2) := by decide +kernel
theorem dX4_isWhole_50 : decode cX4_isWhole 50 = .ok (.aload_n 0, 1) := by decide +kernel
theorem dX4_isWhole_51 : decode cX4_isWhole 51 = .ok (.getfield 71, 3) := by decide +kernel
theorem dX4_isWhole_54 : decode cX4_isWhole 54 = .ok (.iload_n 1, 1) := by decide +kernel
theorem dX4_isWhole_55 : decode cX4_isWhole 55 = .ok (.iaload, 1) := by decide +kernel
theorem dX4_isWhole_56 : decode cX4_isWhole 56 = .ok (.iload 4, 2) := by decide +kernel
theorem dX4_isWhole_58 : decode cX4_isWhole 58 = .ok (.if_icmp .le 8, 3) := by decide +kernel
theorem dX4_isWhole_61 : decode cX4_isWhole 61 = .ok (.iload 5, 2) := by decide +kernel
theorem dX4_isWhole_63 : decode cX4_isWhole 63 = .ok (.ifCond .eq 7, 3) := by decide +kernel
theorem dX4_isWhole_66 : decode cX4_isWhole 66 = .ok (.iconst 1, 1) := by decide +kernel
theorem dX4_isWhole_67 : decode cX4_isWhole 67 = .ok (.goto 4, 3) := by decide +kernel
theorem dX4_isWhole_70 : decode cX4_isWhole 70 = .ok (.iconst 0, 1) := by decide +kernel
theorem dX4_isWhole_71 : decode cX4_isWhole 71 = .ok (.ireturn, 1) := by decide +kernel
theorem dX4_partsOfOne_0 : decode cX4_partsOfOne 0 = .ok (.iload_n 2, 1) := by decide +kernel
theorem dX4_partsOfOne_1 : decode cX4_partsOfOne 1 = .ok (.iconst 2, 1) := by decide +kernel
theorem dX4_partsOfOne_2 : decode cX4_partsOfOne 2 = .ok (.if_icmp .ne 29, 3) := by decide +kernel
theorem dX4_partsOfOne_5 : decode cX4_partsOfOne 5 = .ok (.bipush 100, 2) := by decide +kernel
theorem dX4_partsOfOne_7 : decode cX4_partsOfOne 7 = .ok (.aload_n 0, 1) := by decide +kernel
theorem dX4_partsOfOne_8 : decode cX4_partsOfOne 8 = .ok (.iload_n 1, 1) := by decide +kernel
theorem dX4_partsOfOne_9 : decode cX4_partsOfOne 9 = .ok (.invokevirtual 74, 3) := by decide +kernel
theorem dX4_partsOfOne_12 : decode cX4_partsOfOne 12 = .ok (.ifCond .eq 10, 3) := by decide +kernel
theorem dX4_partsOfOne_15 : decode cX4_partsOfOne 15 = .ok (.aload_n 0, 1) := by decide +kernel
theorem dX4_partsOfOne_16 : decode cX4_partsOfOne 16 = .ok (.getfield 77, 3) := by decide +kernel
theorem dX4_partsOfOne_19 : decode cX4_partsOfOne 19 = .ok (.goto 10, 3) := by decide +kernel
theorem dX4_partsOfOne_22 : decode cX4_partsOfOne 22 = .ok (.bipush 8, 2) := by decide +kernel
theorem dX4_partsOfOne_24 : decode cX4_partsOfOne 24 = .ok (.aload_n 0, 1) := by decide +kernel
theorem dX4_partsOfOne_25 : decode cX4_partsOfOne 25 = .ok (.getfield 77, 3) := by decide +kernel
theorem dX4_partsOfOne_28 : decode cX4_partsOfOne 28 = .ok (.isub, 1) := by decide +kernel
theorem dX4_partsOfOne_29 : decode cX4_partsOfOne 29 = .ok (.imul, 1) := by decide +kernel
theorem dX4_partsOfOne_30 : decode cX4_partsOfOne 30 = .ok (.ireturn, 1) := by decide +kernel
theorem dX4_partsOfOne_31 : decode cX4_partsOfOne 31 = .ok (.iload_n 2, 1) := by decide +kernel
theorem dX4_partsOfOne_32 : decode cX4_partsOfOne 32 = .ok (.iconst 3, 1) := by decide +kernel
theorem dX4_partsOfOne_33 : decode cX4_partsOfOne 33 = .ok (.if_icmp .ne 20, 3) := by decide +kernel
theorem dX4_partsOfOne_36 : decode cX4_partsOfOne 36 = .ok (.bipush 8, 2) := by decide +kernel
theorem dX4_partsOfOne_38 : decode cX4_partsOfOne 38 = .ok (.bipush 100, 2) := by decide +kernel
theorem dX4_partsOfOne_40 : decode cX4_partsOfOne 40 = .ok (.aload_n 0, 1) := by decide +kernel
theorem dX4_partsOfOne_41 : decode cX4_partsOfOne 41 = .ok (.getfield 68, 3) := by decide +kernel
theorem dX4_partsOfOne_44 : decode cX4_partsOfOne 44 = .ok (.iload_n 1, 1) := by decide +kernel
theorem dX4_partsOfOne_45 : decode cX4_partsOfOne 45 = .ok (.iaload, 1) := by decide +kernel
theorem dX4_partsOfOne_46 : decode cX4_partsOfOne 46 = .ok (.iload_n 3, 1) := by decide +kernel
theorem dX4_partsOfOne_47 : decode cX4_partsOfOne 47 = .ok (.imul, 1) := by decide +kernel
theorem dX4_partsOfOne_48 : decode cX4_partsOfOne 48 = .ok (.isub, 1) := by decide +kernel
theorem dX4_partsOfOne_49 : decode cX4_partsOfOne 49 = .ok (.imul, 1) := by decide +kernel
theorem dX4_partsOfOne_50 : decode cX4_partsOfOne 50 = .ok (.goto 6, 3) := by decide +kernel
theorem dX4_partsOfOne_53 : decode cX4_partsOfOne 53 = .ok (.sipush 800, 3) := by decide +kernel
theorem dX4_partsOfOne_56 : decode cX4_partsOfOne 56 = .ok (.ireturn, 1) := by decide +kernel
theorem dX4_sum_0 : decode cX4_sum 0 = .ok (.aload_n 0, 1) := by decide +kernel
theorem dX4_sum_1 : decode cX4_sum 1 = .ok (.getfield 9, 3) := by decide +kernel
theorem dX4_sum_4 : decode cX4_sum 4 = .ok (.iload_n 2, 1) := by decide +kernel
theorem dX4_sum_5 : decode cX4_sum 5 = .ok (.iaload, 1) := by decide +kernel
theorem dX4_sum_6 : decode cX4_sum 6 = .ok (.istore 4, 2) := by decide +kernel
theorem dX4_sum_8 : decode cX4_sum 8 = .ok (.aload_n 1, 1) := by decide +kernel
theorem dX4_sum_9 : decode cX4_sum 9 = .ok (.iload_n 2, 1) := by decide +kernel
theorem dX4_sum_10 : decode cX4_sum 10 = .ok (.invokevirtual 80, 3) := by decide +kernel
theorem dX4_sum_13 : decode cX4_sum 13 = .ok (.istore 5, 2) := by decide +kernel
theorem dX4_sum_15 : decode cX4_sum 15 = .ok (.aload_n 0, 1) := by decide +kernel
theorem dX4_sum_16 : decode cX4_sum 16 = .ok (.dup, 1) := by decide +kernel
theorem dX4_sum_17 : decode cX4_sum 17 = .ok (.getfield 22, 3) := by decide +kernel
theorem dX4_sum_20 : decode cX4_sum 20 = .ok (.iload 4, 2) := by decide +kernel
theorem dX4_sum_22 : decode cX4_sum 22 = .ok (.iadd, 1) := by decide +kernel
theorem dX4_sum_23 : decode cX4_sum 23 = .ok (.putfield 22, 3) := by decide +kernel
theorem dX4_sum_26 : decode cX4_sum 26 = .ok (.aload_n 0, 1) := by decide +kernel
theorem dX4_sum_27 : decode cX4_sum 27 = .ok (.dup, 1) := by decide +kernel
theorem dX4_sum_28 : decode cX4_sum 28 = .ok (.getfield 25, 3) := by decide +kernel
theorem dX4_sum_31 : decode cX4_sum 31 = .ok (.iload 4, 2) := by decide +kernel
theorem dX4_sum_33 : decode cX4_sum 33 = .ok (.bipush 10, 2) := by decide +kernel
theorem dX4_sum_35 : decode cX4_sum 35 = .ok (.aload_n 1, 1) := by decide +kernel
theorem dX4_sum_36 : decode cX4_sum 36 = .ok (.getfield 84, 3) := by decide +kernel
theorem dX4_sum_39 : decode cX4_sum 39 = .ok (.iload_n 2, 1) := by decide +kernel
theorem dX4_sum_40 : decode cX4_sum 40 = .ok (.iaload, 1) := by decide +kernel
theorem dX4_sum_41 : decode cX4_sum 41 = .ok (.imul, 1) := by decide +kernel
theorem dX4_sum_42 : decode cX4_sum 42 = .ok (.aload_n 1, 1) := by decide +kernel
theorem dX4_sum_43 : decode cX4_sum 43 = .ok (.getfield 68, 3) := by decide +kernel
theorem dX4_sum_46 : decode cX4_sum 46 = .ok (.iload_n 2, 1) := by decide +kernel
theorem dX4_sum_47 : decode cX4_sum 47 = .ok (.iaload, 1) := by decide +kernel
theorem dX4_sum_48 : decode cX4_sum 48 = .ok (.iload_n 3, 1) := by decide +kernel
theorem dX4_sum_49 : decode cX4_sum 49 = .ok (.imul, 1) := by decide +kernel
theorem dX4_sum_50 : decode cX4_sum 50 = .ok (.iadd, 1) := by decide +kernel
theorem dX4_sum_51 : decode cX4_sum 51 = .ok (.imul, 1) := by decide +kernel
theorem dX4_sum_52 : decode cX4_sum 52 = .ok (.iadd, 1) := by decide +kernel
theorem dX4_sum_53 : decode cX4_sum 53 = .ok (.putfield 25, 3) := by decide +kernel
theorem dX4_sum_56 : decode cX4_sum 56 = .ok (.aload_n 0, 1) := by decide +kernel
theorem dX4_sum_57 : decode cX4_sum 57 = .ok (.dup, 1) := by decide +kernel
theorem dX4_sum_58 : decode cX4_sum 58 = .ok (.getfield 28, 3) := by decide +kernel
theorem dX4_sum_61 : decode cX4_sum 61 = .ok (.iload 4, 2) := by decide +kernel
theorem dX4_sum_63 : decode cX4_sum 63 = .ok (.iload 5, 2) := by decide +kernel
theorem dX4_sum_65 : decode cX4_sum 65 = .ok (.imul, 1) := by decide +kernel
theorem dX4_sum_66 : decode cX4_sum 66 = .ok (.iadd, 1) := by decide +kernel
theorem dX4_sum_67 : decode cX4_sum 67 = .ok (.putfield 28, 3) := by decide +kernel
theorem dX4_sum_70 : decode cX4_sum 70 = .ok (.aload_n 0, 1) := by decide +kernel
theorem dX4_sum_71 : decode cX4_sum 71 = .ok (.dup, 1) := by decide +kernel
theorem dX4_sum_72 : decode cX4_sum 72 = .ok (.getfield 31, 3) := by decide +kernel
theorem dX4_sum_75 : decode cX4_sum 75 = .ok (.sipush 800, 3) := by decide +kernel
theorem dX4_sum_78 : decode cX4_sum 78 = .ok (.aload_n 1, 1) := by decide +kernel
theorem dX4_sum_79 : decode cX4_sum 79 = .ok (.getfield 50, 3) := by decide +kernel
theorem dX4_sum_82 : decode cX4_sum 82 = .ok (.iload_n 2, 1) := by decide +kernel
theorem dX4_sum_83 : decode cX4_sum 83 = .ok (.iaload, 1) := by decide +kernel
theorem dX4_sum_84 : decode cX4_sum 84 = .ok (.imul, 1) := by decide +kernel
theorem dX4_sum_85 : decode cX4_sum 85 = .ok (.iload 4, 2) := by decide +kernel
theorem dX4_sum_87 : decode cX4_sum 87 = .ok (.isub, 1) := by decide +kernel
theorem dX4_sum_88 : decode cX4_sum 88 = .ok (.iconst 0, 1) := by decide +kernel
theorem dX4_sum_89 : decode cX4_sum 89 = .ok (.iload 5, 2) := by decide +kernel
theorem dX4_sum_91 : decode cX4_sum 91 = .ok (.invokestatic 87, 3) := by decide +kernel
theorem dX4_sum_94 : decode cX4_sum 94 = .ok (.imul, 1) := by decide +kernel
theorem dX4_sum_95 : decode cX4_sum 95 = .ok (.iadd, 1) := by decide +kernel
theorem dX4_sum_96 : decode cX4_sum 96 = .ok (.putfield 31, 3) := by decide +kernel
theorem dX4_sum_99 : decode cX4_sum 99 = .ok (.return_, 1) := by decide +kernel
theorem dX4_shares_0 : decode cX4_shares 0 = .ok (.bipush 10, 2) := by decide +kernel
theorem dX4_shares_2 : decode cX4_shares 2 = .ok (.aload_n 0, 1) := by decide +kernel
theorem dX4_shares_3 : decode cX4_shares 3 = .ok (.getfield 22, 3) := by decide +kernel
theorem dX4_shares_6 : decode cX4_shares 6 = .ok (.imul, 1) := by decide +kernel
theorem dX4_shares_7 : decode cX4_shares 7 = .ok (.ireturn, 1) := by decide +kernel
theorem dX4_lackAt_0 : decode cX4_lackAt 0 = .ok (.iload_n 1, 1) := by decide +kernel
theorem dX4_lackAt_1 : decode cX4_lackAt 1 = .ok (.aload_n 0, 1) := by decide +kernel
theorem dX4_lackAt_2 : decode cX4_lackAt 2 = .ok (.invokevirtual 92, 3) := by decide +kernel
theorem dX4_lackAt_5 : decode cX4_lackAt 5 = .ok (.imul, 1) := by decide +kernel
theorem dX4_lackAt_6 : decode cX4_lackAt 6 = .ok (.aload_n 0, 1) := by decide +kernel
theorem dX4_lackAt_7 : decode cX4_lackAt 7 = .ok (.getfield 25, 3) := by decide +kernel
theorem dX4_lackAt_10 : decode cX4_lackAt 10 = .ok (.isub, 1) := by decide +kernel
theorem dX4_lackAt_11 : decode cX4_lackAt 11 = .ok (.ireturn, 1) := by decide +kernel
theorem dX4_holdsAt_0 : decode cX4_holdsAt 0 = .ok (.aload_n 0, 1) := by decide +kernel
theorem dX4_holdsAt_1 : decode cX4_holdsAt 1 = .ok (.getfield 22, 3) := by decide +kernel
theorem dX4_holdsAt_4 : decode cX4_holdsAt 4 = .ok (.ifCond .le 15, 3) := by decide +kernel
theorem dX4_holdsAt_7 : decode cX4_holdsAt 7 = .ok (.aload_n 0, 1) := by decide +kernel
theorem dX4_holdsAt_8 : decode cX4_holdsAt 8 = .ok (.iload_n 1, 1) := by decide +kernel
theorem dX4_holdsAt_9 : decode cX4_holdsAt 9 = .ok (.invokevirtual 96, 3) := by decide +kernel
theorem dX4_holdsAt_12 : decode cX4_holdsAt 12 = .ok (.ifCond .gt 7, 3) := by decide +kernel
theorem dX4_holdsAt_15 : decode cX4_holdsAt 15 = .ok (.iconst 1, 1) := by decide +kernel
theorem dX4_holdsAt_16 : decode cX4_holdsAt 16 = .ok (.goto 4, 3) := by decide +kernel
theorem dX4_holdsAt_19 : decode cX4_holdsAt 19 = .ok (.iconst 0, 1) := by decide +kernel
theorem dX4_holdsAt_20 : decode cX4_holdsAt 20 = .ok (.ireturn, 1) := by decide +kernel
theorem dX4_bringsAll_0 : decode cX4_bringsAll 0 = .ok (.aload_n 0, 1) := by decide +kernel
theorem dX4_bringsAll_1 : decode cX4_bringsAll 1 = .ok (.getfield 15, 3) := by decide +kernel
theorem dX4_bringsAll_4 : decode cX4_bringsAll 4 = .ok (.iload_n 1, 1) := by decide +kernel
theorem dX4_bringsAll_5 : decode cX4_bringsAll 5 = .ok (.iand, 1) := by decide +kernel
theorem dX4_bringsAll_6 : decode cX4_bringsAll 6 = .ok (.iload_n 1, 1) := by decide +kernel
theorem dX4_bringsAll_7 : decode cX4_bringsAll 7 = .ok (.if_icmp .ne 7, 3) := by decide +kernel
theorem dX4_bringsAll_10 : decode cX4_bringsAll 10 = .ok (.iconst 1, 1) := by decide +kernel
theorem dX4_bringsAll_11 : decode cX4_bringsAll 11 = .ok (.goto 4, 3) := by decide +kernel
theorem dX4_bringsAll_14 : decode cX4_bringsAll 14 = .ok (.iconst 0, 1) := by decide +kernel
theorem dX4_bringsAll_15 : decode cX4_bringsAll 15 = .ok (.ireturn, 1) := by decide +kernel
theorem dX4_thoughtDown_0 : decode cX4_thoughtDown 0 = .ok (.aload_n 0, 1) := by decide +kernel
theorem dX4_thoughtDown_1 : decode cX4_thoughtDown 1 = .ok (.getfield 22, 3) := by decide +kernel
theorem dX4_thoughtDown_4 : decode cX4_thoughtDown 4 = .ok (.ifCond .le 17, 3) := by decide +kernel
theorem dX4_thoughtDown_7 : decode cX4_thoughtDown 7 = .ok (.aload_n 0, 1) := by decide +kernel
theorem dX4_thoughtDown_8 : decode cX4_thoughtDown 8 = .ok (.getfield 25, 3) := by decide +kernel
theorem dX4_thoughtDown_11 : decode cX4_thoughtDown 11 = .ok (.aload_n 0, 1) := by decide +kernel
theorem dX4_thoughtDown_12 : decode cX4_thoughtDown 12 = .ok (.invokevirtual 92, 3) := by decide +kernel
theorem dX4_thoughtDown_15 : decode cX4_thoughtDown 15 = .ok (.invokestatic 99, 3) := by decide +kernel
theorem dX4_thoughtDown_18 : decode cX4_thoughtDown 18 = .ok (.goto 4, 3) := by decide +kernel
theorem dX4_thoughtDown_21 : decode cX4_thoughtDown 21 = .ok (.iconst 0, 1) := by decide +kernel
theorem dX4_thoughtDown_22 : decode cX4_thoughtDown 22 = .ok (.ireturn, 1) := by decide +kernel
theorem dX4_priceBehind_0 : decode cX4_priceBehind 0 = .ok (.aload_n 0, 1) := by decide +kernel
theorem dX4_priceBehind_1 : decode cX4_priceBehind 1 = .ok (.getfield 22, 3) := by decide +kernel
theorem dX4_priceBehind_4 : decode cX4_priceBehind 4 = .ok (.ifCond .le 11, 3) := by decide +kernel
theorem dX4_priceBehind_7 : decode cX4_priceBehind 7 = .ok (.aload_n 0, 1) := by decide +kernel
theorem dX4_priceBehind_8 : decode cX4_priceBehind 8 = .ok (.iload_n 1, 1) := by decide +kernel
theorem dX4_priceBehind_9 : decode cX4_priceBehind 9 = .ok (.invokevirtual 102, 3) := by decide +kernel
theorem dX4_priceBehind_12 : decode cX4_priceBehind 12 = .ok (.ifCond .eq 5, 3) := by decide +kernel
theorem dX4_priceBehind_15 : decode cX4_priceBehind 15 = .ok (.iload_n 1, 1) := by decide +kernel
theorem dX4_priceBehind_16 : decode cX4_priceBehind 16 = .ok (.ireturn, 1) := by decide +kernel
theorem dX4_priceBehind_17 : decode cX4_priceBehind 17 = .ok (.iconst 0, 1) := by decide +kernel
theorem dX4_priceBehind_18 : decode cX4_priceBehind 18 = .ok (.aload_n 0, 1) := by decide +kernel
theorem dX4_priceBehind_19 : decode cX4_priceBehind 19 = .ok (.invokevirtual 105, 3) := by decide +kernel
theorem dX4_priceBehind_22 : decode cX4_priceBehind 22 = .ok (.invokestatic 87, 3) := by decide +kernel
theorem dX4_priceBehind_25 : decode cX4_priceBehind 25 = .ok (.ireturn, 1) := by decide +kernel
theorem dJ6_bitCount_0f7a4_0 : decode cJ6_bitCount_0f7a4 0 = .ok (.iload_n 0, 1) := by decide +kernel
theorem dJ6_bitCount_0f7a4_1 : decode cJ6_bitCount_0f7a4 1 = .ok (.iload_n 0, 1) := by decide +kernel
theorem dJ6_bitCount_0f7a4_2 : decode cJ6_bitCount_0f7a4 2 = .ok (.iconst 1, 1) := by decide +kernel
theorem dJ6_bitCount_0f7a4_3 : decode cJ6_bitCount_0f7a4 3 = .ok (.iushr, 1) := by decide +kernel
theorem dJ6_bitCount_0f7a4_4 : decode cJ6_bitCount_0f7a4 4 = .ok (.ldc_w 265, 3) := by decide +kernel
theorem dJ6_bitCount_0f7a4_7 : decode cJ6_bitCount_0f7a4 7 = .ok (.iand, 1) := by decide +kernel
theorem dJ6_bitCount_0f7a4_8 : decode cJ6_bitCount_0f7a4 8 = .ok (.isub, 1) := by decide +kernel
theorem dJ6_bitCount_0f7a4_9 : decode cJ6_bitCount_0f7a4 9 = .ok (.istore_n 0, 1) := by decide +kernel
theorem dJ6_bitCount_0f7a4_10 : decode cJ6_bitCount_0f7a4 10 = .ok (.iload_n 0, 1) := by decide +kernel
theorem dJ6_bitCount_0f7a4_11 : decode cJ6_bitCount_0f7a4 11 = .ok (.ldc_w 266, 3) := by decide +kernel
theorem dJ6_bitCount_0f7a4_14 : decode cJ6_bitCount_0f7a4 14 = .ok (.iand, 1) := by decide +kernel
theorem dJ6_bitCount_0f7a4_15 : decode cJ6_bitCount_0f7a4 15 = .ok (.iload_n 0, 1) := by decide +kernel
theorem dJ6_bitCount_0f7a4_16 : decode cJ6_bitCount_0f7a4 16 = .ok (.iconst 2, 1) := by decide +kernel
theorem dJ6_bitCount_0f7a4_17 : decode cJ6_bitCount_0f7a4 17 = .ok (.iushr, 1) := by decide +kernel
theorem dJ6_bitCount_0f7a4_18 : decode cJ6_bitCount_0f7a4 18 = .ok (.ldc_w 266, 3) := by decide +kernel
theorem dJ6_bitCount_0f7a4_21 : decode cJ6_bitCount_0f7a4 21 = .ok (.iand, 1) := by decide +kernel
theorem dJ6_bitCount_0f7a4_22 : decode cJ6_bitCount_0f7a4 22 = .ok (.iadd, 1) := by decide +kernel
theorem dJ6_bitCount_0f7a4_23 : decode cJ6_bitCount_0f7a4 23 = .ok (.istore_n 0, 1) := by decide +kernel
theorem dJ6_bitCount_0f7a4_24 : decode cJ6_bitCount_0f7a4 24 = .ok (.iload_n 0, 1) := by decide +kernel
theorem dJ6_bitCount_0f7a4_25 : decode cJ6_bitCount_0f7a4 25 = .ok (.iload_n 0, 1) := by decide +kernel
theorem dJ6_bitCount_0f7a4_26 : decode cJ6_bitCount_0f7a4 26 = .ok (.iconst 4, 1) := by decide +kernel
theorem dJ6_bitCount_0f7a4_27 : decode cJ6_bitCount_0f7a4 27 = .ok (.iushr, 1) := by decide +kernel
theorem dJ6_bitCount_0f7a4_28 : decode cJ6_bitCount_0f7a4 28 = .ok (.iadd, 1) := by decide +kernel
theorem dJ6_bitCount_0f7a4_29 : decode cJ6_bitCount_0f7a4 29 = .ok (.ldc_w 267, 3) := by decide +kernel
theorem dJ6_bitCount_0f7a4_32 : decode cJ6_bitCount_0f7a4 32 = .ok (.iand, 1) := by decide +kernel
theorem dJ6_bitCount_0f7a4_33 : decode cJ6_bitCount_0f7a4 33 = .ok (.istore_n 0, 1) := by decide +kernel
theorem dJ6_bitCount_0f7a4_34 : decode cJ6_bitCount_0f7a4 34 = .ok (.iload_n 0, 1) := by decide +kernel
theorem dJ6_bitCount_0f7a4_35 : decode cJ6_bitCount_0f7a4 35 = .ok (.iload_n 0, 1) := by decide +kernel
theorem dJ6_bitCount_0f7a4_36 : decode cJ6_bitCount_0f7a4 36 = .ok (.bipush 8, 2) := by decide +kernel
theorem dJ6_bitCount_0f7a4_38 : decode cJ6_bitCount_0f7a4 38 = .ok (.iushr, 1) := by decide +kernel
theorem dJ6_bitCount_0f7a4_39 : decode cJ6_bitCount_0f7a4 39 = .ok (.iadd, 1) := by decide +kernel
theorem dJ6_bitCount_0f7a4_40 : decode cJ6_bitCount_0f7a4 40 = .ok (.istore_n 0, 1) := by decide +kernel
theorem dJ6_bitCount_0f7a4_41 : decode cJ6_bitCount_0f7a4 41 = .ok (.iload_n 0, 1) := by decide +kernel
theorem dJ6_bitCount_0f7a4_42 : decode cJ6_bitCount_0f7a4 42 = .ok (.iload_n 0, 1) := by decide +kernel
theorem dJ6_bitCount_0f7a4_43 : decode cJ6_bitCount_0f7a4 43 = .ok (.bipush 16, 2) := by decide +kernel
theorem dJ6_bitCount_0f7a4_45 : decode cJ6_bitCount_0f7a4 45 = .ok (.iushr, 1) := by decide +kernel
theorem dJ6_bitCount_0f7a4_46 : decode cJ6_bitCount_0f7a4 46 = .ok (.iadd, 1) := by decide +kernel
theorem dJ6_bitCount_0f7a4_47 : decode cJ6_bitCount_0f7a4 47 = .ok (.istore_n 0, 1) := by decide +kernel
theorem dJ6_bitCount_0f7a4_48 : decode cJ6_bitCount_0f7a4 48 = .ok (.iload_n 0, 1) := by decide +kernel
theorem dJ6_bitCount_0f7a4_49 : decode cJ6_bitCount_0f7a4 49 = .ok (.bipush 63, 2) := by decide +kernel
theorem dJ6_bitCount_0f7a4_51 : decode cJ6_bitCount_0f7a4 51 = .ok (.iand, 1) := by decide +kernel
theorem dJ6_bitCount_0f7a4_52 : decode cJ6_bitCount_0f7a4 52 = .ok (.ireturn, 1) := by decide +kernel
theorem dJ9_floorDiv_7cf53_0 : decode cJ9_floorDiv_7cf53 0 = .ok (.iload_n 0, 1) := by decide +kernel
theorem dJ9_floorDiv_7cf53_1 : decode cJ9_floorDiv_7cf53 1 = .ok (.iload_n 1, 1) := by decide +kernel
theorem dJ9_floorDiv_7cf53_2 : decode cJ9_floorDiv_7cf53 2 = .ok (.idiv, 1) := by decide +kernel
theorem dJ9_floorDiv_7cf53_3 : decode cJ9_floorDiv_7cf53 3 = .ok (.istore_n 2, 1) := by decide +kernel
theorem dJ9_floorDiv_7cf53_4 : decode cJ9_floorDiv_7cf53 4 = .ok (.iload_n 0, 1) := by decide +kernel
theorem dJ9_floorDiv_7cf53_5 : decode cJ9_floorDiv_7cf53 5 = .ok (.iload_n 1, 1) := by decide +kernel
theorem dJ9_floorDiv_7cf53_6 : decode cJ9_floorDiv_7cf53 6 = .ok (.ixor, 1) := by decide +kernel
theorem dJ9_floorDiv_7cf53_7 : decode cJ9_floorDiv_7cf53 7 = .ok (.ifCond .ge 14, 3) := by decide +kernel
theorem dJ9_floorDiv_7cf53_10 : decode cJ9_floorDiv_7cf53 10 = .ok (.iload_n 2, 1) := by decide +kernel
theorem dJ9_floorDiv_7cf53_11 : decode cJ9_floorDiv_7cf53 11 = .ok (.iload_n 1, 1) := by decide +kernel
theorem dJ9_floorDiv_7cf53_12 : decode cJ9_floorDiv_7cf53 12 = .ok (.imul, 1) := by decide +kernel
theorem dJ9_floorDiv_7cf53_13 : decode cJ9_floorDiv_7cf53 13 = .ok (.iload_n 0, 1) := by decide +kernel
theorem dJ9_floorDiv_7cf53_14 : decode cJ9_floorDiv_7cf53 14 = .ok (.if_icmp .eq 7, 3) := by decide +kernel
theorem dJ9_floorDiv_7cf53_17 : decode cJ9_floorDiv_7cf53 17 = .ok (.iload_n 2, 1) := by decide +kernel
theorem dJ9_floorDiv_7cf53_18 : decode cJ9_floorDiv_7cf53 18 = .ok (.iconst 1, 1) := by decide +kernel
theorem dJ9_floorDiv_7cf53_19 : decode cJ9_floorDiv_7cf53 19 = .ok (.isub, 1) := by decide +kernel
theorem dJ9_floorDiv_7cf53_20 : decode cJ9_floorDiv_7cf53 20 = .ok (.ireturn, 1) := by decide +kernel
theorem dJ9_floorDiv_7cf53_21 : decode cJ9_floorDiv_7cf53 21 = .ok (.iload_n 2, 1) := by decide +kernel
theorem dJ9_floorDiv_7cf53_22 : decode cJ9_floorDiv_7cf53 22 = .ok (.ireturn, 1) := by decide +kernel
theorem dJ9_abs_0f7a4_0 : decode cJ9_abs_0f7a4 0 = .ok (.iload_n 0, 1) := by decide +kernel
theorem dJ9_abs_0f7a4_1 : decode cJ9_abs_0f7a4 1 = .ok (.ifCond .ge 8, 3) := by decide +kernel
theorem dJ9_abs_0f7a4_4 : decode cJ9_abs_0f7a4 4 = .ok (.iload_n 0, 1) := by decide +kernel
theorem dJ9_abs_0f7a4_5 : decode cJ9_abs_0f7a4 5 = .ok (.ineg, 1) := by decide +kernel
theorem dJ9_abs_0f7a4_6 : decode cJ9_abs_0f7a4 6 = .ok (.goto 4, 3) := by decide +kernel
theorem dJ9_abs_0f7a4_9 : decode cJ9_abs_0f7a4 9 = .ok (.iload_n 0, 1) := by decide +kernel
theorem dJ9_abs_0f7a4_10 : decode cJ9_abs_0f7a4 10 = .ok (.ireturn, 1) := by decide +kernel
theorem dJ9_max_7cf53_0 : decode cJ9_max_7cf53 0 = .ok (.iload_n 0, 1) := by decide +kernel
theorem dJ9_max_7cf53_1 : decode cJ9_max_7cf53 1 = .ok (.iload_n 1, 1) := by decide +kernel
theorem dJ9_max_7cf53_2 : decode cJ9_max_7cf53 2 = .ok (.if_icmp .lt 7, 3) := by decide +kernel
theorem dJ9_max_7cf53_5 : decode cJ9_max_7cf53 5 = .ok (.iload_n 0, 1) := by decide +kernel
theorem dJ9_max_7cf53_6 : decode cJ9_max_7cf53 6 = .ok (.goto 4, 3) := by decide +kernel
theorem dJ9_max_7cf53_9 : decode cJ9_max_7cf53 9 = .ok (.iload_n 1, 1) := by decide +kernel
theorem dJ9_max_7cf53_10 : decode cJ9_max_7cf53 10 = .ok (.ireturn, 1) := by decide +kernel
theorem dJ9_min_7cf53_0 : decode cJ9_min_7cf53 0 = .ok (.iload_n 0, 1) := by decide +kernel
theorem dJ9_min_7cf53_1 : decode cJ9_min_7cf53 1 = .ok (.iload_n 1, 1) := by decide +kernel
theorem dJ9_min_7cf53_2 : decode cJ9_min_7cf53 2 = .ok (.if_icmp .gt 7, 3) := by decide +kernel
theorem dJ9_min_7cf53_5 : decode cJ9_min_7cf53 5 = .ok (.iload_n 0, 1) := by decide +kernel
theorem dJ9_min_7cf53_6 : decode cJ9_min_7cf53 6 = .ok (.goto 4, 3) := by decide +kernel
theorem dJ9_min_7cf53_9 : decode cJ9_min_7cf53 9 = .ok (.iload_n 1, 1) := by decide +kernel
theorem dJ9_min_7cf53_10 : decode cJ9_min_7cf53 10 = .ok (.ireturn, 1) := by decide +kernel
