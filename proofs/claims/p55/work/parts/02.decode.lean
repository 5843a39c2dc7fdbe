theorem dX0_init_0 : decode cX0_init 0 = .ok (.aload_n 0, 1) := by decide +kernel
theorem dX0_init_1 : decode cX0_init 1 = .ok (.invokespecial 3, 3) := by decide +kernel
theorem dX0_init_4 : decode cX0_init 4 = .ok (.aload_n 0, 1) := by decide +kernel
theorem dX0_init_5 : decode cX0_init 5 = .ok (.iconst 4, 1) := by decide +kernel
theorem dX0_init_6 : decode cX0_init 6 = .ok (.newarray .int, 2) := by decide +kernel
theorem dX0_init_8 : decode cX0_init 8 = .ok (.putfield 9, 3) := by decide +kernel
theorem dX0_init_11 : decode cX0_init 11 = .ok (.aload_n 0, 1) := by decide +kernel
theorem dX0_init_12 : decode cX0_init 12 = .ok (.iconst 0, 1) := by decide +kernel
theorem dX0_init_13 : decode cX0_init 13 = .ok (.putfield 15, 3) := by decide +kernel
theorem dX0_init_16 : decode cX0_init 16 = .ok (.aload_n 0, 1) := by decide +kernel
theorem dX0_init_17 : decode cX0_init 17 = .ok (.aload_n 1, 1) := by decide +kernel
theorem dX0_init_18 : decode cX0_init 18 = .ok (.putfield 19, 3) := by decide +kernel
theorem dX0_init_21 : decode cX0_init 21 = .ok (.aload_n 0, 1) := by decide +kernel
theorem dX0_init_22 : decode cX0_init 22 = .ok (.aload_n 2, 1) := by decide +kernel
theorem dX0_init_23 : decode cX0_init 23 = .ok (.putfield 23, 3) := by decide +kernel
theorem dX0_init_26 : decode cX0_init 26 = .ok (.return_, 1) := by decide +kernel
theorem dX0_takeNumber_0 : decode cX0_takeNumber 0 = .ok (.getstatic 44, 3) := by decide +kernel
theorem dX0_takeNumber_3 : decode cX0_takeNumber 3 = .ok (.arraylength, 1) := by decide +kernel
theorem dX0_takeNumber_4 : decode cX0_takeNumber 4 = .ok (.istore_n 2, 1) := by decide +kernel
theorem dX0_takeNumber_5 : decode cX0_takeNumber 5 = .ok (.aload_n 0, 1) := by decide +kernel
theorem dX0_takeNumber_6 : decode cX0_takeNumber 6 = .ok (.iconst 0, 1) := by decide +kernel
theorem dX0_takeNumber_7 : decode cX0_takeNumber 7 = .ok (.putfield 15, 3) := by decide +kernel
theorem dX0_takeNumber_10 : decode cX0_takeNumber 10 = .ok (.iload_n 1, 1) := by decide +kernel
theorem dX0_takeNumber_11 : decode cX0_takeNumber 11 = .ok (.iload_n 2, 1) := by decide +kernel
theorem dX0_takeNumber_12 : decode cX0_takeNumber 12 = .ok (.if_icmp .ge 10, 3) := by decide +kernel
theorem dX0_takeNumber_15 : decode cX0_takeNumber 15 = .ok (.aload_n 0, 1) := by decide +kernel
theorem dX0_takeNumber_16 : decode cX0_takeNumber 16 = .ok (.iload_n 1, 1) := by decide +kernel
theorem dX0_takeNumber_17 : decode cX0_takeNumber 17 = .ok (.invokevirtual 40, 3) := by decide +kernel
theorem dX0_takeNumber_20 : decode cX0_takeNumber 20 = .ok (.iconst 1, 1) := by decide +kernel
theorem dX0_takeNumber_21 : decode cX0_takeNumber 21 = .ok (.ireturn, 1) := by decide +kernel
theorem dX0_takeNumber_22 : decode cX0_takeNumber 22 = .ok (.iload_n 1, 1) := by decide +kernel
theorem dX0_takeNumber_23 : decode cX0_takeNumber 23 = .ok (.iload_n 2, 1) := by decide +kernel
theorem dX0_takeNumber_24 : decode cX0_takeNumber 24 = .ok (.isub, 1) := by decide +kernel
theorem dX0_takeNumber_25 : decode cX0_takeNumber 25 = .ok (.iconst 5, 1) := by decide +kernel
theorem dX0_takeNumber_26 : decode cX0_takeNumber 26 = .ok (.idiv, 1) := by decide +kernel
theorem dX0_takeNumber_27 : decode cX0_takeNumber 27 = .ok (.istore_n 3, 1) := by decide +kernel
theorem dX0_takeNumber_28 : decode cX0_takeNumber 28 = .ok (.iload_n 1, 1) := by decide +kernel
theorem dX0_takeNumber_29 : decode cX0_takeNumber 29 = .ok (.iload_n 2, 1) := by decide +kernel
theorem dX0_takeNumber_30 : decode cX0_takeNumber 30 = .ok (.isub, 1) := by decide +kernel
theorem dX0_takeNumber_31 : decode cX0_takeNumber 31 = .ok (.iconst 5, 1) := by decide +kernel
theorem dX0_takeNumber_32 : decode cX0_takeNumber 32 = .ok (.irem, 1) := by decide +kernel
theorem dX0_takeNumber_33 : decode cX0_takeNumber 33 = .ok (.istore 4, 2) := by decide +kernel
theorem dX0_takeNumber_35 : decode cX0_takeNumber 35 = .ok (.aload_n 0, 1) := by decide +kernel
theorem dX0_takeNumber_36 : decode cX0_takeNumber 36 = .ok (.iload_n 3, 1) := by decide +kernel
theorem dX0_takeNumber_37 : decode cX0_takeNumber 37 = .ok (.invokevirtual 40, 3) := by decide +kernel
theorem dX0_takeNumber_40 : decode cX0_takeNumber 40 = .ok (.aload_n 0, 1) := by decide +kernel
theorem dX0_takeNumber_41 : decode cX0_takeNumber 41 = .ok (.iload 4, 2) := by decide +kernel
theorem dX0_takeNumber_43 : decode cX0_takeNumber 43 = .ok (.invokevirtual 40, 3) := by decide +kernel
theorem dX0_takeNumber_46 : decode cX0_takeNumber 46 = .ok (.iload_n 3, 1) := by decide +kernel
theorem dX0_takeNumber_47 : decode cX0_takeNumber 47 = .ok (.iload 4, 2) := by decide +kernel
theorem dX0_takeNumber_49 : decode cX0_takeNumber 49 = .ok (.if_icmp .eq 7, 3) := by decide +kernel
theorem dX0_takeNumber_52 : decode cX0_takeNumber 52 = .ok (.iconst 1, 1) := by decide +kernel
theorem dX0_takeNumber_53 : decode cX0_takeNumber 53 = .ok (.goto 4, 3) := by decide +kernel
theorem dX0_takeNumber_56 : decode cX0_takeNumber 56 = .ok (.iconst 0, 1) := by decide +kernel
theorem dX0_takeNumber_57 : decode cX0_takeNumber 57 = .ok (.ireturn, 1) := by decide +kernel
theorem dX0_addLetter_0 : decode cX0_addLetter 0 = .ok (.aload_n 0, 1) := by decide +kernel
theorem dX0_addLetter_1 : decode cX0_addLetter 1 = .ok (.getfield 15, 3) := by decide +kernel
theorem dX0_addLetter_4 : decode cX0_addLetter 4 = .ok (.aload_n 0, 1) := by decide +kernel
theorem dX0_addLetter_5 : decode cX0_addLetter 5 = .ok (.getfield 9, 3) := by decide +kernel
theorem dX0_addLetter_8 : decode cX0_addLetter 8 = .ok (.arraylength, 1) := by decide +kernel
theorem dX0_addLetter_9 : decode cX0_addLetter 9 = .ok (.if_icmp .ge 23, 3) := by decide +kernel
theorem dX0_addLetter_12 : decode cX0_addLetter 12 = .ok (.aload_n 0, 1) := by decide +kernel
theorem dX0_addLetter_13 : decode cX0_addLetter 13 = .ok (.getfield 9, 3) := by decide +kernel
theorem dX0_addLetter_16 : decode cX0_addLetter 16 = .ok (.aload_n 0, 1) := by decide +kernel
theorem dX0_addLetter_17 : decode cX0_addLetter 17 = .ok (.getfield 15, 3) := by decide +kernel
theorem dX0_addLetter_20 : decode cX0_addLetter 20 = .ok (.iload_n 1, 1) := by decide +kernel
theorem dX0_addLetter_21 : decode cX0_addLetter 21 = .ok (.iastore, 1) := by decide +kernel
theorem dX0_addLetter_22 : decode cX0_addLetter 22 = .ok (.aload_n 0, 1) := by decide +kernel
theorem dX0_addLetter_23 : decode cX0_addLetter 23 = .ok (.dup, 1) := by decide +kernel
theorem dX0_addLetter_24 : decode cX0_addLetter 24 = .ok (.getfield 15, 3) := by decide +kernel
theorem dX0_addLetter_27 : decode cX0_addLetter 27 = .ok (.iconst 1, 1) := by decide +kernel
theorem dX0_addLetter_28 : decode cX0_addLetter 28 = .ok (.iadd, 1) := by decide +kernel
theorem dX0_addLetter_29 : decode cX0_addLetter 29 = .ok (.putfield 15, 3) := by decide +kernel
theorem dX0_addLetter_32 : decode cX0_addLetter 32 = .ok (.return_, 1) := by decide +kernel
theorem dX0_go_0 : decode cX0_go 0 = .ok (.aload_n 0, 1) := by decide +kernel
theorem dX0_go_1 : decode cX0_go 1 = .ok (.getfield 23, 3) := by decide +kernel
theorem dX0_go_4 : decode cX0_go 4 = .ok (.aload_n 0, 1) := by decide +kernel
theorem dX0_go_5 : decode cX0_go 5 = .ok (.getfield 19, 3) := by decide +kernel
theorem dX0_go_8 : decode cX0_go 8 = .ok (.invokevirtual 48, 3) := by decide +kernel
theorem dX0_go_11 : decode cX0_go 11 = .ok (.invokevirtual 53, 3) := by decide +kernel
theorem dX0_go_14 : decode cX0_go 14 = .ok (.iconst 1, 1) := by decide +kernel
theorem dX0_go_15 : decode cX0_go 15 = .ok (.istore_n 1, 1) := by decide +kernel
theorem dX0_go_16 : decode cX0_go 16 = .ok (.iconst 0, 1) := by decide +kernel
theorem dX0_go_17 : decode cX0_go 17 = .ok (.istore_n 2, 1) := by decide +kernel
theorem dX0_go_18 : decode cX0_go 18 = .ok (.iload_n 2, 1) := by decide +kernel
theorem dX0_go_19 : decode cX0_go 19 = .ok (.bipush 8, 2) := by decide +kernel
theorem dX0_go_21 : decode cX0_go 21 = .ok (.if_icmp .ge 25, 3) := by decide +kernel
theorem dX0_go_24 : decode cX0_go 24 = .ok (.iload_n 1, 1) := by decide +kernel
theorem dX0_go_25 : decode cX0_go 25 = .ok (.ifCond .eq 21, 3) := by decide +kernel
theorem dX0_go_28 : decode cX0_go 28 = .ok (.aload_n 0, 1) := by decide +kernel
theorem dX0_go_29 : decode cX0_go 29 = .ok (.getfield 23, 3) := by decide +kernel
theorem dX0_go_32 : decode cX0_go 32 = .ok (.aload_n 0, 1) := by decide +kernel
theorem dX0_go_33 : decode cX0_go 33 = .ok (.invokevirtual 58, 3) := by decide +kernel
theorem dX0_go_36 : decode cX0_go 36 = .ok (.invokevirtual 61, 3) := by decide +kernel
theorem dX0_go_39 : decode cX0_go 39 = .ok (.istore_n 1, 1) := by decide +kernel
theorem dX0_go_40 : decode cX0_go 40 = .ok (.iinc 2 1, 3) := by decide +kernel
theorem dX0_go_43 : decode cX0_go 43 = .ok (.goto (-25), 3) := by decide +kernel
theorem dX0_go_46 : decode cX0_go 46 = .ok (.return_, 1) := by decide +kernel
theorem dX0_nextByRule_0 : decode cX0_nextByRule 0 = .ok (.aload_n 0, 1) := by decide +kernel
theorem dX0_nextByRule_1 : decode cX0_nextByRule 1 = .ok (.getfield 23, 3) := by decide +kernel
theorem dX0_nextByRule_4 : decode cX0_nextByRule 4 = .ok (.invokevirtual 65, 3) := by decide +kernel
theorem dX0_nextByRule_7 : decode cX0_nextByRule 7 = .ok (.istore_n 1, 1) := by decide +kernel
theorem dX0_nextByRule_8 : decode cX0_nextByRule 8 = .ok (.bipush (-9), 2) := by decide +kernel
theorem dX0_nextByRule_10 : decode cX0_nextByRule 10 = .ok (.istore_n 2, 1) := by decide +kernel
theorem dX0_nextByRule_11 : decode cX0_nextByRule 11 = .ok (.iconst 0, 1) := by decide +kernel
theorem dX0_nextByRule_12 : decode cX0_nextByRule 12 = .ok (.istore_n 3, 1) := by decide +kernel
theorem dX0_nextByRule_13 : decode cX0_nextByRule 13 = .ok (.iload_n 3, 1) := by decide +kernel
theorem dX0_nextByRule_14 : decode cX0_nextByRule 14 = .ok (.aload_n 0, 1) := by decide +kernel
theorem dX0_nextByRule_15 : decode cX0_nextByRule 15 = .ok (.getfield 19, 3) := by decide +kernel
theorem dX0_nextByRule_18 : decode cX0_nextByRule 18 = .ok (.getfield 68, 3) := by decide +kernel
theorem dX0_nextByRule_21 : decode cX0_nextByRule 21 = .ok (.if_icmp .ge 76, 3) := by decide +kernel
theorem dX0_nextByRule_24 : decode cX0_nextByRule 24 = .ok (.iload_n 3, 1) := by decide +kernel
theorem dX0_nextByRule_25 : decode cX0_nextByRule 25 = .ok (.iload_n 1, 1) := by decide +kernel
theorem dX0_nextByRule_26 : decode cX0_nextByRule 26 = .ok (.invokestatic 71, 3) := by decide +kernel
theorem dX0_nextByRule_29 : decode cX0_nextByRule 29 = .ok (.ifCond .ne 37, 3) := by decide +kernel
theorem dX0_nextByRule_32 : decode cX0_nextByRule 32 = .ok (.aload_n 0, 1) := by decide +kernel
theorem dX0_nextByRule_33 : decode cX0_nextByRule 33 = .ok (.getfield 23, 3) := by decide +kernel
theorem dX0_nextByRule_36 : decode cX0_nextByRule 36 = .ok (.getfield 75, 3) := by decide +kernel
theorem dX0_nextByRule_39 : decode cX0_nextByRule 39 = .ok (.iload_n 3, 1) := by decide +kernel
theorem dX0_nextByRule_40 : decode cX0_nextByRule 40 = .ok (.aload_n 0, 1) := by decide +kernel
theorem dX0_nextByRule_41 : decode cX0_nextByRule 41 = .ok (.getfield 23, 3) := by decide +kernel
theorem dX0_nextByRule_44 : decode cX0_nextByRule 44 = .ok (.getfield 79, 3) := by decide +kernel
theorem dX0_nextByRule_47 : decode cX0_nextByRule 47 = .ok (.aload_n 0, 1) := by decide +kernel
theorem dX0_nextByRule_48 : decode cX0_nextByRule 48 = .ok (.getfield 23, 3) := by decide +kernel
theorem dX0_nextByRule_51 : decode cX0_nextByRule 51 = .ok (.getfield 82, 3) := by decide +kernel
theorem dX0_nextByRule_54 : decode cX0_nextByRule 54 = .ok (.invokevirtual 85, 3) := by decide +kernel
theorem dX0_nextByRule_57 : decode cX0_nextByRule 57 = .ok (.bipush (-9), 2) := by decide +kernel
theorem dX0_nextByRule_59 : decode cX0_nextByRule 59 = .ok (.if_icmp .eq 7, 3) := by decide +kernel
theorem dX0_nextByRule_62 : decode cX0_nextByRule 62 = .ok (.iconst 1, 1) := by decide +kernel
theorem dX0_nextByRule_63 : decode cX0_nextByRule 63 = .ok (.goto 4, 3) := by decide +kernel
theorem dX0_nextByRule_66 : decode cX0_nextByRule 66 = .ok (.iconst 0, 1) := by decide +kernel
theorem dX0_nextByRule_67 : decode cX0_nextByRule 67 = .ok (.istore 4, 2) := by decide +kernel
theorem dX0_nextByRule_69 : decode cX0_nextByRule 69 = .ok (.iload 4, 2) := by decide +kernel
theorem dX0_nextByRule_71 : decode cX0_nextByRule 71 = .ok (.ifCond .eq 20, 3) := by decide +kernel
theorem dX0_nextByRule_74 : decode cX0_nextByRule 74 = .ok (.iload_n 2, 1) := by decide +kernel
theorem dX0_nextByRule_75 : decode cX0_nextByRule 75 = .ok (.bipush (-9), 2) := by decide +kernel
theorem dX0_nextByRule_77 : decode cX0_nextByRule 77 = .ok (.if_icmp .eq 12, 3) := by decide +kernel
theorem dX0_nextByRule_80 : decode cX0_nextByRule 80 = .ok (.aload_n 0, 1) := by decide +kernel
theorem dX0_nextByRule_81 : decode cX0_nextByRule 81 = .ok (.iload_n 3, 1) := by decide +kernel
theorem dX0_nextByRule_82 : decode cX0_nextByRule 82 = .ok (.iload_n 2, 1) := by decide +kernel
theorem dX0_nextByRule_83 : decode cX0_nextByRule 83 = .ok (.invokevirtual 91, 3) := by decide +kernel
theorem dX0_nextByRule_86 : decode cX0_nextByRule 86 = .ok (.ifCond .eq 5, 3) := by decide +kernel
theorem dX0_nextByRule_89 : decode cX0_nextByRule 89 = .ok (.iload_n 3, 1) := by decide +kernel
theorem dX0_nextByRule_90 : decode cX0_nextByRule 90 = .ok (.istore_n 2, 1) := by decide +kernel
theorem dX0_nextByRule_91 : decode cX0_nextByRule 91 = .ok (.iinc 3 1, 3) := by decide +kernel
theorem dX0_nextByRule_94 : decode cX0_nextByRule 94 = .ok (.goto (-81), 3) := by decide +kernel
theorem dX0_nextByRule_97 : decode cX0_nextByRule 97 = .ok (.iload_n 2, 1) := by decide +kernel
theorem dX0_nextByRule_98 : decode cX0_nextByRule 98 = .ok (.ireturn, 1) := by decide +kernel
theorem dX0_isAhead_0 : decode cX0_isAhead 0 = .ok (.iconst 0, 1) := by decide +kernel
theorem dX0_isAhead_1 : decode cX0_isAhead 1 = .ok (.istore_n 3, 1) := by decide +kernel
theorem dX0_isAhead_2 : decode cX0_isAhead 2 = .ok (.iload_n 3, 1) := by decide +kernel
theorem dX0_isAhead_3 : decode cX0_isAhead 3 = .ok (.aload_n 0, 1) := by decide +kernel
theorem dX0_isAhead_4 : decode cX0_isAhead 4 = .ok (.getfield 15, 3) := by decide +kernel
theorem dX0_isAhead_7 : decode cX0_isAhead 7 = .ok (.if_icmp .ge 59, 3) := by decide +kernel
theorem dX0_isAhead_10 : decode cX0_isAhead 10 = .ok (.iload_n 3, 1) := by decide +kernel
theorem dX0_isAhead_11 : decode cX0_isAhead 11 = .ok (.aload_n 0, 1) := by decide +kernel
theorem dX0_isAhead_12 : decode cX0_isAhead 12 = .ok (.getfield 9, 3) := by decide +kernel
theorem dX0_isAhead_15 : decode cX0_isAhead 15 = .ok (.arraylength, 1) := by decide +kernel
theorem dX0_isAhead_16 : decode cX0_isAhead 16 = .ok (.if_icmp .ge 50, 3) := by decide +kernel
theorem dX0_isAhead_19 : decode cX0_isAhead 19 = .ok (.aload_n 0, 1) := by decide +kernel
theorem dX0_isAhead_20 : decode cX0_isAhead 20 = .ok (.iload_n 1, 1) := by decide +kernel
theorem dX0_isAhead_21 : decode cX0_isAhead 21 = .ok (.aload_n 0, 1) := by decide +kernel
theorem dX0_isAhead_22 : decode cX0_isAhead 22 = .ok (.getfield 9, 3) := by decide +kernel
theorem dX0_isAhead_25 : decode cX0_isAhead 25 = .ok (.iload_n 3, 1) := by decide +kernel
theorem dX0_isAhead_26 : decode cX0_isAhead 26 = .ok (.iaload, 1) := by decide +kernel
theorem dX0_isAhead_27 : decode cX0_isAhead 27 = .ok (.invokevirtual 94, 3) := by decide +kernel
theorem dX0_isAhead_30 : decode cX0_isAhead 30 = .ok (.aload_n 0, 1) := by decide +kernel
theorem dX0_isAhead_31 : decode cX0_isAhead 31 = .ok (.iload_n 2, 1) := by decide +kernel
theorem dX0_isAhead_32 : decode cX0_isAhead 32 = .ok (.aload_n 0, 1) := by decide +kernel
theorem dX0_isAhead_33 : decode cX0_isAhead 33 = .ok (.getfield 9, 3) := by decide +kernel
theorem dX0_isAhead_36 : decode cX0_isAhead 36 = .ok (.iload_n 3, 1) := by decide +kernel
theorem dX0_isAhead_37 : decode cX0_isAhead 37 = .ok (.iaload, 1) := by decide +kernel
theorem dX0_isAhead_38 : decode cX0_isAhead 38 = .ok (.invokevirtual 94, 3) := by decide +kernel
theorem dX0_isAhead_41 : decode cX0_isAhead 41 = .ok (.isub, 1) := by decide +kernel
theorem dX0_isAhead_42 : decode cX0_isAhead 42 = .ok (.istore 4, 2) := by decide +kernel
theorem dX0_isAhead_44 : decode cX0_isAhead 44 = .ok (.iload 4, 2) := by decide +kernel
theorem dX0_isAhead_46 : decode cX0_isAhead 46 = .ok (.ifCond .eq 14, 3) := by decide +kernel
theorem dX0_isAhead_49 : decode cX0_isAhead 49 = .ok (.iload 4, 2) := by decide +kernel
theorem dX0_isAhead_51 : decode cX0_isAhead 51 = .ok (.ifCond .ge 7, 3) := by decide +kernel
theorem dX0_isAhead_54 : decode cX0_isAhead 54 = .ok (.iconst 1, 1) := by decide +kernel
theorem dX0_isAhead_55 : decode cX0_isAhead 55 = .ok (.goto 4, 3) := by decide +kernel
theorem dX0_isAhead_58 : decode cX0_isAhead 58 = .ok (.iconst 0, 1) := by decide +kernel
theorem dX0_isAhead_59 : decode cX0_isAhead 59 = .ok (.ireturn, 1) := by decide +kernel
theorem dX0_isAhead_60 : decode cX0_isAhead 60 = .ok (.iinc 3 1, 3) := by decide +kernel
theorem dX0_isAhead_63 : decode cX0_isAhead 63 = .ok (.goto (-61), 3) := by decide +kernel
theorem dX0_isAhead_66 : decode cX0_isAhead 66 = .ok (.iconst 0, 1) := by decide +kernel
theorem dX0_isAhead_67 : decode cX0_isAhead 67 = .ok (.ireturn, 1) := by decide +kernel
theorem dX0_rankOf_0 : decode cX0_rankOf 0 = .ok (.aload_n 0, 1) := by decide +kernel
theorem dX0_rankOf_1 : decode cX0_rankOf 1 = .ok (.getfield 19, 3) := by decide +kernel
theorem dX0_rankOf_4 : decode cX0_rankOf 4 = .ok (.iload_n 1, 1) := by decide +kernel
theorem dX0_rankOf_5 : decode cX0_rankOf 5 = .ok (.invokevirtual 98, 3) := by decide +kernel
theorem dX0_rankOf_8 : decode cX0_rankOf 8 = .ok (.astore_n 3, 1) := by decide +kernel
theorem dX0_rankOf_9 : decode cX0_rankOf 9 = .ok (.iload_n 2, 1) := by decide +kernel
theorem dX0_rankOf_10 : decode cX0_rankOf 10 = .ok (.tableswitch 68 0 3 #[30, 36, 41, 46], 30) := by decide +kernel
theorem dX0_rankOf_40 : decode cX0_rankOf 40 = .ok (.aload_n 3, 1) := by decide +kernel
theorem dX0_rankOf_41 : decode cX0_rankOf 41 = .ok (.getfield 102, 3) := by decide +kernel
theorem dX0_rankOf_44 : decode cX0_rankOf 44 = .ok (.ineg, 1) := by decide +kernel
theorem dX0_rankOf_45 : decode cX0_rankOf 45 = .ok (.ireturn, 1) := by decide +kernel
theorem dX0_rankOf_46 : decode cX0_rankOf 46 = .ok (.aload_n 3, 1) := by decide +kernel
theorem dX0_rankOf_47 : decode cX0_rankOf 47 = .ok (.getfield 107, 3) := by decide +kernel
theorem dX0_rankOf_50 : decode cX0_rankOf 50 = .ok (.ireturn, 1) := by decide +kernel
theorem dX0_rankOf_51 : decode cX0_rankOf 51 = .ok (.aload_n 3, 1) := by decide +kernel
theorem dX0_rankOf_52 : decode cX0_rankOf 52 = .ok (.getfield 110, 3) := by decide +kernel
theorem dX0_rankOf_55 : decode cX0_rankOf 55 = .ok (.ireturn, 1) := by decide +kernel
theorem dX0_rankOf_56 : decode cX0_rankOf 56 = .ok (.aload_n 0, 1) := by decide +kernel
theorem dX0_rankOf_57 : decode cX0_rankOf 57 = .ok (.getfield 23, 3) := by decide +kernel
theorem dX0_rankOf_60 : decode cX0_rankOf 60 = .ok (.getfield 79, 3) := by decide +kernel
theorem dX0_rankOf_63 : decode cX0_rankOf 63 = .ok (.aload_n 0, 1) := by decide +kernel
theorem dX0_rankOf_64 : decode cX0_rankOf 64 = .ok (.getfield 19, 3) := by decide +kernel
theorem dX0_rankOf_67 : decode cX0_rankOf 67 = .ok (.aload_n 3, 1) := by decide +kernel
theorem dX0_rankOf_68 : decode cX0_rankOf 68 = .ok (.getfield 112, 3) := by decide +kernel
theorem dX0_rankOf_71 : decode cX0_rankOf 71 = .ok (.invokevirtual 115, 3) := by decide +kernel
theorem dX0_rankOf_74 : decode cX0_rankOf 74 = .ok (.invokestatic 118, 3) := by decide +kernel
theorem dX0_rankOf_77 : decode cX0_rankOf 77 = .ok (.ireturn, 1) := by decide +kernel
theorem dX0_rankOf_78 : decode cX0_rankOf 78 = .ok (.aload_n 3, 1) := by decide +kernel
theorem dX0_rankOf_79 : decode cX0_rankOf 79 = .ok (.iconst 1, 1) := by decide +kernel
theorem dX0_rankOf_80 : decode cX0_rankOf 80 = .ok (.invokevirtual 121, 3) := by decide +kernel
theorem dX0_rankOf_83 : decode cX0_rankOf 83 = .ok (.ifCond .eq 7, 3) := by decide +kernel
theorem dX0_rankOf_86 : decode cX0_rankOf 86 = .ok (.iconst 0, 1) := by decide +kernel
theorem dX0_rankOf_87 : decode cX0_rankOf 87 = .ok (.goto 4, 3) := by decide +kernel
theorem dX0_rankOf_90 : decode cX0_rankOf 90 = .ok (.iconst 1, 1) := by decide +kernel
theorem dX0_rankOf_91 : decode cX0_rankOf 91 = .ok (.ireturn, 1) := by decide +kernel
theorem dX1_init_0 : decode cX1_init 0 = .ok (.aload_n 0, 1) := by decide +kernel
theorem dX1_init_1 : decode cX1_init 1 = .ok (.invokespecial 3, 3) := by decide +kernel
theorem dX1_init_4 : decode cX1_init 4 = .ok (.aload_n 0, 1) := by decide +kernel
theorem dX1_init_5 : decode cX1_init 5 = .ok (.bipush 8, 2) := by decide +kernel
theorem dX1_init_7 : decode cX1_init 7 = .ok (.newarray .int, 2) := by decide +kernel
theorem dX1_init_9 : decode cX1_init 9 = .ok (.putfield 9, 3) := by decide +kernel
theorem dX1_init_12 : decode cX1_init 12 = .ok (.aload_n 0, 1) := by decide +kernel
theorem dX1_init_13 : decode cX1_init 13 = .ok (.bipush 8, 2) := by decide +kernel
theorem dX1_init_15 : decode cX1_init 15 = .ok (.newarray .int, 2) := by decide +kernel
theorem dX1_init_17 : decode cX1_init 17 = .ok (.putfield 15, 3) := by decide +kernel
theorem dX1_init_20 : decode cX1_init 20 = .ok (.aload_n 0, 1) := by decide +kernel
theorem dX1_init_21 : decode cX1_init 21 = .ok (.bipush 8, 2) := by decide +kernel
theorem dX1_init_23 : decode cX1_init 23 = .ok (.newarray .int, 2) := by decide +kernel
theorem dX1_init_25 : decode cX1_init 25 = .ok (.putfield 18, 3) := by decide +kernel
theorem dX1_init_28 : decode cX1_init 28 = .ok (.aload_n 0, 1) := by decide +kernel
theorem dX1_init_29 : decode cX1_init 29 = .ok (.bipush 8, 2) := by decide +kernel
theorem dX1_init_31 : decode cX1_init 31 = .ok (.newarray .int, 2) := by decide +kernel
theorem dX1_init_33 : decode cX1_init 33 = .ok (.putfield 21, 3) := by decide +kernel
theorem dX1_init_36 : decode cX1_init 36 = .ok (.aload_n 0, 1) := by decide +kernel
theorem dX1_init_37 : decode cX1_init 37 = .ok (.bipush 8, 2) := by decide +kernel
theorem dX1_init_39 : decode cX1_init 39 = .ok (.newarray .int, 2) := by decide +kernel
theorem dX1_init_41 : decode cX1_init 41 = .ok (.putfield 24, 3) := by decide +kernel
theorem dX1_init_44 : decode cX1_init 44 = .ok (.aload_n 0, 1) := by decide +kernel
theorem dX1_init_45 : decode cX1_init 45 = .ok (.iconst 0, 1) := by decide +kernel
theorem dX1_init_46 : decode cX1_init 46 = .ok (.putfield 27, 3) := by decide +kernel
theorem dX1_init_49 : decode cX1_init 49 = .ok (.return_, 1) := by decide +kernel
theorem dX1_load_0 : decode cX1_load 0 = .ok (.aload_n 0, 1) := by decide +kernel
theorem dX1_load_1 : decode cX1_load 1 = .ok (.aload_n 1, 1) := by decide +kernel
theorem dX1_load_2 : decode cX1_load 2 = .ok (.getfield 31, 3) := by decide +kernel
theorem dX1_load_5 : decode cX1_load 5 = .ok (.bipush 8, 2) := by decide +kernel
theorem dX1_load_7 : decode cX1_load 7 = .ok (.invokestatic 36, 3) := by decide +kernel
theorem dX1_load_10 : decode cX1_load 10 = .ok (.putfield 27, 3) := by decide +kernel
theorem dX1_load_13 : decode cX1_load 13 = .ok (.iconst 0, 1) := by decide +kernel
theorem dX1_load_14 : decode cX1_load 14 = .ok (.istore_n 2, 1) := by decide +kernel
theorem dX1_load_15 : decode cX1_load 15 = .ok (.iload_n 2, 1) := by decide +kernel
theorem dX1_load_16 : decode cX1_load 16 = .ok (.aload_n 0, 1) := by decide +kernel
theorem dX1_load_17 : decode cX1_load 17 = .ok (.getfield 27, 3) := by decide +kernel
theorem dX1_load_20 : decode cX1_load 20 = .ok (.if_icmp .ge 69, 3) := by decide +kernel
theorem dX1_load_23 : decode cX1_load 23 = .ok (.aload_n 1, 1) := by decide +kernel
theorem dX1_load_24 : decode cX1_load 24 = .ok (.iload_n 2, 1) := by decide +kernel
theorem dX1_load_25 : decode cX1_load 25 = .ok (.invokevirtual 42, 3) := by decide +kernel
theorem dX1_load_28 : decode cX1_load 28 = .ok (.astore_n 3, 1) := by decide +kernel
theorem dX1_load_29 : decode cX1_load 29 = .ok (.aload_n 0, 1) := by decide +kernel
theorem dX1_load_30 : decode cX1_load 30 = .ok (.getfield 9, 3) := by decide +kernel
theorem dX1_load_33 : decode cX1_load 33 = .ok (.iload_n 2, 1) := by decide +kernel
theorem dX1_load_34 : decode cX1_load 34 = .ok (.aload_n 1, 1) := by decide +kernel
theorem dX1_load_35 : decode cX1_load 35 = .ok (.aload_n 3, 1) := by decide +kernel
theorem dX1_load_36 : decode cX1_load 36 = .ok (.getfield 46, 3) := by decide +kernel
theorem dX1_load_39 : decode cX1_load 39 = .ok (.invokevirtual 51, 3) := by decide +kernel
theorem dX1_load_42 : decode cX1_load 42 = .ok (.iastore, 1) := by decide +kernel
theorem dX1_load_43 : decode cX1_load 43 = .ok (.aload_n 0, 1) := by decide +kernel
theorem dX1_load_44 : decode cX1_load 44 = .ok (.getfield 15, 3) := by decide +kernel
theorem dX1_load_47 : decode cX1_load 47 = .ok (.iload_n 2, 1) := by decide +kernel
theorem dX1_load_48 : decode cX1_load 48 = .ok (.aload_n 3, 1) := by decide +kernel
theorem dX1_load_49 : decode cX1_load 49 = .ok (.getfield 55, 3) := by decide +kernel
theorem dX1_load_52 : decode cX1_load 52 = .ok (.iastore, 1) := by decide +kernel
theorem dX1_load_53 : decode cX1_load 53 = .ok (.aload_n 0, 1) := by decide +kernel
theorem dX1_load_54 : decode cX1_load 54 = .ok (.getfield 18, 3) := by decide +kernel
theorem dX1_load_57 : decode cX1_load 57 = .ok (.iload_n 2, 1) := by decide +kernel
theorem dX1_load_58 : decode cX1_load 58 = .ok (.aload_n 3, 1) := by decide +kernel
theorem dX1_load_59 : decode cX1_load 59 = .ok (.invokevirtual 58, 3) := by decide +kernel
theorem dX1_load_62 : decode cX1_load 62 = .ok (.iastore, 1) := by decide +kernel
theorem dX1_load_63 : decode cX1_load 63 = .ok (.aload_n 0, 1) := by decide +kernel
theorem dX1_load_64 : decode cX1_load 64 = .ok (.getfield 21, 3) := by decide +kernel
theorem dX1_load_67 : decode cX1_load 67 = .ok (.iload_n 2, 1) := by decide +kernel
theorem dX1_load_68 : decode cX1_load 68 = .ok (.aload_n 3, 1) := by decide +kernel
theorem dX1_load_69 : decode cX1_load 69 = .ok (.getfield 62, 3) := by decide +kernel
theorem dX1_load_72 : decode cX1_load 72 = .ok (.iastore, 1) := by decide +kernel
theorem dX1_load_73 : decode cX1_load 73 = .ok (.aload_n 0, 1) := by decide +kernel
theorem dX1_load_74 : decode cX1_load 74 = .ok (.getfield 24, 3) := by decide +kernel
theorem dX1_load_77 : decode cX1_load 77 = .ok (.iload_n 2, 1) := by decide +kernel
theorem dX1_load_78 : decode cX1_load 78 = .ok (.aload_n 3, 1) := by decide +kernel
theorem dX1_load_79 : decode cX1_load 79 = .ok (.getfield 65, 3) := by decide +kernel
theorem dX1_load_82 : decode cX1_load 82 = .ok (.iastore, 1) := by decide +kernel
theorem dX1_load_83 : decode cX1_load 83 = .ok (.iinc 2 1, 3) := by decide +kernel
theorem dX1_load_86 : decode cX1_load 86 = .ok (.goto (-71), 3) := by decide +kernel
theorem dX1_load_89 : decode cX1_load 89 = .ok (.return_, 1) := by decide +kernel
theorem dX1_placeOf_0 : decode cX1_placeOf 0 = .ok (.iload_n 1, 1) := by decide +kernel
theorem dX1_placeOf_1 : decode cX1_placeOf 1 = .ok (.ifCond .lt 26, 3) := by decide +kernel
theorem dX1_placeOf_4 : decode cX1_placeOf 4 = .ok (.iload_n 1, 1) := by decide +kernel
theorem dX1_placeOf_5 : decode cX1_placeOf 5 = .ok (.aload_n 0, 1) := by decide +kernel
theorem dX1_placeOf_6 : decode cX1_placeOf 6 = .ok (.getfield 27, 3) := by decide +kernel
theorem dX1_placeOf_9 : decode cX1_placeOf 9 = .ok (.if_icmp .ge 18, 3) := by decide +kernel
theorem dX1_placeOf_12 : decode cX1_placeOf 12 = .ok (.iload_n 1, 1) := by decide +kernel
theorem dX1_placeOf_13 : decode cX1_placeOf 13 = .ok (.bipush 8, 2) := by decide +kernel
theorem dX1_placeOf_15 : decode cX1_placeOf 15 = .ok (.if_icmp .ge 12, 3) := by decide +kernel
theorem dX1_placeOf_18 : decode cX1_placeOf 18 = .ok (.aload_n 0, 1) := by decide +kernel
theorem dX1_placeOf_19 : decode cX1_placeOf 19 = .ok (.getfield 9, 3) := by decide +kernel
theorem dX1_placeOf_22 : decode cX1_placeOf 22 = .ok (.iload_n 1, 1) := by decide +kernel
theorem dX1_placeOf_23 : decode cX1_placeOf 23 = .ok (.iaload, 1) := by decide +kernel
theorem dX1_placeOf_24 : decode cX1_placeOf 24 = .ok (.goto 4, 3) := by decide +kernel
theorem dX1_placeOf_27 : decode cX1_placeOf 27 = .ok (.iconst 0, 1) := by decide +kernel
theorem dX1_placeOf_28 : decode cX1_placeOf 28 = .ok (.ireturn, 1) := by decide +kernel
theorem dX1_lengthOf_0 : decode cX1_lengthOf 0 = .ok (.iload_n 1, 1) := by decide +kernel
theorem dX1_lengthOf_1 : decode cX1_lengthOf 1 = .ok (.ifCond .lt 26, 3) := by decide +kernel
theorem dX1_lengthOf_4 : decode cX1_lengthOf 4 = .ok (.iload_n 1, 1) := by decide +kernel
theorem dX1_lengthOf_5 : decode cX1_lengthOf 5 = .ok (.aload_n 0, 1) := by decide +kernel
theorem dX1_lengthOf_6 : decode cX1_lengthOf 6 = .ok (.getfield 27, 3) := by decide +kernel
theorem dX1_lengthOf_9 : decode cX1_lengthOf 9 = .ok (.if_icmp .ge 18, 3) := by decide +kernel
theorem dX1_lengthOf_12 : decode cX1_lengthOf 12 = .ok (.iload_n 1, 1) := by decide +kernel
theorem dX1_lengthOf_13 : decode cX1_lengthOf 13 = .ok (.bipush 8, 2) := by decide +kernel
theorem dX1_lengthOf_15 : decode cX1_lengthOf 15 = .ok (.if_icmp .ge 12, 3) := by decide +kernel
theorem dX1_lengthOf_18 : decode cX1_lengthOf 18 = .ok (.aload_n 0, 1) := by decide +kernel
theorem dX1_lengthOf_19 : decode cX1_lengthOf 19 = .ok (.getfield 21, 3) := by decide +kernel
theorem dX1_lengthOf_22 : decode cX1_lengthOf 22 = .ok (.iload_n 1, 1) := by decide +kernel
theorem dX1_lengthOf_23 : decode cX1_lengthOf 23 = .ok (.iaload, 1) := by decide +kernel
theorem dX1_lengthOf_24 : decode cX1_lengthOf 24 = .ok (.goto 4, 3) := by decide +kernel
theorem dX1_lengthOf_27 : decode cX1_lengthOf 27 = .ok (.iconst 0, 1) := by decide +kernel
theorem dX1_lengthOf_28 : decode cX1_lengthOf 28 = .ok (.ireturn, 1) := by decide +kernel
theorem dX1_worthOf_0 : decode cX1_worthOf 0 = .ok (.iconst 0, 1) := by decide +kernel
theorem dX1_worthOf_1 : decode cX1_worthOf 1 = .ok (.istore_n 2, 1) := by decide +kernel
theorem dX1_worthOf_2 : decode cX1_worthOf 2 = .ok (.iconst 0, 1) := by decide +kernel
theorem dX1_worthOf_3 : decode cX1_worthOf 3 = .ok (.istore_n 3, 1) := by decide +kernel
theorem dX1_worthOf_4 : decode cX1_worthOf 4 = .ok (.iload_n 3, 1) := by decide +kernel
theorem dX1_worthOf_5 : decode cX1_worthOf 5 = .ok (.aload_n 0, 1) := by decide +kernel
theorem dX1_worthOf_6 : decode cX1_worthOf 6 = .ok (.getfield 27, 3) := by decide +kernel
theorem dX1_worthOf_9 : decode cX1_worthOf 9 = .ok (.if_icmp .ge 26, 3) := by decide +kernel
theorem dX1_worthOf_12 : decode cX1_worthOf 12 = .ok (.iload_n 3, 1) := by decide +kernel
theorem dX1_worthOf_13 : decode cX1_worthOf 13 = .ok (.iload_n 1, 1) := by decide +kernel
theorem dX1_worthOf_14 : decode cX1_worthOf 14 = .ok (.invokestatic 74, 3) := by decide +kernel
theorem dX1_worthOf_17 : decode cX1_worthOf 17 = .ok (.ifCond .eq 12, 3) := by decide +kernel
theorem dX1_worthOf_20 : decode cX1_worthOf 20 = .ok (.iload_n 2, 1) := by decide +kernel
theorem dX1_worthOf_21 : decode cX1_worthOf 21 = .ok (.aload_n 0, 1) := by decide +kernel
theorem dX1_worthOf_22 : decode cX1_worthOf 22 = .ok (.getfield 24, 3) := by decide +kernel
theorem dX1_worthOf_25 : decode cX1_worthOf 25 = .ok (.iload_n 3, 1) := by decide +kernel
theorem dX1_worthOf_26 : decode cX1_worthOf 26 = .ok (.iaload, 1) := by decide +kernel
theorem dX1_worthOf_27 : decode cX1_worthOf 27 = .ok (.iadd, 1) := by decide +kernel
theorem dX1_worthOf_28 : decode cX1_worthOf 28 = .ok (.istore_n 2, 1) := by decide +kernel
theorem dX1_worthOf_29 : decode cX1_worthOf 29 = .ok (.iinc 3 1, 3) := by decide +kernel
theorem dX1_worthOf_32 : decode cX1_worthOf 32 = .ok (.goto (-28), 3) := by decide +kernel
theorem dX1_worthOf_35 : decode cX1_worthOf 35 = .ok (.iload_n 2, 1) := by decide +kernel
theorem dX1_worthOf_36 : decode cX1_worthOf 36 = .ok (.ireturn, 1) := by decide +kernel
theorem dX1_ending_0 : decode cX1_ending 0 = .ok (.iload_n 1, 1) := by decide +kernel
theorem dX1_ending_1 : decode cX1_ending 1 = .ok (.ifCond .lt 17, 3) := by decide +kernel
theorem dX1_ending_4 : decode cX1_ending 4 = .ok (.iload_n 1, 1) := by decide +kernel
theorem dX1_ending_5 : decode cX1_ending 5 = .ok (.aload_n 0, 1) := by decide +kernel
theorem dX1_ending_6 : decode cX1_ending 6 = .ok (.getfield 27, 3) := by decide +kernel
theorem dX1_ending_9 : decode cX1_ending 9 = .ok (.if_icmp .ge 9, 3) := by decide +kernel
theorem dX1_ending_12 : decode cX1_ending 12 = .ok (.iload_n 1, 1) := by decide +kernel
theorem dX1_ending_13 : decode cX1_ending 13 = .ok (.bipush 8, 2) := by decide +kernel
theorem dX1_ending_15 : decode cX1_ending 15 = .ok (.if_icmp .lt 6, 3) := by decide +kernel
theorem dX1_ending_18 : decode cX1_ending 18 = .ok (.bipush (-9), 2) := by decide +kernel
theorem dX1_ending_20 : decode cX1_ending 20 = .ok (.ireturn, 1) := by decide +kernel
theorem dX1_ending_21 : decode cX1_ending 21 = .ok (.iload_n 3, 1) := by decide +kernel
theorem dX1_ending_22 : decode cX1_ending 22 = .ok (.iload_n 2, 1) := by decide +kernel
theorem dX1_ending_23 : decode cX1_ending 23 = .ok (.aload_n 0, 1) := by decide +kernel
theorem dX1_ending_24 : decode cX1_ending 24 = .ok (.getfield 9, 3) := by decide +kernel
theorem dX1_ending_27 : decode cX1_ending 27 = .ok (.iload_n 1, 1) := by decide +kernel
theorem dX1_ending_28 : decode cX1_ending 28 = .ok (.iaload, 1) := by decide +kernel
theorem dX1_ending_29 : decode cX1_ending 29 = .ok (.invokestatic 78, 3) := by decide +kernel
theorem dX1_ending_32 : decode cX1_ending 32 = .ok (.iadd, 1) := by decide +kernel
theorem dX1_ending_33 : decode cX1_ending 33 = .ok (.istore 4, 2) := by decide +kernel
theorem dX1_ending_35 : decode cX1_ending 35 = .ok (.iload 4, 2) := by decide +kernel
theorem dX1_ending_37 : decode cX1_ending 37 = .ok (.aload_n 0, 1) := by decide +kernel
theorem dX1_ending_38 : decode cX1_ending 38 = .ok (.getfield 15, 3) := by decide +kernel
theorem dX1_ending_41 : decode cX1_ending 41 = .ok (.iload_n 1, 1) := by decide +kernel
theorem dX1_ending_42 : decode cX1_ending 42 = .ok (.iaload, 1) := by decide +kernel
theorem dX1_ending_43 : decode cX1_ending 43 = .ok (.if_icmp .ge 11, 3) := by decide +kernel
theorem dX1_ending_46 : decode cX1_ending 46 = .ok (.aload_n 0, 1) := by decide +kernel
theorem dX1_ending_47 : decode cX1_ending 47 = .ok (.getfield 15, 3) := by decide +kernel
theorem dX1_ending_50 : decode cX1_ending 50 = .ok (.iload_n 1, 1) := by decide +kernel
theorem dX1_ending_51 : decode cX1_ending 51 = .ok (.iaload, 1) := by decide +kernel
theorem dX1_ending_52 : decode cX1_ending 52 = .ok (.istore 4, 2) := by decide +kernel
theorem dX1_ending_54 : decode cX1_ending 54 = .ok (.iload 4, 2) := by decide +kernel
theorem dX1_ending_56 : decode cX1_ending 56 = .ok (.aload_n 0, 1) := by decide +kernel
theorem dX1_ending_57 : decode cX1_ending 57 = .ok (.getfield 18, 3) := by decide +kernel
theorem dX1_ending_60 : decode cX1_ending 60 = .ok (.iload_n 1, 1) := by decide +kernel
theorem dX1_ending_61 : decode cX1_ending 61 = .ok (.iaload, 1) := by decide +kernel
theorem dX1_ending_62 : decode cX1_ending 62 = .ok (.if_icmp .gt 15, 3) := by decide +kernel
theorem dX1_ending_65 : decode cX1_ending 65 = .ok (.iload 4, 2) := by decide +kernel
theorem dX1_ending_67 : decode cX1_ending 67 = .ok (.aload_n 0, 1) := by decide +kernel
theorem dX1_ending_68 : decode cX1_ending 68 = .ok (.getfield 21, 3) := by decide +kernel
theorem dX1_ending_71 : decode cX1_ending 71 = .ok (.iload_n 1, 1) := by decide +kernel
theorem dX1_ending_72 : decode cX1_ending 72 = .ok (.iaload, 1) := by decide +kernel
theorem dX1_ending_73 : decode cX1_ending 73 = .ok (.iadd, 1) := by decide +kernel
theorem dX1_ending_74 : decode cX1_ending 74 = .ok (.goto 5, 3) := by decide +kernel
theorem dX1_ending_77 : decode cX1_ending 77 = .ok (.bipush (-9), 2) := by decide +kernel
theorem dX1_ending_79 : decode cX1_ending 79 = .ok (.ireturn, 1) := by decide +kernel
theorem dX2_init_0 : decode cX2_init 0 = .ok (.aload_n 0, 1) := by decide +kernel
theorem dX2_init_1 : decode cX2_init 1 = .ok (.invokespecial 3, 3) := by decide +kernel
theorem dX2_init_4 : decode cX2_init 4 = .ok (.aload_n 0, 1) := by decide +kernel
theorem dX2_init_5 : decode cX2_init 5 = .ok (.bipush 8, 2) := by decide +kernel
theorem dX2_init_7 : decode cX2_init 7 = .ok (.newarray .int, 2) := by decide +kernel
theorem dX2_init_9 : decode cX2_init 9 = .ok (.putfield 9, 3) := by decide +kernel
theorem dX2_init_12 : decode cX2_init 12 = .ok (.aload_n 0, 1) := by decide +kernel
theorem dX2_init_13 : decode cX2_init 13 = .ok (.bipush 8, 2) := by decide +kernel
theorem dX2_init_15 : decode cX2_init 15 = .ok (.anewarray 15, 3) := by decide +kernel
theorem dX2_init_18 : decode cX2_init 18 = .ok (.putfield 17, 3) := by decide +kernel
theorem dX2_init_21 : decode cX2_init 21 = .ok (.aload_n 0, 1) := by decide +kernel
theorem dX2_init_22 : decode cX2_init 22 = .ok (.new 15, 3) := by decide +kernel
theorem dX2_init_25 : decode cX2_init 25 = .ok (.dup, 1) := by decide +kernel
theorem dX2_init_26 : decode cX2_init 26 = .ok (.invokespecial 21, 3) := by decide +kernel
theorem dX2_init_29 : decode cX2_init 29 = .ok (.putfield 22, 3) := by decide +kernel
theorem dX2_init_32 : decode cX2_init 32 = .ok (.aload_n 0, 1) := by decide +kernel
theorem dX2_init_33 : decode cX2_init 33 = .ok (.iconst 0, 1) := by decide +kernel
theorem dX2_init_34 : decode cX2_init 34 = .ok (.putfield 26, 3) := by decide +kernel
theorem dX2_init_37 : decode cX2_init 37 = .ok (.aload_n 0, 1) := by decide +kernel
theorem dX2_init_38 : decode cX2_init 38 = .ok (.iconst 0, 1) := by decide +kernel
theorem dX2_init_39 : decode cX2_init 39 = .ok (.putfield 30, 3) := by decide +kernel
theorem dX2_init_42 : decode cX2_init 42 = .ok (.aload_n 0, 1) := by decide +kernel
theorem dX2_init_43 : decode cX2_init 43 = .ok (.iconst 0, 1) := by decide +kernel
theorem dX2_init_44 : decode cX2_init 44 = .ok (.putfield 33, 3) := by decide +kernel
theorem dX2_init_47 : decode cX2_init 47 = .ok (.iconst 0, 1) := by decide +kernel
theorem dX2_init_48 : decode cX2_init 48 = .ok (.istore_n 1, 1) := by decide +kernel
theorem dX2_init_49 : decode cX2_init 49 = .ok (.iload_n 1, 1) := by decide +kernel
theorem dX2_init_50 : decode cX2_init 50 = .ok (.bipush 8, 2) := by decide +kernel
theorem dX2_init_52 : decode cX2_init 52 = .ok (.if_icmp .ge 22, 3) := by decide +kernel
theorem dX2_init_55 : decode cX2_init 55 = .ok (.aload_n 0, 1) := by decide +kernel
theorem dX2_init_56 : decode cX2_init 56 = .ok (.getfield 17, 3) := by decide +kernel
theorem dX2_init_59 : decode cX2_init 59 = .ok (.iload_n 1, 1) := by decide +kernel
theorem dX2_init_60 : decode cX2_init 60 = .ok (.new 15, 3) := by decide +kernel
theorem dX2_init_63 : decode cX2_init 63 = .ok (.dup, 1) := by decide +kernel
theorem dX2_init_64 : decode cX2_init 64 = .ok (.invokespecial 21, 3) := by decide +kernel
theorem dX2_init_67 : decode cX2_init 67 = .ok (.aastore, 1) := by decide +kernel
theorem dX2_init_68 : decode cX2_init 68 = .ok (.iinc 1 1, 3) := by decide +kernel
theorem dX2_init_71 : decode cX2_init 71 = .ok (.goto (-22), 3) := by decide +kernel
theorem dX2_init_74 : decode cX2_init 74 = .ok (.return_, 1) := by decide +kernel
theorem dX2_clear_0 : decode cX2_clear 0 = .ok (.aload_n 0, 1) := by decide +kernel
theorem dX2_clear_1 : decode cX2_clear 1 = .ok (.iconst 0, 1) := by decide +kernel
theorem dX2_clear_2 : decode cX2_clear 2 = .ok (.putfield 26, 3) := by decide +kernel
theorem dX2_clear_5 : decode cX2_clear 5 = .ok (.aload_n 0, 1) := by decide +kernel
theorem dX2_clear_6 : decode cX2_clear 6 = .ok (.iconst 0, 1) := by decide +kernel
theorem dX2_clear_7 : decode cX2_clear 7 = .ok (.putfield 30, 3) := by decide +kernel
theorem dX2_clear_10 : decode cX2_clear 10 = .ok (.aload_n 0, 1) := by decide +kernel
theorem dX2_clear_11 : decode cX2_clear 11 = .ok (.iconst 0, 1) := by decide +kernel
theorem dX2_clear_12 : decode cX2_clear 12 = .ok (.putfield 33, 3) := by decide +kernel
theorem dX2_clear_15 : decode cX2_clear 15 = .ok (.return_, 1) := by decide +kernel
theorem dX2_addHouse_0 : decode cX2_addHouse 0 = .ok (.aload_n 0, 1) := by decide +kernel
theorem dX2_addHouse_1 : decode cX2_addHouse 1 = .ok (.getfield 26, 3) := by decide +kernel
theorem dX2_addHouse_4 : decode cX2_addHouse 4 = .ok (.aload_n 0, 1) := by decide +kernel
theorem dX2_addHouse_5 : decode cX2_addHouse 5 = .ok (.getfield 9, 3) := by decide +kernel
theorem dX2_addHouse_8 : decode cX2_addHouse 8 = .ok (.arraylength, 1) := by decide +kernel
theorem dX2_addHouse_9 : decode cX2_addHouse 9 = .ok (.if_icmp .ge 23, 3) := by decide +kernel
theorem dX2_addHouse_12 : decode cX2_addHouse 12 = .ok (.aload_n 0, 1) := by decide +kernel
theorem dX2_addHouse_13 : decode cX2_addHouse 13 = .ok (.getfield 9, 3) := by decide +kernel
theorem dX2_addHouse_16 : decode cX2_addHouse 16 = .ok (.aload_n 0, 1) := by decide +kernel
theorem dX2_addHouse_17 : decode cX2_addHouse 17 = .ok (.getfield 26, 3) := by decide +kernel
theorem dX2_addHouse_20 : decode cX2_addHouse 20 = .ok (.iload_n 1, 1) := by decide +kernel
theorem dX2_addHouse_21 : decode cX2_addHouse 21 = .ok (.iastore, 1) := by decide +kernel
theorem dX2_addHouse_22 : decode cX2_addHouse 22 = .ok (.aload_n 0, 1) := by decide +kernel
theorem dX2_addHouse_23 : decode cX2_addHouse 23 = .ok (.dup, 1) := by decide +kernel
theorem dX2_addHouse_24 : decode cX2_addHouse 24 = .ok (.getfield 26, 3) := by decide +kernel
theorem dX2_addHouse_27 : decode cX2_addHouse 27 = .ok (.iconst 1, 1) := by decide +kernel
theorem dX2_addHouse_28 : decode cX2_addHouse 28 = .ok (.iadd, 1) := by decide +kernel
theorem dX2_addHouse_29 : decode cX2_addHouse 29 = .ok (.putfield 26, 3) := by decide +kernel
theorem dX2_addHouse_32 : decode cX2_addHouse 32 = .ok (.return_, 1) := by decide +kernel
theorem dX2_addNeed_0 : decode cX2_addNeed 0 = .ok (.aload_n 0, 1) := by decide +kernel
theorem dX2_addNeed_1 : decode cX2_addNeed 1 = .ok (.getfield 30, 3) := by decide +kernel
theorem dX2_addNeed_4 : decode cX2_addNeed 4 = .ok (.aload_n 0, 1) := by decide +kernel
theorem dX2_addNeed_5 : decode cX2_addNeed 5 = .ok (.getfield 17, 3) := by decide +kernel
theorem dX2_addNeed_8 : decode cX2_addNeed 8 = .ok (.arraylength, 1) := by decide +kernel
theorem dX2_addNeed_9 : decode cX2_addNeed 9 = .ok (.if_icmp .lt 8, 3) := by decide +kernel
theorem dX2_addNeed_12 : decode cX2_addNeed 12 = .ok (.aload_n 0, 1) := by decide +kernel
theorem dX2_addNeed_13 : decode cX2_addNeed 13 = .ok (.getfield 22, 3) := by decide +kernel
theorem dX2_addNeed_16 : decode cX2_addNeed 16 = .ok (.areturn, 1) := by decide +kernel
theorem dX2_addNeed_17 : decode cX2_addNeed 17 = .ok (.aload_n 0, 1) := by decide +kernel
theorem dX2_addNeed_18 : decode cX2_addNeed 18 = .ok (.dup, 1) := by decide +kernel
theorem dX2_addNeed_19 : decode cX2_addNeed 19 = .ok (.getfield 30, 3) := by decide +kernel
theorem dX2_addNeed_22 : decode cX2_addNeed 22 = .ok (.iconst 1, 1) := by decide +kernel
theorem dX2_addNeed_23 : decode cX2_addNeed 23 = .ok (.iadd, 1) := by decide +kernel
theorem dX2_addNeed_24 : decode cX2_addNeed 24 = .ok (.putfield 30, 3) := by decide +kernel
theorem dX2_addNeed_27 : decode cX2_addNeed 27 = .ok (.aload_n 0, 1) := by decide +kernel
theorem dX2_addNeed_28 : decode cX2_addNeed 28 = .ok (.aload_n 0, 1) := by decide +kernel
theorem dX2_addNeed_29 : decode cX2_addNeed 29 = .ok (.getfield 30, 3) := by decide +kernel
theorem dX2_addNeed_32 : decode cX2_addNeed 32 = .ok (.iconst 1, 1) := by decide +kernel
theorem dX2_addNeed_33 : decode cX2_addNeed 33 = .ok (.isub, 1) := by decide +kernel
theorem dX2_addNeed_34 : decode cX2_addNeed 34 = .ok (.invokevirtual 36, 3) := by decide +kernel
theorem dX2_addNeed_37 : decode cX2_addNeed 37 = .ok (.areturn, 1) := by decide +kernel
theorem dX2_isHouse_0 : decode cX2_isHouse 0 = .ok (.iload_n 1, 1) := by decide +kernel
theorem dX2_isHouse_1 : decode cX2_isHouse 1 = .ok (.ifCond .lt 24, 3) := by decide +kernel
theorem dX2_isHouse_4 : decode cX2_isHouse 4 = .ok (.iload_n 1, 1) := by decide +kernel
theorem dX2_isHouse_5 : decode cX2_isHouse 5 = .ok (.aload_n 0, 1) := by decide +kernel
theorem dX2_isHouse_6 : decode cX2_isHouse 6 = .ok (.getfield 26, 3) := by decide +kernel
theorem dX2_isHouse_9 : decode cX2_isHouse 9 = .ok (.if_icmp .ge 16, 3) := by decide +kernel
theorem dX2_isHouse_12 : decode cX2_isHouse 12 = .ok (.iload_n 1, 1) := by decide +kernel
theorem dX2_isHouse_13 : decode cX2_isHouse 13 = .ok (.aload_n 0, 1) := by decide +kernel
theorem dX2_isHouse_14 : decode cX2_isHouse 14 = .ok (.getfield 9, 3) := by decide +kernel
theorem dX2_isHouse_17 : decode cX2_isHouse 17 = .ok (.arraylength, 1) := by decide +kernel
theorem dX2_isHouse_18 : decode cX2_isHouse 18 = .ok (.if_icmp .ge 7, 3) := by decide +kernel
theorem dX2_isHouse_21 : decode cX2_isHouse 21 = .ok (.iconst 1, 1) := by decide +kernel
theorem dX2_isHouse_22 : decode cX2_isHouse 22 = .ok (.goto 4, 3) := by decide +kernel
theorem dX2_isHouse_25 : decode cX2_isHouse 25 = .ok (.iconst 0, 1) := by decide +kernel
theorem dX2_isHouse_26 : decode cX2_isHouse 26 = .ok (.ireturn, 1) := by decide +kernel
theorem dX2_isNeed_0 : decode cX2_isNeed 0 = .ok (.iload_n 1, 1) := by decide +kernel
theorem dX2_isNeed_1 : decode cX2_isNeed 1 = .ok (.ifCond .lt 24, 3) := by decide +kernel
theorem dX2_isNeed_4 : decode cX2_isNeed 4 = .ok (.iload_n 1, 1) := by decide +kernel
theorem dX2_isNeed_5 : decode cX2_isNeed 5 = .ok (.aload_n 0, 1) := by decide +kernel
theorem dX2_isNeed_6 : decode cX2_isNeed 6 = .ok (.getfield 30, 3) := by decide +kernel
theorem dX2_isNeed_9 : decode cX2_isNeed 9 = .ok (.if_icmp .ge 16, 3) := by decide +kernel
theorem dX2_isNeed_12 : decode cX2_isNeed 12 = .ok (.iload_n 1, 1) := by decide +kernel
theorem dX2_isNeed_13 : decode cX2_isNeed 13 = .ok (.aload_n 0, 1) := by decide +kernel
theorem dX2_isNeed_14 : decode cX2_isNeed 14 = .ok (.getfield 17, 3) := by decide +kernel
theorem dX2_isNeed_17 : decode cX2_isNeed 17 = .ok (.arraylength, 1) := by decide +kernel
theorem dX2_isNeed_18 : decode cX2_isNeed 18 = .ok (.if_icmp .ge 7, 3) := by decide +kernel
theorem dX2_isNeed_21 : decode cX2_isNeed 21 = .ok (.iconst 1, 1) := by decide +kernel
theorem dX2_isNeed_22 : decode cX2_isNeed 22 = .ok (.goto 4, 3) := by decide +kernel
theorem dX2_isNeed_25 : decode cX2_isNeed 25 = .ok (.iconst 0, 1) := by decide +kernel
theorem dX2_isNeed_26 : decode cX2_isNeed 26 = .ok (.ireturn, 1) := by decide +kernel
theorem dX2_isSet_0 : decode cX2_isSet 0 = .ok (.iload_n 1, 1) := by decide +kernel
theorem dX2_isSet_1 : decode cX2_isSet 1 = .ok (.ifCond .lt 15, 3) := by decide +kernel
theorem dX2_isSet_4 : decode cX2_isSet 4 = .ok (.iload_n 1, 1) := by decide +kernel
theorem dX2_isSet_5 : decode cX2_isSet 5 = .ok (.aload_n 0, 1) := by decide +kernel
theorem dX2_isSet_6 : decode cX2_isSet 6 = .ok (.invokevirtual 40, 3) := by decide +kernel
theorem dX2_isSet_9 : decode cX2_isSet 9 = .ok (.if_icmp .gt 7, 3) := by decide +kernel
theorem dX2_isSet_12 : decode cX2_isSet 12 = .ok (.iconst 1, 1) := by decide +kernel
theorem dX2_isSet_13 : decode cX2_isSet 13 = .ok (.goto 4, 3) := by decide +kernel
theorem dX2_isSet_16 : decode cX2_isSet 16 = .ok (.iconst 0, 1) := by decide +kernel
theorem dX2_isSet_17 : decode cX2_isSet 17 = .ok (.ireturn, 1) := by decide +kernel
theorem dX2_placeOf_0 : decode cX2_placeOf 0 = .ok (.aload_n 0, 1) := by decide +kernel
theorem dX2_placeOf_1 : decode cX2_placeOf 1 = .ok (.iload_n 1, 1) := by decide +kernel
theorem dX2_placeOf_2 : decode cX2_placeOf 2 = .ok (.invokevirtual 44, 3) := by decide +kernel
theorem dX2_placeOf_5 : decode cX2_placeOf 5 = .ok (.ifCond .eq 12, 3) := by decide +kernel
theorem dX2_placeOf_8 : decode cX2_placeOf 8 = .ok (.aload_n 0, 1) := by decide +kernel
theorem dX2_placeOf_9 : decode cX2_placeOf 9 = .ok (.getfield 9, 3) := by decide +kernel
theorem dX2_placeOf_12 : decode cX2_placeOf 12 = .ok (.iload_n 1, 1) := by decide +kernel
theorem dX2_placeOf_13 : decode cX2_placeOf 13 = .ok (.iaload, 1) := by decide +kernel
theorem dX2_placeOf_14 : decode cX2_placeOf 14 = .ok (.goto 4, 3) := by decide +kernel
theorem dX2_placeOf_17 : decode cX2_placeOf 17 = .ok (.iconst 0, 1) := by decide +kernel
theorem dX2_placeOf_18 : decode cX2_placeOf 18 = .ok (.ireturn, 1) := by decide +kernel
theorem dX2_startPlace_0 : decode cX2_startPlace 0 = .ok (.aload_n 0, 1) := by decide +kernel
theorem dX2_startPlace_1 : decode cX2_startPlace 1 = .ok (.aload_n 0, 1) := by decide +kernel
theorem dX2_startPlace_2 : decode cX2_startPlace 2 = .ok (.getfield 33, 3) := by decide +kernel
theorem dX2_startPlace_5 : decode cX2_startPlace 5 = .ok (.invokevirtual 48, 3) := by decide +kernel
theorem dX2_startPlace_8 : decode cX2_startPlace 8 = .ok (.ireturn, 1) := by decide +kernel
theorem dX2_carryBetween_0 : decode cX2_carryBetween 0 = .ok (.aload_n 0, 1) := by decide +kernel
theorem dX2_carryBetween_1 : decode cX2_carryBetween 1 = .ok (.iload_n 1, 1) := by decide +kernel
theorem dX2_carryBetween_2 : decode cX2_carryBetween 2 = .ok (.invokevirtual 48, 3) := by decide +kernel
theorem dX2_carryBetween_5 : decode cX2_carryBetween 5 = .ok (.aload_n 0, 1) := by decide +kernel
theorem dX2_carryBetween_6 : decode cX2_carryBetween 6 = .ok (.iload_n 2, 1) := by decide +kernel
theorem dX2_carryBetween_7 : decode cX2_carryBetween 7 = .ok (.invokevirtual 48, 3) := by decide +kernel
theorem dX2_carryBetween_10 : decode cX2_carryBetween 10 = .ok (.invokestatic 52, 3) := by decide +kernel
theorem dX2_carryBetween_13 : decode cX2_carryBetween 13 = .ok (.ireturn, 1) := by decide +kernel
theorem dX2_needOf_0 : decode cX2_needOf 0 = .ok (.aload_n 0, 1) := by decide +kernel
theorem dX2_needOf_1 : decode cX2_needOf 1 = .ok (.iload_n 1, 1) := by decide +kernel
theorem dX2_needOf_2 : decode cX2_needOf 2 = .ok (.invokevirtual 56, 3) := by decide +kernel
theorem dX2_needOf_5 : decode cX2_needOf 5 = .ok (.ifCond .eq 12, 3) := by decide +kernel
theorem dX2_needOf_8 : decode cX2_needOf 8 = .ok (.aload_n 0, 1) := by decide +kernel
theorem dX2_needOf_9 : decode cX2_needOf 9 = .ok (.getfield 17, 3) := by decide +kernel
theorem dX2_needOf_12 : decode cX2_needOf 12 = .ok (.iload_n 1, 1) := by decide +kernel
theorem dX2_needOf_13 : decode cX2_needOf 13 = .ok (.aaload, 1) := by decide +kernel
theorem dX2_needOf_14 : decode cX2_needOf 14 = .ok (.goto 7, 3) := by decide +kernel
theorem dX2_needOf_17 : decode cX2_needOf 17 = .ok (.aload_n 0, 1) := by decide +kernel
theorem dX2_needOf_18 : decode cX2_needOf 18 = .ok (.getfield 22, 3) := by decide +kernel
theorem dX2_needOf_21 : decode cX2_needOf 21 = .ok (.astore_n 2, 1) := by decide +kernel
theorem dX2_needOf_22 : decode cX2_needOf 22 = .ok (.aload_n 2, 1) := by decide +kernel
theorem dX2_needOf_23 : decode cX2_needOf 23 = .ok (.ifnonnull 10, 3) := by decide +kernel
theorem dX2_needOf_26 : decode cX2_needOf 26 = .ok (.aload_n 0, 1) := by decide +kernel
theorem dX2_needOf_27 : decode cX2_needOf 27 = .ok (.getfield 22, 3) := by decide +kernel
theorem dX2_needOf_30 : decode cX2_needOf 30 = .ok (.goto 4, 3) := by decide +kernel
theorem dX2_needOf_33 : decode cX2_needOf 33 = .ok (.aload_n 2, 1) := by decide +kernel
theorem dX2_needOf_34 : decode cX2_needOf 34 = .ok (.areturn, 1) := by decide +kernel
theorem dX2_allNeeds_0 : decode cX2_allNeeds 0 = .ok (.iconst 0, 1) := by decide +kernel
theorem dX2_allNeeds_1 : decode cX2_allNeeds 1 = .ok (.istore_n 1, 1) := by decide +kernel
theorem dX2_allNeeds_2 : decode cX2_allNeeds 2 = .ok (.iconst 0, 1) := by decide +kernel
theorem dX2_allNeeds_3 : decode cX2_allNeeds 3 = .ok (.istore_n 2, 1) := by decide +kernel
theorem dX2_allNeeds_4 : decode cX2_allNeeds 4 = .ok (.iload_n 2, 1) := by decide +kernel
theorem dX2_allNeeds_5 : decode cX2_allNeeds 5 = .ok (.aload_n 0, 1) := by decide +kernel
theorem dX2_allNeeds_6 : decode cX2_allNeeds 6 = .ok (.getfield 30, 3) := by decide +kernel
theorem dX2_allNeeds_9 : decode cX2_allNeeds 9 = .ok (.if_icmp .ge 16, 3) := by decide +kernel
theorem dX2_allNeeds_12 : decode cX2_allNeeds 12 = .ok (.iload_n 1, 1) := by decide +kernel
theorem dX2_allNeeds_13 : decode cX2_allNeeds 13 = .ok (.iload_n 2, 1) := by decide +kernel
theorem dX2_allNeeds_14 : decode cX2_allNeeds 14 = .ok (.invokestatic 59, 3) := by decide +kernel
theorem dX2_allNeeds_17 : decode cX2_allNeeds 17 = .ok (.ior, 1) := by decide +kernel
theorem dX2_allNeeds_18 : decode cX2_allNeeds 18 = .ok (.istore_n 1, 1) := by decide +kernel
theorem dX2_allNeeds_19 : decode cX2_allNeeds 19 = .ok (.iinc 2 1, 3) := by decide +kernel
theorem dX2_allNeeds_22 : decode cX2_allNeeds 22 = .ok (.goto (-18), 3) := by decide +kernel
theorem dX2_allNeeds_25 : decode cX2_allNeeds 25 = .ok (.iload_n 1, 1) := by decide +kernel
theorem dX2_allNeeds_26 : decode cX2_allNeeds 26 = .ok (.ireturn, 1) := by decide +kernel
theorem dX2_mustBits_0 : decode cX2_mustBits 0 = .ok (.aload_n 0, 1) := by decide +kernel
theorem dX2_mustBits_1 : decode cX2_mustBits 1 = .ok (.iconst 1, 1) := by decide +kernel
theorem dX2_mustBits_2 : decode cX2_mustBits 2 = .ok (.invokevirtual 62, 3) := by decide +kernel
theorem dX2_mustBits_5 : decode cX2_mustBits 5 = .ok (.ireturn, 1) := by decide +kernel
theorem dX2_lotBits_0 : decode cX2_lotBits 0 = .ok (.aload_n 0, 1) := by decide +kernel
theorem dX2_lotBits_1 : decode cX2_lotBits 1 = .ok (.iconst 2, 1) := by decide +kernel
theorem dX2_lotBits_2 : decode cX2_lotBits 2 = .ok (.invokevirtual 62, 3) := by decide +kernel
theorem dX2_lotBits_5 : decode cX2_lotBits 5 = .ok (.ireturn, 1) := by decide +kernel
theorem dX2_bitsOf_0 : decode cX2_bitsOf 0 = .ok (.iconst 0, 1) := by decide +kernel
theorem dX2_bitsOf_1 : decode cX2_bitsOf 1 = .ok (.istore_n 2, 1) := by decide +kernel
theorem dX2_bitsOf_2 : decode cX2_bitsOf 2 = .ok (.iconst 0, 1) := by decide +kernel
theorem dX2_bitsOf_3 : decode cX2_bitsOf 3 = .ok (.istore_n 3, 1) := by decide +kernel
theorem dX2_bitsOf_4 : decode cX2_bitsOf 4 = .ok (.iload_n 3, 1) := by decide +kernel
theorem dX2_bitsOf_5 : decode cX2_bitsOf 5 = .ok (.aload_n 0, 1) := by decide +kernel
theorem dX2_bitsOf_6 : decode cX2_bitsOf 6 = .ok (.getfield 30, 3) := by decide +kernel
theorem dX2_bitsOf_9 : decode cX2_bitsOf 9 = .ok (.if_icmp .ge 28, 3) := by decide +kernel
theorem dX2_bitsOf_12 : decode cX2_bitsOf 12 = .ok (.aload_n 0, 1) := by decide +kernel
theorem dX2_bitsOf_13 : decode cX2_bitsOf 13 = .ok (.iload_n 3, 1) := by decide +kernel
theorem dX2_bitsOf_14 : decode cX2_bitsOf 14 = .ok (.invokevirtual 36, 3) := by decide +kernel
theorem dX2_bitsOf_17 : decode cX2_bitsOf 17 = .ok (.iload_n 1, 1) := by decide +kernel
theorem dX2_bitsOf_18 : decode cX2_bitsOf 18 = .ok (.invokevirtual 65, 3) := by decide +kernel
theorem dX2_bitsOf_21 : decode cX2_bitsOf 21 = .ok (.ifCond .eq 10, 3) := by decide +kernel
theorem dX2_bitsOf_24 : decode cX2_bitsOf 24 = .ok (.iload_n 2, 1) := by decide +kernel
theorem dX2_bitsOf_25 : decode cX2_bitsOf 25 = .ok (.iload_n 3, 1) := by decide +kernel
theorem dX2_bitsOf_26 : decode cX2_bitsOf 26 = .ok (.invokestatic 59, 3) := by decide +kernel
theorem dX2_bitsOf_29 : decode cX2_bitsOf 29 = .ok (.ior, 1) := by decide +kernel
theorem dX2_bitsOf_30 : decode cX2_bitsOf 30 = .ok (.istore_n 2, 1) := by decide +kernel
theorem dX2_bitsOf_31 : decode cX2_bitsOf 31 = .ok (.iinc 3 1, 3) := by decide +kernel
theorem dX2_bitsOf_34 : decode cX2_bitsOf 34 = .ok (.goto (-30), 3) := by decide +kernel
theorem dX2_bitsOf_37 : decode cX2_bitsOf 37 = .ok (.iload_n 2, 1) := by decide +kernel
theorem dX2_bitsOf_38 : decode cX2_bitsOf 38 = .ok (.ireturn, 1) := by decide +kernel
theorem dX2_waysToCall_0 : decode cX2_waysToCall 0 = .ok (.lconst 1, 1) := by decide +kernel
theorem dX2_waysToCall_1 : decode cX2_waysToCall 1 = .ok (.lstore_n 2, 1) := by decide +kernel
theorem dX2_waysToCall_2 : decode cX2_waysToCall 2 = .ok (.iconst 0, 1) := by decide +kernel
theorem dX2_waysToCall_3 : decode cX2_waysToCall 3 = .ok (.istore 4, 2) := by decide +kernel
theorem dX2_waysToCall_5 : decode cX2_waysToCall 5 = .ok (.iload 4, 2) := by decide +kernel
theorem dX2_waysToCall_7 : decode cX2_waysToCall 7 = .ok (.aload_n 0, 1) := by decide +kernel
theorem dX2_waysToCall_8 : decode cX2_waysToCall 8 = .ok (.getfield 30, 3) := by decide +kernel
theorem dX2_waysToCall_11 : decode cX2_waysToCall 11 = .ok (.if_icmp .ge 56, 3) := by decide +kernel
theorem dX2_waysToCall_14 : decode cX2_waysToCall 14 = .ok (.aload_n 0, 1) := by decide +kernel
theorem dX2_waysToCall_15 : decode cX2_waysToCall 15 = .ok (.iload 4, 2) := by decide +kernel
theorem dX2_waysToCall_17 : decode cX2_waysToCall 17 = .ok (.invokevirtual 36, 3) := by decide +kernel
theorem dX2_waysToCall_20 : decode cX2_waysToCall 20 = .ok (.astore 5, 2) := by decide +kernel
theorem dX2_waysToCall_22 : decode cX2_waysToCall 22 = .ok (.aload 5, 2) := by decide +kernel
theorem dX2_waysToCall_24 : decode cX2_waysToCall 24 = .ok (.iconst 2, 1) := by decide +kernel
theorem dX2_waysToCall_25 : decode cX2_waysToCall 25 = .ok (.invokevirtual 65, 3) := by decide +kernel
theorem dX2_waysToCall_28 : decode cX2_waysToCall 28 = .ok (.ifCond .eq 33, 3) := by decide +kernel
theorem dX2_waysToCall_31 : decode cX2_waysToCall 31 = .ok (.lload_n 2, 1) := by decide +kernel
theorem dX2_waysToCall_32 : decode cX2_waysToCall 32 = .ok (.iload 4, 2) := by decide +kernel
theorem dX2_waysToCall_34 : decode cX2_waysToCall 34 = .ok (.iload_n 1, 1) := by decide +kernel
theorem dX2_waysToCall_35 : decode cX2_waysToCall 35 = .ok (.invokestatic 68, 3) := by decide +kernel
theorem dX2_waysToCall_38 : decode cX2_waysToCall 38 = .ok (.ifCond .eq 12, 3) := by decide +kernel
theorem dX2_waysToCall_41 : decode cX2_waysToCall 41 = .ok (.aload 5, 2) := by decide +kernel
theorem dX2_waysToCall_43 : decode cX2_waysToCall 43 = .ok (.getfield 72, 3) := by decide +kernel
theorem dX2_waysToCall_46 : decode cX2_waysToCall 46 = .ok (.i2l, 1) := by decide +kernel
theorem dX2_waysToCall_47 : decode cX2_waysToCall 47 = .ok (.goto 12, 3) := by decide +kernel
theorem dX2_waysToCall_50 : decode cX2_waysToCall 50 = .ok (.bipush 12, 2) := by decide +kernel
theorem dX2_waysToCall_52 : decode cX2_waysToCall 52 = .ok (.aload 5, 2) := by decide +kernel
theorem dX2_waysToCall_54 : decode cX2_waysToCall 54 = .ok (.getfield 72, 3) := by decide +kernel
theorem dX2_waysToCall_57 : decode cX2_waysToCall 57 = .ok (.isub, 1) := by decide +kernel
theorem dX2_waysToCall_58 : decode cX2_waysToCall 58 = .ok (.i2l, 1) := by decide +kernel
theorem dX2_waysToCall_59 : decode cX2_waysToCall 59 = .ok (.lmul, 1) := by decide +kernel
theorem dX2_waysToCall_60 : decode cX2_waysToCall 60 = .ok (.lstore_n 2, 1) := by decide +kernel
theorem dX2_waysToCall_61 : decode cX2_waysToCall 61 = .ok (.iinc 4 1, 3) := by decide +kernel
theorem dX2_waysToCall_64 : decode cX2_waysToCall 64 = .ok (.goto (-59), 3) := by decide +kernel
theorem dX2_waysToCall_67 : decode cX2_waysToCall 67 = .ok (.lload_n 2, 1) := by decide +kernel
theorem dX2_waysToCall_68 : decode cX2_waysToCall 68 = .ok (.lreturn, 1) := by decide +kernel
theorem dX2_waysInAll_0 : decode cX2_waysInAll 0 = .ok (.lconst 1, 1) := by decide +kernel
theorem dX2_waysInAll_1 : decode cX2_waysInAll 1 = .ok (.lstore_n 1, 1) := by decide +kernel
theorem dX2_waysInAll_2 : decode cX2_waysInAll 2 = .ok (.iconst 0, 1) := by decide +kernel
theorem dX2_waysInAll_3 : decode cX2_waysInAll 3 = .ok (.istore_n 3, 1) := by decide +kernel
theorem dX2_waysInAll_4 : decode cX2_waysInAll 4 = .ok (.iload_n 3, 1) := by decide +kernel
theorem dX2_waysInAll_5 : decode cX2_waysInAll 5 = .ok (.aload_n 0, 1) := by decide +kernel
theorem dX2_waysInAll_6 : decode cX2_waysInAll 6 = .ok (.getfield 30, 3) := by decide +kernel
theorem dX2_waysInAll_9 : decode cX2_waysInAll 9 = .ok (.if_icmp .ge 27, 3) := by decide +kernel
theorem dX2_waysInAll_12 : decode cX2_waysInAll 12 = .ok (.aload_n 0, 1) := by decide +kernel
theorem dX2_waysInAll_13 : decode cX2_waysInAll 13 = .ok (.iload_n 3, 1) := by decide +kernel
theorem dX2_waysInAll_14 : decode cX2_waysInAll 14 = .ok (.invokevirtual 36, 3) := by decide +kernel
theorem dX2_waysInAll_17 : decode cX2_waysInAll 17 = .ok (.iconst 2, 1) := by decide +kernel
theorem dX2_waysInAll_18 : decode cX2_waysInAll 18 = .ok (.invokevirtual 65, 3) := by decide +kernel
theorem dX2_waysInAll_21 : decode cX2_waysInAll 21 = .ok (.ifCond .eq 9, 3) := by decide +kernel
theorem dX2_waysInAll_24 : decode cX2_waysInAll 24 = .ok (.lload_n 1, 1) := by decide +kernel
theorem dX2_waysInAll_25 : decode cX2_waysInAll 25 = .ok (.ldc2_w 75, 3) := by decide +kernel
theorem dX2_waysInAll_28 : decode cX2_waysInAll 28 = .ok (.lmul, 1) := by decide +kernel
theorem dX2_waysInAll_29 : decode cX2_waysInAll 29 = .ok (.lstore_n 1, 1) := by decide +kernel
theorem dX2_waysInAll_30 : decode cX2_waysInAll 30 = .ok (.iinc 3 1, 3) := by decide +kernel
theorem dX2_waysInAll_33 : decode cX2_waysInAll 33 = .ok (.goto (-29), 3) := by decide +kernel
theorem dX2_waysInAll_36 : decode cX2_waysInAll 36 = .ok (.lload_n 1, 1) := by decide +kernel
theorem dX2_waysInAll_37 : decode cX2_waysInAll 37 = .ok (.lreturn, 1) := by decide +kernel
theorem dX2_lotsCalledBy_0 : decode cX2_lotsCalledBy 0 = .ok (.iconst 0, 1) := by decide +kernel
theorem dX2_lotsCalledBy_1 : decode cX2_lotsCalledBy 1 = .ok (.istore_n 2, 1) := by decide +kernel
theorem dX2_lotsCalledBy_2 : decode cX2_lotsCalledBy 2 = .ok (.iload_n 1, 1) := by decide +kernel
theorem dX2_lotsCalledBy_3 : decode cX2_lotsCalledBy 3 = .ok (.i2l, 1) := by decide +kernel
theorem dX2_lotsCalledBy_4 : decode cX2_lotsCalledBy 4 = .ok (.lstore_n 3, 1) := by decide +kernel
theorem dX2_lotsCalledBy_5 : decode cX2_lotsCalledBy 5 = .ok (.iconst 0, 1) := by decide +kernel
theorem dX2_lotsCalledBy_6 : decode cX2_lotsCalledBy 6 = .ok (.istore 5, 2) := by decide +kernel
theorem dX2_lotsCalledBy_8 : decode cX2_lotsCalledBy 8 = .ok (.iload 5, 2) := by decide +kernel
theorem dX2_lotsCalledBy_10 : decode cX2_lotsCalledBy 10 = .ok (.aload_n 0, 1) := by decide +kernel
theorem dX2_lotsCalledBy_11 : decode cX2_lotsCalledBy 11 = .ok (.getfield 30, 3) := by decide +kernel
theorem dX2_lotsCalledBy_14 : decode cX2_lotsCalledBy 14 = .ok (.if_icmp .ge 59, 3) := by decide +kernel
theorem dX2_lotsCalledBy_17 : decode cX2_lotsCalledBy 17 = .ok (.lload_n 3, 1) := by decide +kernel
theorem dX2_lotsCalledBy_18 : decode cX2_lotsCalledBy 18 = .ok (.ldc2_w 77, 3) := by decide +kernel
theorem dX2_lotsCalledBy_21 : decode cX2_lotsCalledBy 21 = .ok (.lmul, 1) := by decide +kernel
theorem dX2_lotsCalledBy_22 : decode cX2_lotsCalledBy 22 = .ok (.ldc2_w 79, 3) := by decide +kernel
theorem dX2_lotsCalledBy_25 : decode cX2_lotsCalledBy 25 = .ok (.lrem, 1) := by decide +kernel
theorem dX2_lotsCalledBy_26 : decode cX2_lotsCalledBy 26 = .ok (.lstore_n 3, 1) := by decide +kernel
theorem dX2_lotsCalledBy_27 : decode cX2_lotsCalledBy 27 = .ok (.aload_n 0, 1) := by decide +kernel
theorem dX2_lotsCalledBy_28 : decode cX2_lotsCalledBy 28 = .ok (.iload 5, 2) := by decide +kernel
theorem dX2_lotsCalledBy_30 : decode cX2_lotsCalledBy 30 = .ok (.invokevirtual 36, 3) := by decide +kernel
theorem dX2_lotsCalledBy_33 : decode cX2_lotsCalledBy 33 = .ok (.iconst 2, 1) := by decide +kernel
theorem dX2_lotsCalledBy_34 : decode cX2_lotsCalledBy 34 = .ok (.invokevirtual 65, 3) := by decide +kernel
theorem dX2_lotsCalledBy_37 : decode cX2_lotsCalledBy 37 = .ok (.ifCond .eq 30, 3) := by decide +kernel
theorem dX2_lotsCalledBy_40 : decode cX2_lotsCalledBy 40 = .ok (.lload_n 3, 1) := by decide +kernel
theorem dX2_lotsCalledBy_41 : decode cX2_lotsCalledBy 41 = .ok (.ldc2_w 75, 3) := by decide +kernel
theorem dX2_lotsCalledBy_44 : decode cX2_lotsCalledBy 44 = .ok (.lrem, 1) := by decide +kernel
theorem dX2_lotsCalledBy_45 : decode cX2_lotsCalledBy 45 = .ok (.aload_n 0, 1) := by decide +kernel
theorem dX2_lotsCalledBy_46 : decode cX2_lotsCalledBy 46 = .ok (.iload 5, 2) := by decide +kernel
theorem dX2_lotsCalledBy_48 : decode cX2_lotsCalledBy 48 = .ok (.invokevirtual 36, 3) := by decide +kernel
theorem dX2_lotsCalledBy_51 : decode cX2_lotsCalledBy 51 = .ok (.getfield 72, 3) := by decide +kernel
theorem dX2_lotsCalledBy_54 : decode cX2_lotsCalledBy 54 = .ok (.i2l, 1) := by decide +kernel
theorem dX2_lotsCalledBy_55 : decode cX2_lotsCalledBy 55 = .ok (.lcmp, 1) := by decide +kernel
theorem dX2_lotsCalledBy_56 : decode cX2_lotsCalledBy 56 = .ok (.ifCond .ge 11, 3) := by decide +kernel
theorem dX2_lotsCalledBy_59 : decode cX2_lotsCalledBy 59 = .ok (.iload_n 2, 1) := by decide +kernel
theorem dX2_lotsCalledBy_60 : decode cX2_lotsCalledBy 60 = .ok (.iload 5, 2) := by decide +kernel
theorem dX2_lotsCalledBy_62 : decode cX2_lotsCalledBy 62 = .ok (.invokestatic 59, 3) := by decide +kernel
theorem dX2_lotsCalledBy_65 : decode cX2_lotsCalledBy 65 = .ok (.ior, 1) := by decide +kernel
theorem dX2_lotsCalledBy_66 : decode cX2_lotsCalledBy 66 = .ok (.istore_n 2, 1) := by decide +kernel
theorem dX2_lotsCalledBy_67 : decode cX2_lotsCalledBy 67 = .ok (.iinc 5 1, 3) := by decide +kernel
theorem dX2_lotsCalledBy_70 : decode cX2_lotsCalledBy 70 = .ok (.goto (-62), 3) := by decide +kernel
theorem dX2_lotsCalledBy_73 : decode cX2_lotsCalledBy 73 = .ok (.iload_n 2, 1) := by decide +kernel
theorem dX2_lotsCalledBy_74 : decode cX2_lotsCalledBy 74 = .ok (.ireturn, 1) := by decide +kernel
theorem dX3_init_0 : decode cX3_init 0 = .ok (.aload_n 0, 1) := by decide +kernel
theorem dX3_init_1 : decode cX3_init 1 = .ok (.invokespecial 3, 3) := by decide +kernel
theorem dX3_init_4 : decode cX3_init 4 = .ok (.aload_n 0, 1) := by decide +kernel
theorem dX3_init_5 : decode cX3_init 5 = .ok (.bipush 8, 2) := by decide +kernel
theorem dX3_init_7 : decode cX3_init 7 = .ok (.newarray .int, 2) := by decide +kernel
theorem dX3_init_9 : decode cX3_init 9 = .ok (.putfield 9, 3) := by decide +kernel
theorem dX3_init_12 : decode cX3_init 12 = .ok (.aload_n 0, 1) := by decide +kernel
theorem dX3_init_13 : decode cX3_init 13 = .ok (.bipush 64, 2) := by decide +kernel
theorem dX3_init_15 : decode cX3_init 15 = .ok (.newarray .int, 2) := by decide +kernel
theorem dX3_init_17 : decode cX3_init 17 = .ok (.putfield 15, 3) := by decide +kernel
theorem dX3_init_20 : decode cX3_init 20 = .ok (.aload_n 0, 1) := by decide +kernel
theorem dX3_init_21 : decode cX3_init 21 = .ok (.bipush 16, 2) := by decide +kernel
theorem dX3_init_23 : decode cX3_init 23 = .ok (.newarray .int, 2) := by decide +kernel
theorem dX3_init_25 : decode cX3_init 25 = .ok (.putfield 18, 3) := by decide +kernel
theorem dX3_init_28 : decode cX3_init 28 = .ok (.aload_n 0, 1) := by decide +kernel
theorem dX3_init_29 : decode cX3_init 29 = .ok (.bipush 16, 2) := by decide +kernel
theorem dX3_init_31 : decode cX3_init 31 = .ok (.newarray .int, 2) := by decide +kernel
theorem dX3_init_33 : decode cX3_init 33 = .ok (.putfield 21, 3) := by decide +kernel
theorem dX3_init_36 : decode cX3_init 36 = .ok (.aload_n 0, 1) := by decide +kernel
theorem dX3_init_37 : decode cX3_init 37 = .ok (.bipush 16, 2) := by decide +kernel
theorem dX3_init_39 : decode cX3_init 39 = .ok (.newarray .int, 2) := by decide +kernel
theorem dX3_init_41 : decode cX3_init 41 = .ok (.putfield 24, 3) := by decide +kernel
theorem dX3_init_44 : decode cX3_init 44 = .ok (.aload_n 0, 1) := by decide +kernel
theorem dX3_init_45 : decode cX3_init 45 = .ok (.bipush 16, 2) := by decide +kernel
theorem dX3_init_47 : decode cX3_init 47 = .ok (.newarray .int, 2) := by decide +kernel
theorem dX3_init_49 : decode cX3_init 49 = .ok (.putfield 27, 3) := by decide +kernel
theorem dX3_init_52 : decode cX3_init 52 = .ok (.aload_n 0, 1) := by decide +kernel
theorem dX3_init_53 : decode cX3_init 53 = .ok (.iconst 0, 1) := by decide +kernel
theorem dX3_init_54 : decode cX3_init 54 = .ok (.putfield 30, 3) := by decide +kernel
theorem dX3_init_57 : decode cX3_init 57 = .ok (.return_, 1) := by decide +kernel
theorem dX3_clear_0 : decode cX3_clear 0 = .ok (.aload_n 0, 1) := by decide +kernel
theorem dX3_clear_1 : decode cX3_clear 1 = .ok (.iconst 0, 1) := by decide +kernel
theorem dX3_clear_2 : decode cX3_clear 2 = .ok (.putfield 30, 3) := by decide +kernel
theorem dX3_clear_5 : decode cX3_clear 5 = .ok (.iconst 0, 1) := by decide +kernel
theorem dX3_clear_6 : decode cX3_clear 6 = .ok (.istore_n 1, 1) := by decide +kernel
theorem dX3_clear_7 : decode cX3_clear 7 = .ok (.iload_n 1, 1) := by decide +kernel
theorem dX3_clear_8 : decode cX3_clear 8 = .ok (.aload_n 0, 1) := by decide +kernel
theorem dX3_clear_9 : decode cX3_clear 9 = .ok (.getfield 9, 3) := by decide +kernel
theorem dX3_clear_12 : decode cX3_clear 12 = .ok (.arraylength, 1) := by decide +kernel
theorem dX3_clear_13 : decode cX3_clear 13 = .ok (.if_icmp .ge 16, 3) := by decide +kernel
theorem dX3_clear_16 : decode cX3_clear 16 = .ok (.aload_n 0, 1) := by decide +kernel
theorem dX3_clear_17 : decode cX3_clear 17 = .ok (.getfield 9, 3) := by decide +kernel
theorem dX3_clear_20 : decode cX3_clear 20 = .ok (.iload_n 1, 1) := by decide +kernel
theorem dX3_clear_21 : decode cX3_clear 21 = .ok (.iconst 0, 1) := by decide +kernel
theorem dX3_clear_22 : decode cX3_clear 22 = .ok (.iastore, 1) := by decide +kernel
theorem dX3_clear_23 : decode cX3_clear 23 = .ok (.iinc 1 1, 3) := by decide +kernel
theorem dX3_clear_26 : decode cX3_clear 26 = .ok (.goto (-19), 3) := by decide +kernel
theorem dX3_clear_29 : decode cX3_clear 29 = .ok (.iconst 0, 1) := by decide +kernel
theorem dX3_clear_30 : decode cX3_clear 30 = .ok (.istore_n 1, 1) := by decide +kernel
theorem dX3_clear_31 : decode cX3_clear 31 = .ok (.iload_n 1, 1) := by decide +kernel
theorem dX3_clear_32 : decode cX3_clear 32 = .ok (.aload_n 0, 1) := by decide +kernel
theorem dX3_clear_33 : decode cX3_clear 33 = .ok (.getfield 15, 3) := by decide +kernel
theorem dX3_clear_36 : decode cX3_clear 36 = .ok (.arraylength, 1) := by decide +kernel
theorem dX3_clear_37 : decode cX3_clear 37 = .ok (.if_icmp .ge 16, 3) := by decide +kernel
theorem dX3_clear_40 : decode cX3_clear 40 = .ok (.aload_n 0, 1) := by decide +kernel
theorem dX3_clear_41 : decode cX3_clear 41 = .ok (.getfield 15, 3) := by decide +kernel
theorem dX3_clear_44 : decode cX3_clear 44 = .ok (.iload_n 1, 1) := by decide +kernel
theorem dX3_clear_45 : decode cX3_clear 45 = .ok (.iconst 0, 1) := by decide +kernel
theorem dX3_clear_46 : decode cX3_clear 46 = .ok (.iastore, 1) := by decide +kernel
theorem dX3_clear_47 : decode cX3_clear 47 = .ok (.iinc 1 1, 3) := by decide +kernel
theorem dX3_clear_50 : decode cX3_clear 50 = .ok (.goto (-19), 3) := by decide +kernel
theorem dX3_clear_53 : decode cX3_clear 53 = .ok (.return_, 1) := by decide +kernel
theorem dX3_isOne_0 : decode cX3_isOne 0 = .ok (.iload_n 0, 1) := by decide +kernel
theorem dX3_isOne_1 : decode cX3_isOne 1 = .ok (.ifCond .lt 13, 3) := by decide +kernel
theorem dX3_isOne_4 : decode cX3_isOne 4 = .ok (.iload_n 0, 1) := by decide +kernel
theorem dX3_isOne_5 : decode cX3_isOne 5 = .ok (.bipush 8, 2) := by decide +kernel
theorem dX3_isOne_7 : decode cX3_isOne 7 = .ok (.if_icmp .ge 7, 3) := by decide +kernel
theorem dX3_isOne_10 : decode cX3_isOne 10 = .ok (.iconst 1, 1) := by decide +kernel
theorem dX3_isOne_11 : decode cX3_isOne 11 = .ok (.goto 4, 3) := by decide +kernel
theorem dX3_isOne_14 : decode cX3_isOne 14 = .ok (.iconst 0, 1) := by decide +kernel
theorem dX3_isOne_15 : decode cX3_isOne 15 = .ok (.ireturn, 1) := by decide +kernel
theorem dX3_hoursOf_0 : decode cX3_hoursOf 0 = .ok (.iload_n 1, 1) := by decide +kernel
theorem dX3_hoursOf_1 : decode cX3_hoursOf 1 = .ok (.invokestatic 34, 3) := by decide +kernel
theorem dX3_hoursOf_4 : decode cX3_hoursOf 4 = .ok (.ifCond .eq 12, 3) := by decide +kernel
theorem dX3_hoursOf_7 : decode cX3_hoursOf 7 = .ok (.aload_n 0, 1) := by decide +kernel
theorem dX3_hoursOf_8 : decode cX3_hoursOf 8 = .ok (.getfield 9, 3) := by decide +kernel
theorem dX3_hoursOf_11 : decode cX3_hoursOf 11 = .ok (.iload_n 1, 1) := by decide +kernel
theorem dX3_hoursOf_12 : decode cX3_hoursOf 12 = .ok (.iaload, 1) := by decide +kernel
theorem dX3_hoursOf_13 : decode cX3_hoursOf 13 = .ok (.goto 4, 3) := by decide +kernel
theorem dX3_hoursOf_16 : decode cX3_hoursOf 16 = .ok (.iconst 0, 1) := by decide +kernel
theorem dX3_hoursOf_17 : decode cX3_hoursOf 17 = .ok (.ireturn, 1) := by decide +kernel
theorem dX3_setHours_0 : decode cX3_setHours 0 = .ok (.iload_n 1, 1) := by decide +kernel
theorem dX3_setHours_1 : decode cX3_setHours 1 = .ok (.invokestatic 34, 3) := by decide +kernel
theorem dX3_setHours_4 : decode cX3_setHours 4 = .ok (.ifCond .eq 10, 3) := by decide +kernel
theorem dX3_setHours_7 : decode cX3_setHours 7 = .ok (.aload_n 0, 1) := by decide +kernel
theorem dX3_setHours_8 : decode cX3_setHours 8 = .ok (.getfield 9, 3) := by decide +kernel
theorem dX3_setHours_11 : decode cX3_setHours 11 = .ok (.iload_n 1, 1) := by decide +kernel
theorem dX3_setHours_12 : decode cX3_setHours 12 = .ok (.iload_n 2, 1) := by decide +kernel
theorem dX3_setHours_13 : decode cX3_setHours 13 = .ok (.iastore, 1) := by decide +kernel
theorem dX3_setHours_14 : decode cX3_setHours 14 = .ok (.return_, 1) := by decide +kernel
theorem dX3_owedBy_0 : decode cX3_owedBy 0 = .ok (.iload_n 1, 1) := by decide +kernel
theorem dX3_owedBy_1 : decode cX3_owedBy 1 = .ok (.invokestatic 34, 3) := by decide +kernel
theorem dX3_owedBy_4 : decode cX3_owedBy 4 = .ok (.ifCond .eq 24, 3) := by decide +kernel
theorem dX3_owedBy_7 : decode cX3_owedBy 7 = .ok (.iload_n 2, 1) := by decide +kernel
theorem dX3_owedBy_8 : decode cX3_owedBy 8 = .ok (.invokestatic 34, 3) := by decide +kernel
theorem dX3_owedBy_11 : decode cX3_owedBy 11 = .ok (.ifCond .eq 17, 3) := by decide +kernel
theorem dX3_owedBy_14 : decode cX3_owedBy 14 = .ok (.aload_n 0, 1) := by decide +kernel
theorem dX3_owedBy_15 : decode cX3_owedBy 15 = .ok (.getfield 15, 3) := by decide +kernel
theorem dX3_owedBy_18 : decode cX3_owedBy 18 = .ok (.iload_n 1, 1) := by decide +kernel
theorem dX3_owedBy_19 : decode cX3_owedBy 19 = .ok (.bipush 8, 2) := by decide +kernel
theorem dX3_owedBy_21 : decode cX3_owedBy 21 = .ok (.imul, 1) := by decide +kernel
theorem dX3_owedBy_22 : decode cX3_owedBy 22 = .ok (.iload_n 2, 1) := by decide +kernel
theorem dX3_owedBy_23 : decode cX3_owedBy 23 = .ok (.iadd, 1) := by decide +kernel
theorem dX3_owedBy_24 : decode cX3_owedBy 24 = .ok (.iaload, 1) := by decide +kernel
theorem dX3_owedBy_25 : decode cX3_owedBy 25 = .ok (.goto 4, 3) := by decide +kernel
theorem dX3_owedBy_28 : decode cX3_owedBy 28 = .ok (.iconst 0, 1) := by decide +kernel
theorem dX3_owedBy_29 : decode cX3_owedBy 29 = .ok (.ireturn, 1) := by decide +kernel
theorem dX3_setOwed_0 : decode cX3_setOwed 0 = .ok (.iload_n 1, 1) := by decide +kernel
theorem dX3_setOwed_1 : decode cX3_setOwed 1 = .ok (.invokestatic 34, 3) := by decide +kernel
theorem dX3_setOwed_4 : decode cX3_setOwed 4 = .ok (.ifCond .eq 22, 3) := by decide +kernel
theorem dX3_setOwed_7 : decode cX3_setOwed 7 = .ok (.iload_n 2, 1) := by decide +kernel
theorem dX3_setOwed_8 : decode cX3_setOwed 8 = .ok (.invokestatic 34, 3) := by decide +kernel
theorem dX3_setOwed_11 : decode cX3_setOwed 11 = .ok (.ifCond .eq 15, 3) := by decide +kernel
theorem dX3_setOwed_14 : decode cX3_setOwed 14 = .ok (.aload_n 0, 1) := by decide +kernel
theorem dX3_setOwed_15 : decode cX3_setOwed 15 = .ok (.getfield 15, 3) := by decide +kernel
theorem dX3_setOwed_18 : decode cX3_setOwed 18 = .ok (.iload_n 1, 1) := by decide +kernel
theorem dX3_setOwed_19 : decode cX3_setOwed 19 = .ok (.bipush 8, 2) := by decide +kernel
theorem dX3_setOwed_21 : decode cX3_setOwed 21 = .ok (.imul, 1) := by decide +kernel
theorem dX3_setOwed_22 : decode cX3_setOwed 22 = .ok (.iload_n 2, 1) := by decide +kernel
theorem dX3_setOwed_23 : decode cX3_setOwed 23 = .ok (.iadd, 1) := by decide +kernel
theorem dX3_setOwed_24 : decode cX3_setOwed 24 = .ok (.iload_n 3, 1) := by decide +kernel
theorem dX3_setOwed_25 : decode cX3_setOwed 25 = .ok (.iastore, 1) := by decide +kernel
theorem dX3_setOwed_26 : decode cX3_setOwed 26 = .ok (.return_, 1) := by decide +kernel
theorem dX3_owedInAllTo_0 : decode cX3_owedInAllTo 0 = .ok (.iconst 0, 1) := by decide +kernel
theorem dX3_owedInAllTo_1 : decode cX3_owedInAllTo 1 = .ok (.istore_n 2, 1) := by decide +kernel
theorem dX3_owedInAllTo_2 : decode cX3_owedInAllTo 2 = .ok (.iconst 0, 1) := by decide +kernel
theorem dX3_owedInAllTo_3 : decode cX3_owedInAllTo 3 = .ok (.istore_n 3, 1) := by decide +kernel
theorem dX3_owedInAllTo_4 : decode cX3_owedInAllTo 4 = .ok (.iload_n 3, 1) := by decide +kernel
theorem dX3_owedInAllTo_5 : decode cX3_owedInAllTo 5 = .ok (.bipush 8, 2) := by decide +kernel
theorem dX3_owedInAllTo_7 : decode cX3_owedInAllTo 7 = .ok (.if_icmp .ge 18, 3) := by decide +kernel
theorem dX3_owedInAllTo_10 : decode cX3_owedInAllTo 10 = .ok (.iload_n 2, 1) := by decide +kernel
theorem dX3_owedInAllTo_11 : decode cX3_owedInAllTo 11 = .ok (.aload_n 0, 1) := by decide +kernel
theorem dX3_owedInAllTo_12 : decode cX3_owedInAllTo 12 = .ok (.iload_n 3, 1) := by decide +kernel
theorem dX3_owedInAllTo_13 : decode cX3_owedInAllTo 13 = .ok (.iload_n 1, 1) := by decide +kernel
theorem dX3_owedInAllTo_14 : decode cX3_owedInAllTo 14 = .ok (.invokevirtual 38, 3) := by decide +kernel
theorem dX3_owedInAllTo_17 : decode cX3_owedInAllTo 17 = .ok (.iadd, 1) := by decide +kernel
theorem dX3_owedInAllTo_18 : decode cX3_owedInAllTo 18 = .ok (.istore_n 2, 1) := by decide +kernel
theorem dX3_owedInAllTo_19 : decode cX3_owedInAllTo 19 = .ok (.iinc 3 1, 3) := by decide +kernel
theorem dX3_owedInAllTo_22 : decode cX3_owedInAllTo 22 = .ok (.goto (-18), 3) := by decide +kernel
theorem dX3_owedInAllTo_25 : decode cX3_owedInAllTo 25 = .ok (.iload_n 2, 1) := by decide +kernel
theorem dX3_owedInAllTo_26 : decode cX3_owedInAllTo 26 = .ok (.ireturn, 1) := by decide +kernel
theorem dX3_isFull_0 : decode cX3_isFull 0 = .ok (.aload_n 0, 1) := by decide +kernel
theorem dX3_isFull_1 : decode cX3_isFull 1 = .ok (.getfield 30, 3) := by decide +kernel
theorem dX3_isFull_4 : decode cX3_isFull 4 = .ok (.bipush 16, 2) := by decide +kernel
theorem dX3_isFull_6 : decode cX3_isFull 6 = .ok (.if_icmp .lt 7, 3) := by decide +kernel
theorem dX3_isFull_9 : decode cX3_isFull 9 = .ok (.iconst 1, 1) := by decide +kernel
theorem dX3_isFull_10 : decode cX3_isFull 10 = .ok (.goto 4, 3) := by decide +kernel
theorem dX3_isFull_13 : decode cX3_isFull 13 = .ok (.iconst 0, 1) := by decide +kernel
theorem dX3_isFull_14 : decode cX3_isFull 14 = .ok (.ireturn, 1) := by decide +kernel
theorem dX3_allows_0 : decode cX3_allows 0 = .ok (.iload_n 1, 1) := by decide +kernel
theorem dX3_allows_1 : decode cX3_allows 1 = .ok (.ifCond .ne 5, 3) := by decide +kernel
theorem dX3_allows_4 : decode cX3_allows 4 = .ok (.iconst 1, 1) := by decide +kernel
theorem dX3_allows_5 : decode cX3_allows 5 = .ok (.ireturn, 1) := by decide +kernel
theorem dX3_allows_6 : decode cX3_allows 6 = .ok (.iload_n 1, 1) := by decide +kernel
theorem dX3_allows_7 : decode cX3_allows 7 = .ok (.iconst 4, 1) := by decide +kernel
theorem dX3_allows_8 : decode cX3_allows 8 = .ok (.if_icmp .ne 16, 3) := by decide +kernel
theorem dX3_allows_11 : decode cX3_allows 11 = .ok (.aload_n 0, 1) := by decide +kernel
theorem dX3_allows_12 : decode cX3_allows 12 = .ok (.iload_n 2, 1) := by decide +kernel
theorem dX3_allows_13 : decode cX3_allows 13 = .ok (.iload_n 3, 1) := by decide +kernel
theorem dX3_allows_14 : decode cX3_allows 14 = .ok (.invokevirtual 38, 3) := by decide +kernel
theorem dX3_allows_17 : decode cX3_allows 17 = .ok (.iload 4, 2) := by decide +kernel
theorem dX3_allows_19 : decode cX3_allows 19 = .ok (.if_icmp .ge 5, 3) := by decide +kernel
theorem dX3_allows_22 : decode cX3_allows 22 = .ok (.iconst 0, 1) := by decide +kernel
theorem dX3_allows_23 : decode cX3_allows 23 = .ok (.ireturn, 1) := by decide +kernel
theorem dX3_allows_24 : decode cX3_allows 24 = .ok (.aload_n 0, 1) := by decide +kernel
theorem dX3_allows_25 : decode cX3_allows 25 = .ok (.iload_n 1, 1) := by decide +kernel
theorem dX3_allows_26 : decode cX3_allows 26 = .ok (.iconst 3, 1) := by decide +kernel
theorem dX3_allows_27 : decode cX3_allows 27 = .ok (.if_icmp .ne 7, 3) := by decide +kernel
theorem dX3_allows_30 : decode cX3_allows 30 = .ok (.iload_n 3, 1) := by decide +kernel
theorem dX3_allows_31 : decode cX3_allows 31 = .ok (.goto 4, 3) := by decide +kernel
theorem dX3_allows_34 : decode cX3_allows 34 = .ok (.iload_n 2, 1) := by decide +kernel
theorem dX3_allows_35 : decode cX3_allows 35 = .ok (.invokevirtual 42, 3) := by decide +kernel
theorem dX3_allows_38 : decode cX3_allows 38 = .ok (.iload 4, 2) := by decide +kernel
theorem dX3_allows_40 : decode cX3_allows 40 = .ok (.if_icmp .lt 7, 3) := by decide +kernel
theorem dX3_allows_43 : decode cX3_allows 43 = .ok (.iconst 1, 1) := by decide +kernel
theorem dX3_allows_44 : decode cX3_allows 44 = .ok (.goto 4, 3) := by decide +kernel
theorem dX3_allows_47 : decode cX3_allows 47 = .ok (.iconst 0, 1) := by decide +kernel
theorem dX3_allows_48 : decode cX3_allows 48 = .ok (.ireturn, 1) := by decide +kernel
theorem dX3_enter_0 : decode cX3_enter 0 = .ok (.aload_n 0, 1) := by decide +kernel
theorem dX3_enter_1 : decode cX3_enter 1 = .ok (.getfield 30, 3) := by decide +kernel
theorem dX3_enter_4 : decode cX3_enter 4 = .ok (.ifCond .lt 12, 3) := by decide +kernel
theorem dX3_enter_7 : decode cX3_enter 7 = .ok (.aload_n 0, 1) := by decide +kernel
theorem dX3_enter_8 : decode cX3_enter 8 = .ok (.getfield 30, 3) := by decide +kernel
theorem dX3_enter_11 : decode cX3_enter 11 = .ok (.bipush 16, 2) := by decide +kernel
theorem dX3_enter_13 : decode cX3_enter 13 = .ok (.if_icmp .lt 6, 3) := by decide +kernel
theorem dX3_enter_16 : decode cX3_enter 16 = .ok (.bipush (-2), 2) := by decide +kernel
theorem dX3_enter_18 : decode cX3_enter 18 = .ok (.ireturn, 1) := by decide +kernel
theorem dX3_enter_19 : decode cX3_enter 19 = .ok (.aload_n 0, 1) := by decide +kernel
theorem dX3_enter_20 : decode cX3_enter 20 = .ok (.getfield 18, 3) := by decide +kernel
theorem dX3_enter_23 : decode cX3_enter 23 = .ok (.aload_n 0, 1) := by decide +kernel
theorem dX3_enter_24 : decode cX3_enter 24 = .ok (.getfield 30, 3) := by decide +kernel
theorem dX3_enter_27 : decode cX3_enter 27 = .ok (.iload_n 1, 1) := by decide +kernel
theorem dX3_enter_28 : decode cX3_enter 28 = .ok (.iastore, 1) := by decide +kernel
theorem dX3_enter_29 : decode cX3_enter 29 = .ok (.aload_n 0, 1) := by decide +kernel
theorem dX3_enter_30 : decode cX3_enter 30 = .ok (.getfield 21, 3) := by decide +kernel
theorem dX3_enter_33 : decode cX3_enter 33 = .ok (.aload_n 0, 1) := by decide +kernel
theorem dX3_enter_34 : decode cX3_enter 34 = .ok (.getfield 30, 3) := by decide +kernel
theorem dX3_enter_37 : decode cX3_enter 37 = .ok (.iload_n 2, 1) := by decide +kernel
theorem dX3_enter_38 : decode cX3_enter 38 = .ok (.iastore, 1) := by decide +kernel
theorem dX3_enter_39 : decode cX3_enter 39 = .ok (.aload_n 0, 1) := by decide +kernel
theorem dX3_enter_40 : decode cX3_enter 40 = .ok (.getfield 24, 3) := by decide +kernel
theorem dX3_enter_43 : decode cX3_enter 43 = .ok (.aload_n 0, 1) := by decide +kernel
theorem dX3_enter_44 : decode cX3_enter 44 = .ok (.getfield 30, 3) := by decide +kernel
theorem dX3_enter_47 : decode cX3_enter 47 = .ok (.iload_n 3, 1) := by decide +kernel
theorem dX3_enter_48 : decode cX3_enter 48 = .ok (.iastore, 1) := by decide +kernel
theorem dX3_enter_49 : decode cX3_enter 49 = .ok (.aload_n 0, 1) := by decide +kernel
theorem dX3_enter_50 : decode cX3_enter 50 = .ok (.getfield 27, 3) := by decide +kernel
theorem dX3_enter_53 : decode cX3_enter 53 = .ok (.aload_n 0, 1) := by decide +kernel
theorem dX3_enter_54 : decode cX3_enter 54 = .ok (.getfield 30, 3) := by decide +kernel
theorem dX3_enter_57 : decode cX3_enter 57 = .ok (.iload 4, 2) := by decide +kernel
theorem dX3_enter_59 : decode cX3_enter 59 = .ok (.iastore, 1) := by decide +kernel
theorem dX3_enter_60 : decode cX3_enter 60 = .ok (.aload_n 0, 1) := by decide +kernel
theorem dX3_enter_61 : decode cX3_enter 61 = .ok (.dup, 1) := by decide +kernel
theorem dX3_enter_62 : decode cX3_enter 62 = .ok (.getfield 30, 3) := by decide +kernel
theorem dX3_enter_65 : decode cX3_enter 65 = .ok (.iconst 1, 1) := by decide +kernel
theorem dX3_enter_66 : decode cX3_enter 66 = .ok (.iadd, 1) := by decide +kernel
theorem dX3_enter_67 : decode cX3_enter 67 = .ok (.putfield 30, 3) := by decide +kernel
theorem dX3_enter_70 : decode cX3_enter 70 = .ok (.aload_n 0, 1) := by decide +kernel
theorem dX3_enter_71 : decode cX3_enter 71 = .ok (.iload_n 1, 1) := by decide +kernel
theorem dX3_enter_72 : decode cX3_enter 72 = .ok (.iload_n 2, 1) := by decide +kernel
theorem dX3_enter_73 : decode cX3_enter 73 = .ok (.iload_n 3, 1) := by decide +kernel
theorem dX3_enter_74 : decode cX3_enter 74 = .ok (.iload 4, 2) := by decide +kernel
theorem dX3_enter_76 : decode cX3_enter 76 = .ok (.invokevirtual 46, 3) := by decide +kernel
theorem dX3_enter_79 : decode cX3_enter 79 = .ok (.aload_n 0, 1) := by decide +kernel
theorem dX3_enter_80 : decode cX3_enter 80 = .ok (.getfield 30, 3) := by decide +kernel
theorem dX3_enter_83 : decode cX3_enter 83 = .ok (.iconst 1, 1) := by decide +kernel
theorem dX3_enter_84 : decode cX3_enter 84 = .ok (.isub, 1) := by decide +kernel
theorem dX3_enter_85 : decode cX3_enter 85 = .ok (.ireturn, 1) := by decide +kernel
theorem dX3_undoFrom_0 : decode cX3_undoFrom 0 = .ok (.aload_n 0, 1) := by decide +kernel
theorem dX3_undoFrom_1 : decode cX3_undoFrom 1 = .ok (.getfield 30, 3) := by decide +kernel
theorem dX3_undoFrom_4 : decode cX3_undoFrom 4 = .ok (.iload_n 1, 1) := by decide +kernel
theorem dX3_undoFrom_5 : decode cX3_undoFrom 5 = .ok (.isub, 1) := by decide +kernel
theorem dX3_undoFrom_6 : decode cX3_undoFrom 6 = .ok (.istore_n 2, 1) := by decide +kernel
theorem dX3_undoFrom_7 : decode cX3_undoFrom 7 = .ok (.aload_n 0, 1) := by decide +kernel
theorem dX3_undoFrom_8 : decode cX3_undoFrom 8 = .ok (.getfield 30, 3) := by decide +kernel
theorem dX3_undoFrom_11 : decode cX3_undoFrom 11 = .ok (.iconst 1, 1) := by decide +kernel
theorem dX3_undoFrom_12 : decode cX3_undoFrom 12 = .ok (.isub, 1) := by decide +kernel
theorem dX3_undoFrom_13 : decode cX3_undoFrom 13 = .ok (.istore_n 3, 1) := by decide +kernel
theorem dX3_undoFrom_14 : decode cX3_undoFrom 14 = .ok (.iload_n 3, 1) := by decide +kernel
theorem dX3_undoFrom_15 : decode cX3_undoFrom 15 = .ok (.iload_n 1, 1) := by decide +kernel
theorem dX3_undoFrom_16 : decode cX3_undoFrom 16 = .ok (.if_icmp .lt 53, 3) := by decide +kernel
theorem dX3_undoFrom_19 : decode cX3_undoFrom 19 = .ok (.iload_n 3, 1) := by decide +kernel
theorem dX3_undoFrom_20 : decode cX3_undoFrom 20 = .ok (.ifCond .lt 49, 3) := by decide +kernel
theorem dX3_undoFrom_23 : decode cX3_undoFrom 23 = .ok (.iload_n 3, 1) := by decide +kernel
theorem dX3_undoFrom_24 : decode cX3_undoFrom 24 = .ok (.bipush 16, 2) := by decide +kernel
theorem dX3_undoFrom_26 : decode cX3_undoFrom 26 = .ok (.if_icmp .ge 43, 3) := by decide +kernel
theorem dX3_undoFrom_29 : decode cX3_undoFrom 29 = .ok (.aload_n 0, 1) := by decide +kernel
theorem dX3_undoFrom_30 : decode cX3_undoFrom 30 = .ok (.aload_n 0, 1) := by decide +kernel
theorem dX3_undoFrom_31 : decode cX3_undoFrom 31 = .ok (.getfield 18, 3) := by decide +kernel
theorem dX3_undoFrom_34 : decode cX3_undoFrom 34 = .ok (.iload_n 3, 1) := by decide +kernel
theorem dX3_undoFrom_35 : decode cX3_undoFrom 35 = .ok (.iaload, 1) := by decide +kernel
theorem dX3_undoFrom_36 : decode cX3_undoFrom 36 = .ok (.aload_n 0, 1) := by decide +kernel
theorem dX3_undoFrom_37 : decode cX3_undoFrom 37 = .ok (.getfield 21, 3) := by decide +kernel
theorem dX3_undoFrom_40 : decode cX3_undoFrom 40 = .ok (.iload_n 3, 1) := by decide +kernel
theorem dX3_undoFrom_41 : decode cX3_undoFrom 41 = .ok (.iaload, 1) := by decide +kernel
theorem dX3_undoFrom_42 : decode cX3_undoFrom 42 = .ok (.aload_n 0, 1) := by decide +kernel
theorem dX3_undoFrom_43 : decode cX3_undoFrom 43 = .ok (.getfield 24, 3) := by decide +kernel
theorem dX3_undoFrom_46 : decode cX3_undoFrom 46 = .ok (.iload_n 3, 1) := by decide +kernel
theorem dX3_undoFrom_47 : decode cX3_undoFrom 47 = .ok (.iaload, 1) := by decide +kernel
theorem dX3_undoFrom_48 : decode cX3_undoFrom 48 = .ok (.aload_n 0, 1) := by decide +kernel
theorem dX3_undoFrom_49 : decode cX3_undoFrom 49 = .ok (.getfield 27, 3) := by decide +kernel
theorem dX3_undoFrom_52 : decode cX3_undoFrom 52 = .ok (.iload_n 3, 1) := by decide +kernel
theorem dX3_undoFrom_53 : decode cX3_undoFrom 53 = .ok (.iaload, 1) := by decide +kernel
theorem dX3_undoFrom_54 : decode cX3_undoFrom 54 = .ok (.ineg, 1) := by decide +kernel
theorem dX3_undoFrom_55 : decode cX3_undoFrom 55 = .ok (.invokevirtual 46, 3) := by decide +kernel
theorem dX3_undoFrom_58 : decode cX3_undoFrom 58 = .ok (.aload_n 0, 1) := by decide +kernel
theorem dX3_undoFrom_59 : decode cX3_undoFrom 59 = .ok (.iload_n 3, 1) := by decide +kernel
theorem dX3_undoFrom_60 : decode cX3_undoFrom 60 = .ok (.putfield 30, 3) := by decide +kernel
theorem dX3_undoFrom_63 : decode cX3_undoFrom 63 = .ok (.iinc 3 (-1), 3) := by decide +kernel
theorem dX3_undoFrom_66 : decode cX3_undoFrom 66 = .ok (.goto (-52), 3) := by decide +kernel
theorem dX3_undoFrom_69 : decode cX3_undoFrom 69 = .ok (.iload_n 2, 1) := by decide +kernel
theorem dX3_undoFrom_70 : decode cX3_undoFrom 70 = .ok (.ireturn, 1) := by decide +kernel
theorem dX3_settle_0 : decode cX3_settle 0 = .ok (.iload_n 1, 1) := by decide +kernel
theorem dX3_settle_1 : decode cX3_settle 1 = .ok (.tableswitch 112 0 3 #[31, 47, 73, 84], 31) := by decide +kernel
theorem dX3_settle_32 : decode cX3_settle 32 = .ok (.aload_n 0, 1) := by decide +kernel
theorem dX3_settle_33 : decode cX3_settle 33 = .ok (.iload_n 2, 1) := by decide +kernel
theorem dX3_settle_34 : decode cX3_settle 34 = .ok (.aload_n 0, 1) := by decide +kernel
theorem dX3_settle_35 : decode cX3_settle 35 = .ok (.iload_n 2, 1) := by decide +kernel
theorem dX3_settle_36 : decode cX3_settle 36 = .ok (.invokevirtual 42, 3) := by decide +kernel
theorem dX3_settle_39 : decode cX3_settle 39 = .ok (.iload 4, 2) := by decide +kernel
theorem dX3_settle_41 : decode cX3_settle 41 = .ok (.iadd, 1) := by decide +kernel
theorem dX3_settle_42 : decode cX3_settle 42 = .ok (.invokevirtual 50, 3) := by decide +kernel
theorem dX3_settle_45 : decode cX3_settle 45 = .ok (.goto 91, 3) := by decide +kernel
theorem dX3_settle_48 : decode cX3_settle 48 = .ok (.aload_n 0, 1) := by decide +kernel
theorem dX3_settle_49 : decode cX3_settle 49 = .ok (.iload_n 2, 1) := by decide +kernel
theorem dX3_settle_50 : decode cX3_settle 50 = .ok (.iload_n 3, 1) := by decide +kernel
theorem dX3_settle_51 : decode cX3_settle 51 = .ok (.iload 4, 2) := by decide +kernel
theorem dX3_settle_53 : decode cX3_settle 53 = .ok (.invokevirtual 54, 3) := by decide +kernel
theorem dX3_settle_56 : decode cX3_settle 56 = .ok (.aload_n 0, 1) := by decide +kernel
theorem dX3_settle_57 : decode cX3_settle 57 = .ok (.iload_n 3, 1) := by decide +kernel
theorem dX3_settle_58 : decode cX3_settle 58 = .ok (.iload_n 2, 1) := by decide +kernel
theorem dX3_settle_59 : decode cX3_settle 59 = .ok (.aload_n 0, 1) := by decide +kernel
theorem dX3_settle_60 : decode cX3_settle 60 = .ok (.iload_n 3, 1) := by decide +kernel
theorem dX3_settle_61 : decode cX3_settle 61 = .ok (.iload_n 2, 1) := by decide +kernel
theorem dX3_settle_62 : decode cX3_settle 62 = .ok (.invokevirtual 38, 3) := by decide +kernel
theorem dX3_settle_65 : decode cX3_settle 65 = .ok (.iload 4, 2) := by decide +kernel
theorem dX3_settle_67 : decode cX3_settle 67 = .ok (.iadd, 1) := by decide +kernel
theorem dX3_settle_68 : decode cX3_settle 68 = .ok (.invokevirtual 58, 3) := by decide +kernel
theorem dX3_settle_71 : decode cX3_settle 71 = .ok (.goto 65, 3) := by decide +kernel
theorem dX3_settle_74 : decode cX3_settle 74 = .ok (.aload_n 0, 1) := by decide +kernel
theorem dX3_settle_75 : decode cX3_settle 75 = .ok (.iload_n 2, 1) := by decide +kernel
theorem dX3_settle_76 : decode cX3_settle 76 = .ok (.iload_n 3, 1) := by decide +kernel
theorem dX3_settle_77 : decode cX3_settle 77 = .ok (.iload 4, 2) := by decide +kernel
theorem dX3_settle_79 : decode cX3_settle 79 = .ok (.invokevirtual 54, 3) := by decide +kernel
theorem dX3_settle_82 : decode cX3_settle 82 = .ok (.goto 54, 3) := by decide +kernel
theorem dX3_settle_85 : decode cX3_settle 85 = .ok (.aload_n 0, 1) := by decide +kernel
theorem dX3_settle_86 : decode cX3_settle 86 = .ok (.iload_n 3, 1) := by decide +kernel
theorem dX3_settle_87 : decode cX3_settle 87 = .ok (.iload_n 2, 1) := by decide +kernel
theorem dX3_settle_88 : decode cX3_settle 88 = .ok (.iload 4, 2) := by decide +kernel
theorem dX3_settle_90 : decode cX3_settle 90 = .ok (.invokevirtual 54, 3) := by decide +kernel
theorem dX3_settle_93 : decode cX3_settle 93 = .ok (.aload_n 0, 1) := by decide +kernel
theorem dX3_settle_94 : decode cX3_settle 94 = .ok (.iload_n 2, 1) := by decide +kernel
theorem dX3_settle_95 : decode cX3_settle 95 = .ok (.iload_n 3, 1) := by decide +kernel
theorem dX3_settle_96 : decode cX3_settle 96 = .ok (.aload_n 0, 1) := by decide +kernel
theorem dX3_settle_97 : decode cX3_settle 97 = .ok (.iload_n 2, 1) := by decide +kernel
theorem dX3_settle_98 : decode cX3_settle 98 = .ok (.iload_n 3, 1) := by decide +kernel
theorem dX3_settle_99 : decode cX3_settle 99 = .ok (.invokevirtual 38, 3) := by decide +kernel
theorem dX3_settle_102 : decode cX3_settle 102 = .ok (.iconst 2, 1) := by decide +kernel
theorem dX3_settle_103 : decode cX3_settle 103 = .ok (.iload 4, 2) := by decide +kernel
theorem dX3_settle_105 : decode cX3_settle 105 = .ok (.imul, 1) := by decide +kernel
theorem dX3_settle_106 : decode cX3_settle 106 = .ok (.iadd, 1) := by decide +kernel
theorem dX3_settle_107 : decode cX3_settle 107 = .ok (.invokevirtual 58, 3) := by decide +kernel
theorem dX3_settle_110 : decode cX3_settle 110 = .ok (.goto 26, 3) := by decide +kernel
theorem dX3_settle_113 : decode cX3_settle 113 = .ok (.aload_n 0, 1) := by decide +kernel
theorem dX3_settle_114 : decode cX3_settle 114 = .ok (.iload_n 2, 1) := by decide +kernel
theorem dX3_settle_115 : decode cX3_settle 115 = .ok (.iload_n 3, 1) := by decide +kernel
theorem dX3_settle_116 : decode cX3_settle 116 = .ok (.iload 4, 2) := by decide +kernel
theorem dX3_settle_118 : decode cX3_settle 118 = .ok (.invokevirtual 54, 3) := by decide +kernel
theorem dX3_settle_121 : decode cX3_settle 121 = .ok (.aload_n 0, 1) := by decide +kernel
theorem dX3_settle_122 : decode cX3_settle 122 = .ok (.iload_n 2, 1) := by decide +kernel
theorem dX3_settle_123 : decode cX3_settle 123 = .ok (.iload_n 3, 1) := by decide +kernel
theorem dX3_settle_124 : decode cX3_settle 124 = .ok (.aload_n 0, 1) := by decide +kernel
theorem dX3_settle_125 : decode cX3_settle 125 = .ok (.iload_n 2, 1) := by decide +kernel
theorem dX3_settle_126 : decode cX3_settle 126 = .ok (.iload_n 3, 1) := by decide +kernel
theorem dX3_settle_127 : decode cX3_settle 127 = .ok (.invokevirtual 38, 3) := by decide +kernel
theorem dX3_settle_130 : decode cX3_settle 130 = .ok (.iload 4, 2) := by decide +kernel
theorem dX3_settle_132 : decode cX3_settle 132 = .ok (.isub, 1) := by decide +kernel
theorem dX3_settle_133 : decode cX3_settle 133 = .ok (.invokevirtual 58, 3) := by decide +kernel
theorem dX3_settle_136 : decode cX3_settle 136 = .ok (.return_, 1) := by decide +kernel
theorem dX3_move_0 : decode cX3_move 0 = .ok (.aload_n 0, 1) := by decide +kernel
theorem dX3_move_1 : decode cX3_move 1 = .ok (.iload_n 1, 1) := by decide +kernel
theorem dX3_move_2 : decode cX3_move 2 = .ok (.aload_n 0, 1) := by decide +kernel
theorem dX3_move_3 : decode cX3_move 3 = .ok (.iload_n 1, 1) := by decide +kernel
theorem dX3_move_4 : decode cX3_move 4 = .ok (.invokevirtual 42, 3) := by decide +kernel
theorem dX3_move_7 : decode cX3_move 7 = .ok (.iload_n 3, 1) := by decide +kernel
theorem dX3_move_8 : decode cX3_move 8 = .ok (.isub, 1) := by decide +kernel
theorem dX3_move_9 : decode cX3_move 9 = .ok (.invokevirtual 50, 3) := by decide +kernel
theorem dX3_move_12 : decode cX3_move 12 = .ok (.aload_n 0, 1) := by decide +kernel
theorem dX3_move_13 : decode cX3_move 13 = .ok (.iload_n 2, 1) := by decide +kernel
theorem dX3_move_14 : decode cX3_move 14 = .ok (.aload_n 0, 1) := by decide +kernel
theorem dX3_move_15 : decode cX3_move 15 = .ok (.iload_n 2, 1) := by decide +kernel
theorem dX3_move_16 : decode cX3_move 16 = .ok (.invokevirtual 42, 3) := by decide +kernel
theorem dX3_move_19 : decode cX3_move 19 = .ok (.iload_n 3, 1) := by decide +kernel
theorem dX3_move_20 : decode cX3_move 20 = .ok (.iadd, 1) := by decide +kernel
theorem dX3_move_21 : decode cX3_move 21 = .ok (.invokevirtual 50, 3) := by decide +kernel
theorem dX3_move_24 : decode cX3_move 24 = .ok (.return_, 1) := by decide +kernel
theorem dX4_init_0 : decode cX4_init 0 = .ok (.aload_n 0, 1) := by decide +kernel
theorem dX4_init_1 : decode cX4_init 1 = .ok (.invokespecial 3, 3) := by decide +kernel
theorem dX4_init_4 : decode cX4_init 4 = .ok (.aload_n 0, 1) := by decide +kernel
theorem dX4_init_5 : decode cX4_init 5 = .ok (.bipush 12, 2) := by decide +kernel
theorem dX4_init_7 : decode cX4_init 7 = .ok (.putfield 9, 3) := by decide +kernel
theorem dX4_init_10 : decode cX4_init 10 = .ok (.return_, 1) := by decide +kernel
theorem dX4_isA_0 : decode cX4_isA 0 = .ok (.iload_n 1, 1) := by decide +kernel
theorem dX4_isA_1 : decode cX4_isA 1 = .ok (.iconst 1, 1) := by decide +kernel
theorem dX4_isA_2 : decode cX4_isA 2 = .ok (.if_icmp .ne 33, 3) := by decide +kernel
theorem dX4_isA_5 : decode cX4_isA 5 = .ok (.aload_n 0, 1) := by decide +kernel
theorem dX4_isA_6 : decode cX4_isA 6 = .ok (.getfield 15, 3) := by decide +kernel
theorem dX4_isA_9 : decode cX4_isA 9 = .ok (.iconst 1, 1) := by decide +kernel
theorem dX4_isA_10 : decode cX4_isA 10 = .ok (.if_icmp .eq 19, 3) := by decide +kernel
theorem dX4_isA_13 : decode cX4_isA 13 = .ok (.aload_n 0, 1) := by decide +kernel
theorem dX4_isA_14 : decode cX4_isA 14 = .ok (.getfield 15, 3) := by decide +kernel
theorem dX4_isA_17 : decode cX4_isA 17 = .ok (.iconst 3, 1) := by decide +kernel
theorem dX4_isA_18 : decode cX4_isA 18 = .ok (.if_icmp .eq 11, 3) := by decide +kernel
theorem dX4_isA_21 : decode cX4_isA 21 = .ok (.aload_n 0, 1) := by decide +kernel
theorem dX4_isA_22 : decode cX4_isA 22 = .ok (.getfield 15, 3) := by decide +kernel
theorem dX4_isA_25 : decode cX4_isA 25 = .ok (.iconst 4, 1) := by decide +kernel
theorem dX4_isA_26 : decode cX4_isA 26 = .ok (.if_icmp .ne 7, 3) := by decide +kernel
theorem dX4_isA_29 : decode cX4_isA 29 = .ok (.iconst 1, 1) := by decide +kernel
theorem dX4_isA_30 : decode cX4_isA 30 = .ok (.goto 4, 3) := by decide +kernel
theorem dX4_isA_33 : decode cX4_isA 33 = .ok (.iconst 0, 1) := by decide +kernel
theorem dX4_isA_34 : decode cX4_isA 34 = .ok (.ireturn, 1) := by decide +kernel
theorem dX4_isA_35 : decode cX4_isA 35 = .ok (.iload_n 1, 1) := by decide +kernel
theorem dX4_isA_36 : decode cX4_isA 36 = .ok (.iconst 2, 1) := by decide +kernel
theorem dX4_isA_37 : decode cX4_isA 37 = .ok (.if_icmp .ne 25, 3) := by decide +kernel
theorem dX4_isA_40 : decode cX4_isA 40 = .ok (.aload_n 0, 1) := by decide +kernel
theorem dX4_isA_41 : decode cX4_isA 41 = .ok (.getfield 15, 3) := by decide +kernel
theorem dX4_isA_44 : decode cX4_isA 44 = .ok (.iconst 2, 1) := by decide +kernel
theorem dX4_isA_45 : decode cX4_isA 45 = .ok (.if_icmp .eq 11, 3) := by decide +kernel
theorem dX4_isA_48 : decode cX4_isA 48 = .ok (.aload_n 0, 1) := by decide +kernel
theorem dX4_isA_49 : decode cX4_isA 49 = .ok (.getfield 15, 3) := by decide +kernel
theorem dX4_isA_52 : decode cX4_isA 52 = .ok (.iconst 5, 1) := by decide +kernel
theorem dX4_isA_53 : decode cX4_isA 53 = .ok (.if_icmp .ne 7, 3) := by decide +kernel
theorem dX4_isA_56 : decode cX4_isA 56 = .ok (.iconst 1, 1) := by decide +kernel
theorem dX4_isA_57 : decode cX4_isA 57 = .ok (.goto 4, 3) := by decide +kernel
theorem dX4_isA_60 : decode cX4_isA 60 = .ok (.iconst 0, 1) := by decide +kernel
theorem dX4_isA_61 : decode cX4_isA 61 = .ok (.ireturn, 1) := by decide +kernel
theorem dX4_isA_62 : decode cX4_isA 62 = .ok (.aload_n 0, 1) := by decide +kernel
theorem dX4_isA_63 : decode cX4_isA 63 = .ok (.getfield 15, 3) := by decide +kernel
theorem dX4_isA_66 : decode cX4_isA 66 = .ok (.iload_n 1, 1) := by decide +kernel
theorem dX4_isA_67 : decode cX4_isA 67 = .ok (.if_icmp .ne 7, 3) := by decide +kernel
theorem dX4_isA_70 : decode cX4_isA 70 = .ok (.iconst 1, 1) := by decide +kernel
theorem dX4_isA_71 : decode cX4_isA 71 = .ok (.goto 4, 3) := by decide +kernel
theorem dX4_isA_74 : decode cX4_isA 74 = .ok (.iconst 0, 1) := by decide +kernel
theorem dX4_isA_75 : decode cX4_isA 75 = .ok (.ireturn, 1) := by decide +kernel
theorem dX4_latestBeginning_0 : decode cX4_latestBeginning 0 = .ok (.aload_n 0, 1) := by decide +kernel
theorem dX4_latestBeginning_1 : decode cX4_latestBeginning 1 = .ok (.getfield 21, 3) := by decide +kernel
theorem dX4_latestBeginning_4 : decode cX4_latestBeginning 4 = .ok (.aload_n 0, 1) := by decide +kernel
theorem dX4_latestBeginning_5 : decode cX4_latestBeginning 5 = .ok (.getfield 18, 3) := by decide +kernel
theorem dX4_latestBeginning_8 : decode cX4_latestBeginning 8 = .ok (.isub, 1) := by decide +kernel
theorem dX4_latestBeginning_9 : decode cX4_latestBeginning 9 = .ok (.iconst 1, 1) := by decide +kernel
theorem dX4_latestBeginning_10 : decode cX4_latestBeginning 10 = .ok (.iadd, 1) := by decide +kernel
theorem dX4_latestBeginning_11 : decode cX4_latestBeginning 11 = .ok (.istore_n 1, 1) := by decide +kernel
theorem dX4_latestBeginning_12 : decode cX4_latestBeginning 12 = .ok (.aload_n 0, 1) := by decide +kernel
theorem dX4_latestBeginning_13 : decode cX4_latestBeginning 13 = .ok (.getfield 15, 3) := by decide +kernel
theorem dX4_latestBeginning_16 : decode cX4_latestBeginning 16 = .ok (.iconst 3, 1) := by decide +kernel
theorem dX4_latestBeginning_17 : decode cX4_latestBeginning 17 = .ok (.if_icmp .eq 11, 3) := by decide +kernel
theorem dX4_latestBeginning_20 : decode cX4_latestBeginning 20 = .ok (.aload_n 0, 1) := by decide +kernel
theorem dX4_latestBeginning_21 : decode cX4_latestBeginning 21 = .ok (.getfield 15, 3) := by decide +kernel
theorem dX4_latestBeginning_24 : decode cX4_latestBeginning 24 = .ok (.iconst 5, 1) := by decide +kernel
theorem dX4_latestBeginning_25 : decode cX4_latestBeginning 25 = .ok (.if_icmp .ne 12, 3) := by decide +kernel
theorem dX4_latestBeginning_28 : decode cX4_latestBeginning 28 = .ok (.iload_n 1, 1) := by decide +kernel
theorem dX4_latestBeginning_29 : decode cX4_latestBeginning 29 = .ok (.aload_n 0, 1) := by decide +kernel
theorem dX4_latestBeginning_30 : decode cX4_latestBeginning 30 = .ok (.getfield 24, 3) := by decide +kernel
theorem dX4_latestBeginning_33 : decode cX4_latestBeginning 33 = .ok (.invokestatic 27, 3) := by decide +kernel
theorem dX4_latestBeginning_36 : decode cX4_latestBeginning 36 = .ok (.ireturn, 1) := by decide +kernel
theorem dX4_latestBeginning_37 : decode cX4_latestBeginning 37 = .ok (.aload_n 0, 1) := by decide +kernel
theorem dX4_latestBeginning_38 : decode cX4_latestBeginning 38 = .ok (.getfield 15, 3) := by decide +kernel
theorem dX4_latestBeginning_41 : decode cX4_latestBeginning 41 = .ok (.iconst 4, 1) := by decide +kernel
theorem dX4_latestBeginning_42 : decode cX4_latestBeginning 42 = .ok (.if_icmp .ne 16, 3) := by decide +kernel
theorem dX4_latestBeginning_45 : decode cX4_latestBeginning 45 = .ok (.iload_n 1, 1) := by decide +kernel
theorem dX4_latestBeginning_46 : decode cX4_latestBeginning 46 = .ok (.aload_n 0, 1) := by decide +kernel
theorem dX4_latestBeginning_47 : decode cX4_latestBeginning 47 = .ok (.getfield 24, 3) := by decide +kernel
theorem dX4_latestBeginning_50 : decode cX4_latestBeginning 50 = .ok (.iconst 1, 1) := by decide +kernel
theorem dX4_latestBeginning_51 : decode cX4_latestBeginning 51 = .ok (.iadd, 1) := by decide +kernel
theorem dX4_latestBeginning_52 : decode cX4_latestBeginning 52 = .ok (.invokestatic 27, 3) := by decide +kernel
theorem dX4_latestBeginning_55 : decode cX4_latestBeginning 55 = .ok (.goto 4, 3) := by decide +kernel
theorem dX4_latestBeginning_58 : decode cX4_latestBeginning 58 = .ok (.iload_n 1, 1) := by decide +kernel
theorem dX4_latestBeginning_59 : decode cX4_latestBeginning 59 = .ok (.ireturn, 1) := by decide +kernel
theorem dX4_tell_0 : decode cX4_tell 0 = .ok (.iload_n 1, 1) := by decide +kernel
theorem dX4_tell_1 : decode cX4_tell 1 = .ok (.tableswitch 60 0 4 #[35, 40, 45, 50, 55], 35) := by decide +kernel
theorem dX4_tell_36 : decode cX4_tell 36 = .ok (.aload_n 0, 1) := by decide +kernel
theorem dX4_tell_37 : decode cX4_tell 37 = .ok (.getfield 15, 3) := by decide +kernel
theorem dX4_tell_40 : decode cX4_tell 40 = .ok (.ireturn, 1) := by decide +kernel
theorem dX4_tell_41 : decode cX4_tell 41 = .ok (.aload_n 0, 1) := by decide +kernel
theorem dX4_tell_42 : decode cX4_tell 42 = .ok (.getfield 33, 3) := by decide +kernel
theorem dX4_tell_45 : decode cX4_tell 45 = .ok (.ireturn, 1) := by decide +kernel
theorem dX4_tell_46 : decode cX4_tell 46 = .ok (.aload_n 0, 1) := by decide +kernel
theorem dX4_tell_47 : decode cX4_tell 47 = .ok (.getfield 24, 3) := by decide +kernel
theorem dX4_tell_50 : decode cX4_tell 50 = .ok (.ireturn, 1) := by decide +kernel
theorem dX4_tell_51 : decode cX4_tell 51 = .ok (.aload_n 0, 1) := by decide +kernel
theorem dX4_tell_52 : decode cX4_tell 52 = .ok (.getfield 21, 3) := by decide +kernel
theorem dX4_tell_55 : decode cX4_tell 55 = .ok (.ireturn, 1) := by decide +kernel
theorem dX4_tell_56 : decode cX4_tell 56 = .ok (.aload_n 0, 1) := by decide +kernel
theorem dX4_tell_57 : decode cX4_tell 57 = .ok (.getfield 18, 3) := by decide +kernel
theorem dX4_tell_60 : decode cX4_tell 60 = .ok (.ireturn, 1) := by decide +kernel
theorem dX4_tell_61 : decode cX4_tell 61 = .ok (.aload_n 0, 1) := by decide +kernel
theorem dX4_tell_62 : decode cX4_tell 62 = .ok (.getfield 36, 3) := by decide +kernel
theorem dX4_tell_65 : decode cX4_tell 65 = .ok (.ireturn, 1) := by decide +kernel
theorem dX5_init_0 : decode cX5_init 0 = .ok (.aload_n 0, 1) := by decide +kernel
theorem dX5_init_1 : decode cX5_init 1 = .ok (.invokespecial 3, 3) := by decide +kernel
theorem dX5_init_4 : decode cX5_init 4 = .ok (.aload_n 0, 1) := by decide +kernel
theorem dX5_init_5 : decode cX5_init 5 = .ok (.iconst 0, 1) := by decide +kernel
theorem dX5_init_6 : decode cX5_init 6 = .ok (.putfield 9, 3) := by decide +kernel
theorem dX5_init_9 : decode cX5_init 9 = .ok (.aload_n 0, 1) := by decide +kernel
theorem dX5_init_10 : decode cX5_init 10 = .ok (.iconst 0, 1) := by decide +kernel
theorem dX5_init_11 : decode cX5_init 11 = .ok (.iload_n 1, 1) := by decide +kernel
theorem dX5_init_12 : decode cX5_init 12 = .ok (.invokestatic 15, 3) := by decide +kernel
theorem dX5_init_15 : decode cX5_init 15 = .ok (.newarray .int, 2) := by decide +kernel
theorem dX5_init_17 : decode cX5_init 17 = .ok (.putfield 21, 3) := by decide +kernel
theorem dX5_init_20 : decode cX5_init 20 = .ok (.aload_n 0, 1) := by decide +kernel
theorem dX5_init_21 : decode cX5_init 21 = .ok (.iconst 0, 1) := by decide +kernel
theorem dX5_init_22 : decode cX5_init 22 = .ok (.iload_n 1, 1) := by decide +kernel
theorem dX5_init_23 : decode cX5_init 23 = .ok (.invokestatic 15, 3) := by decide +kernel
theorem dX5_init_26 : decode cX5_init 26 = .ok (.newarray .int, 2) := by decide +kernel
theorem dX5_init_28 : decode cX5_init 28 = .ok (.putfield 25, 3) := by decide +kernel
theorem dX5_init_31 : decode cX5_init 31 = .ok (.return_, 1) := by decide +kernel
theorem dX5_isFull_0 : decode cX5_isFull 0 = .ok (.aload_n 0, 1) := by decide +kernel
theorem dX5_isFull_1 : decode cX5_isFull 1 = .ok (.getfield 9, 3) := by decide +kernel
theorem dX5_isFull_4 : decode cX5_isFull 4 = .ok (.aload_n 0, 1) := by decide +kernel
theorem dX5_isFull_5 : decode cX5_isFull 5 = .ok (.getfield 21, 3) := by decide +kernel
theorem dX5_isFull_8 : decode cX5_isFull 8 = .ok (.arraylength, 1) := by decide +kernel
theorem dX5_isFull_9 : decode cX5_isFull 9 = .ok (.if_icmp .lt 7, 3) := by decide +kernel
theorem dX5_isFull_12 : decode cX5_isFull 12 = .ok (.iconst 1, 1) := by decide +kernel
theorem dX5_isFull_13 : decode cX5_isFull 13 = .ok (.goto 4, 3) := by decide +kernel
theorem dX5_isFull_16 : decode cX5_isFull 16 = .ok (.iconst 0, 1) := by decide +kernel
theorem dX5_isFull_17 : decode cX5_isFull 17 = .ok (.ireturn, 1) := by decide +kernel
theorem dX5_has_0 : decode cX5_has 0 = .ok (.iload_n 1, 1) := by decide +kernel
theorem dX5_has_1 : decode cX5_has 1 = .ok (.ifCond .lt 33, 3) := by decide +kernel
theorem dX5_has_4 : decode cX5_has 4 = .ok (.iload_n 1, 1) := by decide +kernel
theorem dX5_has_5 : decode cX5_has 5 = .ok (.aload_n 0, 1) := by decide +kernel
theorem dX5_has_6 : decode cX5_has 6 = .ok (.getfield 9, 3) := by decide +kernel
theorem dX5_has_9 : decode cX5_has 9 = .ok (.if_icmp .ge 25, 3) := by decide +kernel
theorem dX5_has_12 : decode cX5_has 12 = .ok (.iload_n 1, 1) := by decide +kernel
theorem dX5_has_13 : decode cX5_has 13 = .ok (.aload_n 0, 1) := by decide +kernel
theorem dX5_has_14 : decode cX5_has 14 = .ok (.getfield 21, 3) := by decide +kernel
theorem dX5_has_17 : decode cX5_has 17 = .ok (.arraylength, 1) := by decide +kernel
theorem dX5_has_18 : decode cX5_has 18 = .ok (.if_icmp .ge 16, 3) := by decide +kernel
theorem dX5_has_21 : decode cX5_has 21 = .ok (.iload_n 1, 1) := by decide +kernel
theorem dX5_has_22 : decode cX5_has 22 = .ok (.aload_n 0, 1) := by decide +kernel
theorem dX5_has_23 : decode cX5_has 23 = .ok (.getfield 25, 3) := by decide +kernel
theorem dX5_has_26 : decode cX5_has 26 = .ok (.arraylength, 1) := by decide +kernel
theorem dX5_has_27 : decode cX5_has 27 = .ok (.if_icmp .ge 7, 3) := by decide +kernel
theorem dX5_has_30 : decode cX5_has 30 = .ok (.iconst 1, 1) := by decide +kernel
theorem dX5_has_31 : decode cX5_has 31 = .ok (.goto 4, 3) := by decide +kernel
theorem dX5_has_34 : decode cX5_has 34 = .ok (.iconst 0, 1) := by decide +kernel
theorem dX5_has_35 : decode cX5_has 35 = .ok (.ireturn, 1) := by decide +kernel
theorem dX5_houseOf_0 : decode cX5_houseOf 0 = .ok (.aload_n 0, 1) := by decide +kernel
theorem dX5_houseOf_1 : decode cX5_houseOf 1 = .ok (.iload_n 1, 1) := by decide +kernel
theorem dX5_houseOf_2 : decode cX5_houseOf 2 = .ok (.invokevirtual 28, 3) := by decide +kernel
theorem dX5_houseOf_5 : decode cX5_houseOf 5 = .ok (.ifCond .eq 12, 3) := by decide +kernel
theorem dX5_houseOf_8 : decode cX5_houseOf 8 = .ok (.aload_n 0, 1) := by decide +kernel
theorem dX5_houseOf_9 : decode cX5_houseOf 9 = .ok (.getfield 21, 3) := by decide +kernel
theorem dX5_houseOf_12 : decode cX5_houseOf 12 = .ok (.iload_n 1, 1) := by decide +kernel
theorem dX5_houseOf_13 : decode cX5_houseOf 13 = .ok (.iaload, 1) := by decide +kernel
theorem dX5_houseOf_14 : decode cX5_houseOf 14 = .ok (.goto 5, 3) := by decide +kernel
theorem dX5_houseOf_17 : decode cX5_houseOf 17 = .ok (.bipush (-9), 2) := by decide +kernel
theorem dX5_houseOf_19 : decode cX5_houseOf 19 = .ok (.ireturn, 1) := by decide +kernel
theorem dX5_valueOf_0 : decode cX5_valueOf 0 = .ok (.aload_n 0, 1) := by decide +kernel
theorem dX5_valueOf_1 : decode cX5_valueOf 1 = .ok (.iload_n 1, 1) := by decide +kernel
theorem dX5_valueOf_2 : decode cX5_valueOf 2 = .ok (.invokevirtual 28, 3) := by decide +kernel
theorem dX5_valueOf_5 : decode cX5_valueOf 5 = .ok (.ifCond .eq 12, 3) := by decide +kernel
theorem dX5_valueOf_8 : decode cX5_valueOf 8 = .ok (.aload_n 0, 1) := by decide +kernel
theorem dX5_valueOf_9 : decode cX5_valueOf 9 = .ok (.getfield 25, 3) := by decide +kernel
theorem dX5_valueOf_12 : decode cX5_valueOf 12 = .ok (.iload_n 1, 1) := by decide +kernel
theorem dX5_valueOf_13 : decode cX5_valueOf 13 = .ok (.iaload, 1) := by decide +kernel
theorem dX5_valueOf_14 : decode cX5_valueOf 14 = .ok (.goto 5, 3) := by decide +kernel
theorem dX5_valueOf_17 : decode cX5_valueOf 17 = .ok (.bipush (-9), 2) := by decide +kernel
theorem dX5_valueOf_19 : decode cX5_valueOf 19 = .ok (.ireturn, 1) := by decide +kernel
theorem dX5_add_0 : decode cX5_add 0 = .ok (.aload_n 0, 1) := by decide +kernel
theorem dX5_add_1 : decode cX5_add 1 = .ok (.getfield 9, 3) := by decide +kernel
theorem dX5_add_4 : decode cX5_add 4 = .ok (.aload_n 0, 1) := by decide +kernel
theorem dX5_add_5 : decode cX5_add 5 = .ok (.getfield 21, 3) := by decide +kernel
theorem dX5_add_8 : decode cX5_add 8 = .ok (.arraylength, 1) := by decide +kernel
theorem dX5_add_9 : decode cX5_add 9 = .ok (.if_icmp .ge 45, 3) := by decide +kernel
theorem dX5_add_12 : decode cX5_add 12 = .ok (.aload_n 0, 1) := by decide +kernel
theorem dX5_add_13 : decode cX5_add 13 = .ok (.getfield 9, 3) := by decide +kernel
theorem dX5_add_16 : decode cX5_add 16 = .ok (.aload_n 0, 1) := by decide +kernel
theorem dX5_add_17 : decode cX5_add 17 = .ok (.getfield 25, 3) := by decide +kernel
theorem dX5_add_20 : decode cX5_add 20 = .ok (.arraylength, 1) := by decide +kernel
theorem dX5_add_21 : decode cX5_add 21 = .ok (.if_icmp .ge 33, 3) := by decide +kernel
theorem dX5_add_24 : decode cX5_add 24 = .ok (.aload_n 0, 1) := by decide +kernel
theorem dX5_add_25 : decode cX5_add 25 = .ok (.getfield 21, 3) := by decide +kernel
theorem dX5_add_28 : decode cX5_add 28 = .ok (.aload_n 0, 1) := by decide +kernel
theorem dX5_add_29 : decode cX5_add 29 = .ok (.getfield 9, 3) := by decide +kernel
theorem dX5_add_32 : decode cX5_add 32 = .ok (.iload_n 1, 1) := by decide +kernel
theorem dX5_add_33 : decode cX5_add 33 = .ok (.iastore, 1) := by decide +kernel
theorem dX5_add_34 : decode cX5_add 34 = .ok (.aload_n 0, 1) := by decide +kernel
theorem dX5_add_35 : decode cX5_add 35 = .ok (.getfield 25, 3) := by decide +kernel
theorem dX5_add_38 : decode cX5_add 38 = .ok (.aload_n 0, 1) := by decide +kernel
theorem dX5_add_39 : decode cX5_add 39 = .ok (.getfield 9, 3) := by decide +kernel
theorem dX5_add_42 : decode cX5_add 42 = .ok (.iload_n 2, 1) := by decide +kernel
theorem dX5_add_43 : decode cX5_add 43 = .ok (.iastore, 1) := by decide +kernel
theorem dX5_add_44 : decode cX5_add 44 = .ok (.aload_n 0, 1) := by decide +kernel
theorem dX5_add_45 : decode cX5_add 45 = .ok (.dup, 1) := by decide +kernel
theorem dX5_add_46 : decode cX5_add 46 = .ok (.getfield 9, 3) := by decide +kernel
theorem dX5_add_49 : decode cX5_add 49 = .ok (.iconst 1, 1) := by decide +kernel
theorem dX5_add_50 : decode cX5_add 50 = .ok (.iadd, 1) := by decide +kernel
theorem dX5_add_51 : decode cX5_add 51 = .ok (.putfield 9, 3) := by decide +kernel
theorem dX5_add_54 : decode cX5_add 54 = .ok (.return_, 1) := by decide +kernel
theorem dX5_cutTo_0 : decode cX5_cutTo 0 = .ok (.iload_n 1, 1) := by decide +kernel
theorem dX5_cutTo_1 : decode cX5_cutTo 1 = .ok (.ifCond .lt 16, 3) := by decide +kernel
theorem dX5_cutTo_4 : decode cX5_cutTo 4 = .ok (.iload_n 1, 1) := by decide +kernel
theorem dX5_cutTo_5 : decode cX5_cutTo 5 = .ok (.aload_n 0, 1) := by decide +kernel
theorem dX5_cutTo_6 : decode cX5_cutTo 6 = .ok (.getfield 9, 3) := by decide +kernel
theorem dX5_cutTo_9 : decode cX5_cutTo 9 = .ok (.if_icmp .ge 8, 3) := by decide +kernel
theorem dX5_cutTo_12 : decode cX5_cutTo 12 = .ok (.aload_n 0, 1) := by decide +kernel
theorem dX5_cutTo_13 : decode cX5_cutTo 13 = .ok (.iload_n 1, 1) := by decide +kernel
theorem dX5_cutTo_14 : decode cX5_cutTo 14 = .ok (.putfield 9, 3) := by decide +kernel
theorem dX5_cutTo_17 : decode cX5_cutTo 17 = .ok (.return_, 1) := by decide +kernel
theorem dX5_lastOf_0 : decode cX5_lastOf 0 = .ok (.aload_n 0, 1) := by decide +kernel
theorem dX5_lastOf_1 : decode cX5_lastOf 1 = .ok (.getfield 9, 3) := by decide +kernel
theorem dX5_lastOf_4 : decode cX5_lastOf 4 = .ok (.iconst 1, 1) := by decide +kernel
theorem dX5_lastOf_5 : decode cX5_lastOf 5 = .ok (.isub, 1) := by decide +kernel
theorem dX5_lastOf_6 : decode cX5_lastOf 6 = .ok (.istore_n 2, 1) := by decide +kernel
theorem dX5_lastOf_7 : decode cX5_lastOf 7 = .ok (.iload_n 2, 1) := by decide +kernel
theorem dX5_lastOf_8 : decode cX5_lastOf 8 = .ok (.ifCond .lt 20, 3) := by decide +kernel
theorem dX5_lastOf_11 : decode cX5_lastOf 11 = .ok (.aload_n 0, 1) := by decide +kernel
theorem dX5_lastOf_12 : decode cX5_lastOf 12 = .ok (.iload_n 2, 1) := by decide +kernel
theorem dX5_lastOf_13 : decode cX5_lastOf 13 = .ok (.invokevirtual 32, 3) := by decide +kernel
theorem dX5_lastOf_16 : decode cX5_lastOf 16 = .ok (.iload_n 1, 1) := by decide +kernel
theorem dX5_lastOf_17 : decode cX5_lastOf 17 = .ok (.if_icmp .ne 5, 3) := by decide +kernel
theorem dX5_lastOf_20 : decode cX5_lastOf 20 = .ok (.iload_n 2, 1) := by decide +kernel
theorem dX5_lastOf_21 : decode cX5_lastOf 21 = .ok (.ireturn, 1) := by decide +kernel
theorem dX5_lastOf_22 : decode cX5_lastOf 22 = .ok (.iinc 2 (-1), 3) := by decide +kernel
theorem dX5_lastOf_25 : decode cX5_lastOf 25 = .ok (.goto (-18), 3) := by decide +kernel
theorem dX5_lastOf_28 : decode cX5_lastOf 28 = .ok (.bipush (-9), 2) := by decide +kernel
theorem dX5_lastOf_30 : decode cX5_lastOf 30 = .ok (.ireturn, 1) := by decide +kernel
theorem dX5_hasValue_0 : decode cX5_hasValue 0 = .ok (.iconst 0, 1) := by decide +kernel
theorem dX5_hasValue_1 : decode cX5_hasValue 1 = .ok (.istore_n 2, 1) := by decide +kernel
theorem dX5_hasValue_2 : decode cX5_hasValue 2 = .ok (.iload_n 2, 1) := by decide +kernel
theorem dX5_hasValue_3 : decode cX5_hasValue 3 = .ok (.aload_n 0, 1) := by decide +kernel
theorem dX5_hasValue_4 : decode cX5_hasValue 4 = .ok (.getfield 9, 3) := by decide +kernel
theorem dX5_hasValue_7 : decode cX5_hasValue 7 = .ok (.if_icmp .ge 20, 3) := by decide +kernel
theorem dX5_hasValue_10 : decode cX5_hasValue 10 = .ok (.aload_n 0, 1) := by decide +kernel
theorem dX5_hasValue_11 : decode cX5_hasValue 11 = .ok (.iload_n 2, 1) := by decide +kernel
theorem dX5_hasValue_12 : decode cX5_hasValue 12 = .ok (.invokevirtual 36, 3) := by decide +kernel
theorem dX5_hasValue_15 : decode cX5_hasValue 15 = .ok (.iload_n 1, 1) := by decide +kernel
theorem dX5_hasValue_16 : decode cX5_hasValue 16 = .ok (.if_icmp .ne 5, 3) := by decide +kernel
theorem dX5_hasValue_19 : decode cX5_hasValue 19 = .ok (.iconst 1, 1) := by decide +kernel
theorem dX5_hasValue_20 : decode cX5_hasValue 20 = .ok (.ireturn, 1) := by decide +kernel
theorem dX5_hasValue_21 : decode cX5_hasValue 21 = .ok (.iinc 2 1, 3) := by decide +kernel
theorem dX5_hasValue_24 : decode cX5_hasValue 24 = .ok (.goto (-22), 3) := by decide +kernel
theorem dX5_hasValue_27 : decode cX5_hasValue 27 = .ok (.iconst 0, 1) := by decide +kernel
theorem dX5_hasValue_28 : decode cX5_hasValue 28 = .ok (.ireturn, 1) := by decide +kernel
theorem dX5_takeOut_0 : decode cX5_takeOut 0 = .ok (.aload_n 0, 1) := by decide +kernel
theorem dX5_takeOut_1 : decode cX5_takeOut 1 = .ok (.iload_n 1, 1) := by decide +kernel
theorem dX5_takeOut_2 : decode cX5_takeOut 2 = .ok (.invokevirtual 28, 3) := by decide +kernel
theorem dX5_takeOut_5 : decode cX5_takeOut 5 = .ok (.ifCond .ne 4, 3) := by decide +kernel
theorem dX5_takeOut_8 : decode cX5_takeOut 8 = .ok (.return_, 1) := by decide +kernel
theorem dX5_takeOut_9 : decode cX5_takeOut 9 = .ok (.iload_n 1, 1) := by decide +kernel
theorem dX5_takeOut_10 : decode cX5_takeOut 10 = .ok (.istore_n 2, 1) := by decide +kernel
theorem dX5_takeOut_11 : decode cX5_takeOut 11 = .ok (.iload_n 2, 1) := by decide +kernel
theorem dX5_takeOut_12 : decode cX5_takeOut 12 = .ok (.iconst 1, 1) := by decide +kernel
theorem dX5_takeOut_13 : decode cX5_takeOut 13 = .ok (.iadd, 1) := by decide +kernel
theorem dX5_takeOut_14 : decode cX5_takeOut 14 = .ok (.aload_n 0, 1) := by decide +kernel
theorem dX5_takeOut_15 : decode cX5_takeOut 15 = .ok (.getfield 9, 3) := by decide +kernel
theorem dX5_takeOut_18 : decode cX5_takeOut 18 = .ok (.if_icmp .ge 48, 3) := by decide +kernel
theorem dX5_takeOut_21 : decode cX5_takeOut 21 = .ok (.iload_n 2, 1) := by decide +kernel
theorem dX5_takeOut_22 : decode cX5_takeOut 22 = .ok (.iconst 1, 1) := by decide +kernel
theorem dX5_takeOut_23 : decode cX5_takeOut 23 = .ok (.iadd, 1) := by decide +kernel
theorem dX5_takeOut_24 : decode cX5_takeOut 24 = .ok (.aload_n 0, 1) := by decide +kernel
theorem dX5_takeOut_25 : decode cX5_takeOut 25 = .ok (.getfield 21, 3) := by decide +kernel
theorem dX5_takeOut_28 : decode cX5_takeOut 28 = .ok (.arraylength, 1) := by decide +kernel
theorem dX5_takeOut_29 : decode cX5_takeOut 29 = .ok (.if_icmp .ge 37, 3) := by decide +kernel
theorem dX5_takeOut_32 : decode cX5_takeOut 32 = .ok (.aload_n 0, 1) := by decide +kernel
theorem dX5_takeOut_33 : decode cX5_takeOut 33 = .ok (.getfield 21, 3) := by decide +kernel
theorem dX5_takeOut_36 : decode cX5_takeOut 36 = .ok (.iload_n 2, 1) := by decide +kernel
theorem dX5_takeOut_37 : decode cX5_takeOut 37 = .ok (.aload_n 0, 1) := by decide +kernel
theorem dX5_takeOut_38 : decode cX5_takeOut 38 = .ok (.getfield 21, 3) := by decide +kernel
theorem dX5_takeOut_41 : decode cX5_takeOut 41 = .ok (.iload_n 2, 1) := by decide +kernel
theorem dX5_takeOut_42 : decode cX5_takeOut 42 = .ok (.iconst 1, 1) := by decide +kernel
theorem dX5_takeOut_43 : decode cX5_takeOut 43 = .ok (.iadd, 1) := by decide +kernel
theorem dX5_takeOut_44 : decode cX5_takeOut 44 = .ok (.iaload, 1) := by decide +kernel
theorem dX5_takeOut_45 : decode cX5_takeOut 45 = .ok (.iastore, 1) := by decide +kernel
theorem dX5_takeOut_46 : decode cX5_takeOut 46 = .ok (.aload_n 0, 1) := by decide +kernel
theorem dX5_takeOut_47 : decode cX5_takeOut 47 = .ok (.getfield 25, 3) := by decide +kernel
theorem dX5_takeOut_50 : decode cX5_takeOut 50 = .ok (.iload_n 2, 1) := by decide +kernel
theorem dX5_takeOut_51 : decode cX5_takeOut 51 = .ok (.aload_n 0, 1) := by decide +kernel
theorem dX5_takeOut_52 : decode cX5_takeOut 52 = .ok (.getfield 25, 3) := by decide +kernel
theorem dX5_takeOut_55 : decode cX5_takeOut 55 = .ok (.iload_n 2, 1) := by decide +kernel
theorem dX5_takeOut_56 : decode cX5_takeOut 56 = .ok (.iconst 1, 1) := by decide +kernel
theorem dX5_takeOut_57 : decode cX5_takeOut 57 = .ok (.iadd, 1) := by decide +kernel
theorem dX5_takeOut_58 : decode cX5_takeOut 58 = .ok (.iaload, 1) := by decide +kernel
theorem dX5_takeOut_59 : decode cX5_takeOut 59 = .ok (.iastore, 1) := by decide +kernel
theorem dX5_takeOut_60 : decode cX5_takeOut 60 = .ok (.iinc 2 1, 3) := by decide +kernel
theorem dX5_takeOut_63 : decode cX5_takeOut 63 = .ok (.goto (-52), 3) := by decide +kernel
theorem dX5_takeOut_66 : decode cX5_takeOut 66 = .ok (.aload_n 0, 1) := by decide +kernel
theorem dX5_takeOut_67 : decode cX5_takeOut 67 = .ok (.dup, 1) := by decide +kernel
theorem dX5_takeOut_68 : decode cX5_takeOut 68 = .ok (.getfield 9, 3) := by decide +kernel
theorem dX5_takeOut_71 : decode cX5_takeOut 71 = .ok (.iconst 1, 1) := by decide +kernel
theorem dX5_takeOut_72 : decode cX5_takeOut 72 = .ok (.isub, 1) := by decide +kernel
theorem dX5_takeOut_73 : decode cX5_takeOut 73 = .ok (.putfield 9, 3) := by decide +kernel
theorem dX5_takeOut_76 : decode cX5_takeOut 76 = .ok (.return_, 1) := by decide +kernel
theorem dX6_init_0 : decode cX6_init 0 = .ok (.aload_n 0, 1) := by decide +kernel
theorem dX6_init_1 : decode cX6_init 1 = .ok (.invokespecial 3, 3) := by decide +kernel
theorem dX6_init_4 : decode cX6_init 4 = .ok (.aload_n 0, 1) := by decide +kernel
theorem dX6_init_5 : decode cX6_init 5 = .ok (.sipush 2304, 3) := by decide +kernel
theorem dX6_init_8 : decode cX6_init 8 = .ok (.newarray .int, 2) := by decide +kernel
theorem dX6_init_10 : decode cX6_init 10 = .ok (.putfield 11, 3) := by decide +kernel
theorem dX6_init_13 : decode cX6_init 13 = .ok (.aload_n 0, 1) := by decide +kernel
theorem dX6_init_14 : decode cX6_init 14 = .ok (.sipush 256, 3) := by decide +kernel
theorem dX6_init_17 : decode cX6_init 17 = .ok (.newarray .int, 2) := by decide +kernel
theorem dX6_init_19 : decode cX6_init 19 = .ok (.putfield 15, 3) := by decide +kernel
theorem dX6_init_22 : decode cX6_init 22 = .ok (.aload_n 0, 1) := by decide +kernel
theorem dX6_init_23 : decode cX6_init 23 = .ok (.sipush 256, 3) := by decide +kernel
theorem dX6_init_26 : decode cX6_init 26 = .ok (.newarray .int, 2) := by decide +kernel
theorem dX6_init_28 : decode cX6_init 28 = .ok (.putfield 18, 3) := by decide +kernel
theorem dX6_init_31 : decode cX6_init 31 = .ok (.aload_n 0, 1) := by decide +kernel
theorem dX6_init_32 : decode cX6_init 32 = .ok (.aload_n 1, 1) := by decide +kernel
theorem dX6_init_33 : decode cX6_init 33 = .ok (.putfield 21, 3) := by decide +kernel
theorem dX6_init_36 : decode cX6_init 36 = .ok (.return_, 1) := by decide +kernel
theorem dX6_endOf_0 : decode cX6_endOf 0 = .ok (.iload_n 1, 1) := by decide +kernel
theorem dX6_endOf_1 : decode cX6_endOf 1 = .ok (.ifCond .lt 19, 3) := by decide +kernel
theorem dX6_endOf_4 : decode cX6_endOf 4 = .ok (.iload_n 1, 1) := by decide +kernel
theorem dX6_endOf_5 : decode cX6_endOf 5 = .ok (.sipush 256, 3) := by decide +kernel
theorem dX6_endOf_8 : decode cX6_endOf 8 = .ok (.if_icmp .ge 12, 3) := by decide +kernel
theorem dX6_endOf_11 : decode cX6_endOf 11 = .ok (.aload_n 0, 1) := by decide +kernel
theorem dX6_endOf_12 : decode cX6_endOf 12 = .ok (.getfield 15, 3) := by decide +kernel
theorem dX6_endOf_15 : decode cX6_endOf 15 = .ok (.iload_n 1, 1) := by decide +kernel
theorem dX6_endOf_16 : decode cX6_endOf 16 = .ok (.iaload, 1) := by decide +kernel
theorem dX6_endOf_17 : decode cX6_endOf 17 = .ok (.goto 5, 3) := by decide +kernel
theorem dX6_endOf_20 : decode cX6_endOf 20 = .ok (.bipush (-9), 2) := by decide +kernel
theorem dX6_endOf_22 : decode cX6_endOf 22 = .ok (.ireturn, 1) := by decide +kernel
theorem dX6_reach_0 : decode cX6_reach 0 = .ok (.iconst 0, 1) := by decide +kernel
theorem dX6_reach_1 : decode cX6_reach 1 = .ok (.istore 4, 2) := by decide +kernel
theorem dX6_reach_3 : decode cX6_reach 3 = .ok (.iload 4, 2) := by decide +kernel
theorem dX6_reach_5 : decode cX6_reach 5 = .ok (.sipush 256, 3) := by decide +kernel
theorem dX6_reach_8 : decode cX6_reach 8 = .ok (.if_icmp .ge 33, 3) := by decide +kernel
theorem dX6_reach_11 : decode cX6_reach 11 = .ok (.aload_n 0, 1) := by decide +kernel
theorem dX6_reach_12 : decode cX6_reach 12 = .ok (.getfield 11, 3) := by decide +kernel
theorem dX6_reach_15 : decode cX6_reach 15 = .ok (.iload 4, 2) := by decide +kernel
theorem dX6_reach_17 : decode cX6_reach 17 = .ok (.bipush 9, 2) := by decide +kernel
theorem dX6_reach_19 : decode cX6_reach 19 = .ok (.imul, 1) := by decide +kernel
theorem dX6_reach_20 : decode cX6_reach 20 = .ok (.bipush 8, 2) := by decide +kernel
theorem dX6_reach_22 : decode cX6_reach 22 = .ok (.iadd, 1) := by decide +kernel
theorem dX6_reach_23 : decode cX6_reach 23 = .ok (.iload 4, 2) := by decide +kernel
theorem dX6_reach_25 : decode cX6_reach 25 = .ok (.ifCond .ne 7, 3) := by decide +kernel
theorem dX6_reach_28 : decode cX6_reach 28 = .ok (.iload_n 3, 1) := by decide +kernel
theorem dX6_reach_29 : decode cX6_reach 29 = .ok (.goto 5, 3) := by decide +kernel
theorem dX6_reach_32 : decode cX6_reach 32 = .ok (.bipush (-9), 2) := by decide +kernel
theorem dX6_reach_34 : decode cX6_reach 34 = .ok (.iastore, 1) := by decide +kernel
theorem dX6_reach_35 : decode cX6_reach 35 = .ok (.iinc 4 1, 3) := by decide +kernel
theorem dX6_reach_38 : decode cX6_reach 38 = .ok (.goto (-35), 3) := by decide +kernel
theorem dX6_reach_41 : decode cX6_reach 41 = .ok (.aload_n 0, 1) := by decide +kernel
theorem dX6_reach_42 : decode cX6_reach 42 = .ok (.iload_n 1, 1) := by decide +kernel
theorem dX6_reach_43 : decode cX6_reach 43 = .ok (.iload_n 2, 1) := by decide +kernel
theorem dX6_reach_44 : decode cX6_reach 44 = .ok (.invokevirtual 25, 3) := by decide +kernel
theorem dX6_reach_47 : decode cX6_reach 47 = .ok (.return_, 1) := by decide +kernel
theorem dX6_spread_0 : decode cX6_spread 0 = .ok (.iconst 0, 1) := by decide +kernel
theorem dX6_spread_1 : decode cX6_spread 1 = .ok (.istore_n 3, 1) := by decide +kernel
theorem dX6_spread_2 : decode cX6_spread 2 = .ok (.iload_n 3, 1) := by decide +kernel
theorem dX6_spread_3 : decode cX6_spread 3 = .ok (.sipush 256, 3) := by decide +kernel
theorem dX6_spread_6 : decode cX6_spread 6 = .ok (.if_icmp .ge 132, 3) := by decide +kernel
theorem dX6_spread_9 : decode cX6_spread 9 = .ok (.iload_n 3, 1) := by decide +kernel
theorem dX6_spread_10 : decode cX6_spread 10 = .ok (.iload_n 1, 1) := by decide +kernel
theorem dX6_spread_11 : decode cX6_spread 11 = .ok (.iconst (-1), 1) := by decide +kernel
theorem dX6_spread_12 : decode cX6_spread 12 = .ok (.ixor, 1) := by decide +kernel
theorem dX6_spread_13 : decode cX6_spread 13 = .ok (.iand, 1) := by decide +kernel
theorem dX6_spread_14 : decode cX6_spread 14 = .ok (.ifCond .ne 7, 3) := by decide +kernel
theorem dX6_spread_17 : decode cX6_spread 17 = .ok (.iconst 1, 1) := by decide +kernel
theorem dX6_spread_18 : decode cX6_spread 18 = .ok (.goto 4, 3) := by decide +kernel
theorem dX6_spread_21 : decode cX6_spread 21 = .ok (.iconst 0, 1) := by decide +kernel
theorem dX6_spread_22 : decode cX6_spread 22 = .ok (.istore 4, 2) := by decide +kernel
theorem dX6_spread_24 : decode cX6_spread 24 = .ok (.iload 4, 2) := by decide +kernel
theorem dX6_spread_26 : decode cX6_spread 26 = .ok (.ifCond .eq 18, 3) := by decide +kernel
theorem dX6_spread_29 : decode cX6_spread 29 = .ok (.aload_n 0, 1) := by decide +kernel
theorem dX6_spread_30 : decode cX6_spread 30 = .ok (.getfield 11, 3) := by decide +kernel
theorem dX6_spread_33 : decode cX6_spread 33 = .ok (.iload_n 3, 1) := by decide +kernel
theorem dX6_spread_34 : decode cX6_spread 34 = .ok (.bipush 9, 2) := by decide +kernel
theorem dX6_spread_36 : decode cX6_spread 36 = .ok (.imul, 1) := by decide +kernel
theorem dX6_spread_37 : decode cX6_spread 37 = .ok (.bipush 8, 2) := by decide +kernel
theorem dX6_spread_39 : decode cX6_spread 39 = .ok (.iadd, 1) := by decide +kernel
theorem dX6_spread_40 : decode cX6_spread 40 = .ok (.iaload, 1) := by decide +kernel
theorem dX6_spread_41 : decode cX6_spread 41 = .ok (.goto 5, 3) := by decide +kernel
theorem dX6_spread_44 : decode cX6_spread 44 = .ok (.bipush (-9), 2) := by decide +kernel
theorem dX6_spread_46 : decode cX6_spread 46 = .ok (.istore 5, 2) := by decide +kernel
theorem dX6_spread_48 : decode cX6_spread 48 = .ok (.iconst 0, 1) := by decide +kernel
theorem dX6_spread_49 : decode cX6_spread 49 = .ok (.istore 6, 2) := by decide +kernel
theorem dX6_spread_51 : decode cX6_spread 51 = .ok (.iload 6, 2) := by decide +kernel
theorem dX6_spread_53 : decode cX6_spread 53 = .ok (.bipush 8, 2) := by decide +kernel
theorem dX6_spread_55 : decode cX6_spread 55 = .ok (.if_icmp .ge 69, 3) := by decide +kernel
theorem dX6_spread_58 : decode cX6_spread 58 = .ok (.iload 4, 2) := by decide +kernel
theorem dX6_spread_60 : decode cX6_spread 60 = .ok (.ifCond .eq 64, 3) := by decide +kernel
theorem dX6_spread_63 : decode cX6_spread 63 = .ok (.iload 6, 2) := by decide +kernel
theorem dX6_spread_65 : decode cX6_spread 65 = .ok (.iload_n 3, 1) := by decide +kernel
theorem dX6_spread_66 : decode cX6_spread 66 = .ok (.invokestatic 29, 3) := by decide +kernel
theorem dX6_spread_69 : decode cX6_spread 69 = .ok (.ifCond .eq 22, 3) := by decide +kernel
theorem dX6_spread_72 : decode cX6_spread 72 = .ok (.aload_n 0, 1) := by decide +kernel
theorem dX6_spread_73 : decode cX6_spread 73 = .ok (.iload_n 3, 1) := by decide +kernel
theorem dX6_spread_74 : decode cX6_spread 74 = .ok (.iload 6, 2) := by decide +kernel
theorem dX6_spread_76 : decode cX6_spread 76 = .ok (.invokestatic 33, 3) := by decide +kernel
theorem dX6_spread_79 : decode cX6_spread 79 = .ok (.iconst (-1), 1) := by decide +kernel
theorem dX6_spread_80 : decode cX6_spread 80 = .ok (.ixor, 1) := by decide +kernel
theorem dX6_spread_81 : decode cX6_spread 81 = .ok (.iand, 1) := by decide +kernel
theorem dX6_spread_82 : decode cX6_spread 82 = .ok (.iload 6, 2) := by decide +kernel
theorem dX6_spread_84 : decode cX6_spread 84 = .ok (.iload_n 2, 1) := by decide +kernel
theorem dX6_spread_85 : decode cX6_spread 85 = .ok (.invokevirtual 37, 3) := by decide +kernel
theorem dX6_spread_88 : decode cX6_spread 88 = .ok (.goto 5, 3) := by decide +kernel
theorem dX6_spread_91 : decode cX6_spread 91 = .ok (.bipush (-9), 2) := by decide +kernel
theorem dX6_spread_93 : decode cX6_spread 93 = .ok (.istore 7, 2) := by decide +kernel
theorem dX6_spread_95 : decode cX6_spread 95 = .ok (.aload_n 0, 1) := by decide +kernel
theorem dX6_spread_96 : decode cX6_spread 96 = .ok (.getfield 11, 3) := by decide +kernel
theorem dX6_spread_99 : decode cX6_spread 99 = .ok (.iload_n 3, 1) := by decide +kernel
theorem dX6_spread_100 : decode cX6_spread 100 = .ok (.bipush 9, 2) := by decide +kernel
theorem dX6_spread_102 : decode cX6_spread 102 = .ok (.imul, 1) := by decide +kernel
theorem dX6_spread_103 : decode cX6_spread 103 = .ok (.iload 6, 2) := by decide +kernel
theorem dX6_spread_105 : decode cX6_spread 105 = .ok (.iadd, 1) := by decide +kernel
theorem dX6_spread_106 : decode cX6_spread 106 = .ok (.iload 7, 2) := by decide +kernel
theorem dX6_spread_108 : decode cX6_spread 108 = .ok (.iastore, 1) := by decide +kernel
theorem dX6_spread_109 : decode cX6_spread 109 = .ok (.iload 5, 2) := by decide +kernel
theorem dX6_spread_111 : decode cX6_spread 111 = .ok (.iload 7, 2) := by decide +kernel
theorem dX6_spread_113 : decode cX6_spread 113 = .ok (.invokestatic 41, 3) := by decide +kernel
theorem dX6_spread_116 : decode cX6_spread 116 = .ok (.istore 5, 2) := by decide +kernel
theorem dX6_spread_118 : decode cX6_spread 118 = .ok (.iinc 6 1, 3) := by decide +kernel
theorem dX6_spread_121 : decode cX6_spread 121 = .ok (.goto (-70), 3) := by decide +kernel
theorem dX6_spread_124 : decode cX6_spread 124 = .ok (.aload_n 0, 1) := by decide +kernel
theorem dX6_spread_125 : decode cX6_spread 125 = .ok (.getfield 15, 3) := by decide +kernel
theorem dX6_spread_128 : decode cX6_spread 128 = .ok (.iload_n 3, 1) := by decide +kernel
theorem dX6_spread_129 : decode cX6_spread 129 = .ok (.iload 5, 2) := by decide +kernel
theorem dX6_spread_131 : decode cX6_spread 131 = .ok (.iastore, 1) := by decide +kernel
theorem dX6_spread_132 : decode cX6_spread 132 = .ok (.iinc 3 1, 3) := by decide +kernel
theorem dX6_spread_135 : decode cX6_spread 135 = .ok (.goto (-133), 3) := by decide +kernel
theorem dX6_spread_138 : decode cX6_spread 138 = .ok (.return_, 1) := by decide +kernel
theorem dX6_leastEnding_0 : decode cX6_leastEnding 0 = .ok (.bipush (-9), 2) := by decide +kernel
theorem dX6_leastEnding_2 : decode cX6_leastEnding 2 = .ok (.istore 4, 2) := by decide +kernel
theorem dX6_leastEnding_4 : decode cX6_leastEnding 4 = .ok (.iload_n 1, 1) := by decide +kernel
theorem dX6_leastEnding_5 : decode cX6_leastEnding 5 = .ok (.ifCond .lt 14, 3) := by decide +kernel
theorem dX6_leastEnding_8 : decode cX6_leastEnding 8 = .ok (.iload_n 1, 1) := by decide +kernel
theorem dX6_leastEnding_9 : decode cX6_leastEnding 9 = .ok (.sipush 256, 3) := by decide +kernel
theorem dX6_leastEnding_12 : decode cX6_leastEnding 12 = .ok (.if_icmp .ge 7, 3) := by decide +kernel
theorem dX6_leastEnding_15 : decode cX6_leastEnding 15 = .ok (.iconst 1, 1) := by decide +kernel
theorem dX6_leastEnding_16 : decode cX6_leastEnding 16 = .ok (.goto 4, 3) := by decide +kernel
theorem dX6_leastEnding_19 : decode cX6_leastEnding 19 = .ok (.iconst 0, 1) := by decide +kernel
theorem dX6_leastEnding_20 : decode cX6_leastEnding 20 = .ok (.istore 5, 2) := by decide +kernel
theorem dX6_leastEnding_22 : decode cX6_leastEnding 22 = .ok (.iconst 0, 1) := by decide +kernel
theorem dX6_leastEnding_23 : decode cX6_leastEnding 23 = .ok (.istore 6, 2) := by decide +kernel
theorem dX6_leastEnding_25 : decode cX6_leastEnding 25 = .ok (.iload 6, 2) := by decide +kernel
theorem dX6_leastEnding_27 : decode cX6_leastEnding 27 = .ok (.bipush 9, 2) := by decide +kernel
theorem dX6_leastEnding_29 : decode cX6_leastEnding 29 = .ok (.if_icmp .ge 76, 3) := by decide +kernel
theorem dX6_leastEnding_32 : decode cX6_leastEnding 32 = .ok (.iload 5, 2) := by decide +kernel
theorem dX6_leastEnding_34 : decode cX6_leastEnding 34 = .ok (.ifCond .eq 71, 3) := by decide +kernel
theorem dX6_leastEnding_37 : decode cX6_leastEnding 37 = .ok (.aload_n 0, 1) := by decide +kernel
theorem dX6_leastEnding_38 : decode cX6_leastEnding 38 = .ok (.getfield 11, 3) := by decide +kernel
theorem dX6_leastEnding_41 : decode cX6_leastEnding 41 = .ok (.iload_n 1, 1) := by decide +kernel
theorem dX6_leastEnding_42 : decode cX6_leastEnding 42 = .ok (.bipush 9, 2) := by decide +kernel
theorem dX6_leastEnding_44 : decode cX6_leastEnding 44 = .ok (.imul, 1) := by decide +kernel
theorem dX6_leastEnding_45 : decode cX6_leastEnding 45 = .ok (.iload 6, 2) := by decide +kernel
theorem dX6_leastEnding_47 : decode cX6_leastEnding 47 = .ok (.iadd, 1) := by decide +kernel
theorem dX6_leastEnding_48 : decode cX6_leastEnding 48 = .ok (.iaload, 1) := by decide +kernel
theorem dX6_leastEnding_49 : decode cX6_leastEnding 49 = .ok (.istore 7, 2) := by decide +kernel
theorem dX6_leastEnding_51 : decode cX6_leastEnding 51 = .ok (.iload 6, 2) := by decide +kernel
theorem dX6_leastEnding_53 : decode cX6_leastEnding 53 = .ok (.bipush 8, 2) := by decide +kernel
theorem dX6_leastEnding_55 : decode cX6_leastEnding 55 = .ok (.if_icmp .ne 7, 3) := by decide +kernel
theorem dX6_leastEnding_58 : decode cX6_leastEnding 58 = .ok (.iload_n 3, 1) := by decide +kernel
theorem dX6_leastEnding_59 : decode cX6_leastEnding 59 = .ok (.goto 12, 3) := by decide +kernel
theorem dX6_leastEnding_62 : decode cX6_leastEnding 62 = .ok (.aload_n 0, 1) := by decide +kernel
theorem dX6_leastEnding_63 : decode cX6_leastEnding 63 = .ok (.getfield 21, 3) := by decide +kernel
theorem dX6_leastEnding_66 : decode cX6_leastEnding 66 = .ok (.iload 6, 2) := by decide +kernel
theorem dX6_leastEnding_68 : decode cX6_leastEnding 68 = .ok (.invokevirtual 45, 3) := by decide +kernel
theorem dX6_leastEnding_71 : decode cX6_leastEnding 71 = .ok (.istore 8, 2) := by decide +kernel
theorem dX6_leastEnding_73 : decode cX6_leastEnding 73 = .ok (.iload 7, 2) := by decide +kernel
theorem dX6_leastEnding_75 : decode cX6_leastEnding 75 = .ok (.bipush (-9), 2) := by decide +kernel
theorem dX6_leastEnding_77 : decode cX6_leastEnding 77 = .ok (.if_icmp .eq 22, 3) := by decide +kernel
theorem dX6_leastEnding_80 : decode cX6_leastEnding 80 = .ok (.iload 4, 2) := by decide +kernel
theorem dX6_leastEnding_82 : decode cX6_leastEnding 82 = .ok (.aload_n 0, 1) := by decide +kernel
theorem dX6_leastEnding_83 : decode cX6_leastEnding 83 = .ok (.getfield 21, 3) := by decide +kernel
theorem dX6_leastEnding_86 : decode cX6_leastEnding 86 = .ok (.iload_n 2, 1) := by decide +kernel
theorem dX6_leastEnding_87 : decode cX6_leastEnding 87 = .ok (.iload 8, 2) := by decide +kernel
theorem dX6_leastEnding_89 : decode cX6_leastEnding 89 = .ok (.iload 7, 2) := by decide +kernel
theorem dX6_leastEnding_91 : decode cX6_leastEnding 91 = .ok (.invokevirtual 50, 3) := by decide +kernel
theorem dX6_leastEnding_94 : decode cX6_leastEnding 94 = .ok (.invokestatic 41, 3) := by decide +kernel
theorem dX6_leastEnding_97 : decode cX6_leastEnding 97 = .ok (.istore 4, 2) := by decide +kernel
theorem dX6_leastEnding_99 : decode cX6_leastEnding 99 = .ok (.iinc 6 1, 3) := by decide +kernel
theorem dX6_leastEnding_102 : decode cX6_leastEnding 102 = .ok (.goto (-77), 3) := by decide +kernel
theorem dX6_leastEnding_105 : decode cX6_leastEnding 105 = .ok (.iload 4, 2) := by decide +kernel
theorem dX6_leastEnding_107 : decode cX6_leastEnding 107 = .ok (.ireturn, 1) := by decide +kernel
theorem dX6_lesserEnd_0 : decode cX6_lesserEnd 0 = .ok (.iload_n 0, 1) := by decide +kernel
theorem dX6_lesserEnd_1 : decode cX6_lesserEnd 1 = .ok (.bipush (-9), 2) := by decide +kernel
theorem dX6_lesserEnd_3 : decode cX6_lesserEnd 3 = .ok (.if_icmp .eq 9, 3) := by decide +kernel
theorem dX6_lesserEnd_6 : decode cX6_lesserEnd 6 = .ok (.iload_n 1, 1) := by decide +kernel
theorem dX6_lesserEnd_7 : decode cX6_lesserEnd 7 = .ok (.bipush (-9), 2) := by decide +kernel
theorem dX6_lesserEnd_9 : decode cX6_lesserEnd 9 = .ok (.if_icmp .ne 15, 3) := by decide +kernel
theorem dX6_lesserEnd_12 : decode cX6_lesserEnd 12 = .ok (.iload_n 0, 1) := by decide +kernel
theorem dX6_lesserEnd_13 : decode cX6_lesserEnd 13 = .ok (.bipush (-9), 2) := by decide +kernel
theorem dX6_lesserEnd_15 : decode cX6_lesserEnd 15 = .ok (.if_icmp .ne 7, 3) := by decide +kernel
theorem dX6_lesserEnd_18 : decode cX6_lesserEnd 18 = .ok (.iload_n 1, 1) := by decide +kernel
theorem dX6_lesserEnd_19 : decode cX6_lesserEnd 19 = .ok (.goto 4, 3) := by decide +kernel
theorem dX6_lesserEnd_22 : decode cX6_lesserEnd 22 = .ok (.iload_n 0, 1) := by decide +kernel
theorem dX6_lesserEnd_23 : decode cX6_lesserEnd 23 = .ok (.ireturn, 1) := by decide +kernel
theorem dX6_lesserEnd_24 : decode cX6_lesserEnd 24 = .ok (.iload_n 0, 1) := by decide +kernel
theorem dX6_lesserEnd_25 : decode cX6_lesserEnd 25 = .ok (.iload_n 1, 1) := by decide +kernel
theorem dX6_lesserEnd_26 : decode cX6_lesserEnd 26 = .ok (.if_icmp .ge 7, 3) := by decide +kernel
theorem dX6_lesserEnd_29 : decode cX6_lesserEnd 29 = .ok (.iload_n 0, 1) := by decide +kernel
theorem dX6_lesserEnd_30 : decode cX6_lesserEnd 30 = .ok (.goto 4, 3) := by decide +kernel
theorem dX6_lesserEnd_33 : decode cX6_lesserEnd 33 = .ok (.iload_n 1, 1) := by decide +kernel
theorem dX6_lesserEnd_34 : decode cX6_lesserEnd 34 = .ok (.ireturn, 1) := by decide +kernel
theorem dX6_bestPlan_0 : decode cX6_bestPlan 0 = .ok (.bipush (-9), 2) := by decide +kernel
theorem dX6_bestPlan_2 : decode cX6_bestPlan 2 = .ok (.istore_n 3, 1) := by decide +kernel
theorem dX6_bestPlan_3 : decode cX6_bestPlan 3 = .ok (.bipush (-9), 2) := by decide +kernel
theorem dX6_bestPlan_5 : decode cX6_bestPlan 5 = .ok (.istore 4, 2) := by decide +kernel
theorem dX6_bestPlan_7 : decode cX6_bestPlan 7 = .ok (.iconst 0, 1) := by decide +kernel
theorem dX6_bestPlan_8 : decode cX6_bestPlan 8 = .ok (.istore 5, 2) := by decide +kernel
theorem dX6_bestPlan_10 : decode cX6_bestPlan 10 = .ok (.iload 5, 2) := by decide +kernel
theorem dX6_bestPlan_12 : decode cX6_bestPlan 12 = .ok (.sipush 256, 3) := by decide +kernel
theorem dX6_bestPlan_15 : decode cX6_bestPlan 15 = .ok (.if_icmp .ge 79, 3) := by decide +kernel
theorem dX6_bestPlan_18 : decode cX6_bestPlan 18 = .ok (.iload 5, 2) := by decide +kernel
theorem dX6_bestPlan_20 : decode cX6_bestPlan 20 = .ok (.iload_n 1, 1) := by decide +kernel
theorem dX6_bestPlan_21 : decode cX6_bestPlan 21 = .ok (.iconst (-1), 1) := by decide +kernel
theorem dX6_bestPlan_22 : decode cX6_bestPlan 22 = .ok (.ixor, 1) := by decide +kernel
theorem dX6_bestPlan_23 : decode cX6_bestPlan 23 = .ok (.iand, 1) := by decide +kernel
theorem dX6_bestPlan_24 : decode cX6_bestPlan 24 = .ok (.ifCond .ne 28, 3) := by decide +kernel
theorem dX6_bestPlan_27 : decode cX6_bestPlan 27 = .ok (.iload_n 2, 1) := by decide +kernel
theorem dX6_bestPlan_28 : decode cX6_bestPlan 28 = .ok (.iload 5, 2) := by decide +kernel
theorem dX6_bestPlan_30 : decode cX6_bestPlan 30 = .ok (.iconst (-1), 1) := by decide +kernel
theorem dX6_bestPlan_31 : decode cX6_bestPlan 31 = .ok (.ixor, 1) := by decide +kernel
theorem dX6_bestPlan_32 : decode cX6_bestPlan 32 = .ok (.iand, 1) := by decide +kernel
theorem dX6_bestPlan_33 : decode cX6_bestPlan 33 = .ok (.ifCond .ne 19, 3) := by decide +kernel
theorem dX6_bestPlan_36 : decode cX6_bestPlan 36 = .ok (.aload_n 0, 1) := by decide +kernel
theorem dX6_bestPlan_37 : decode cX6_bestPlan 37 = .ok (.getfield 15, 3) := by decide +kernel
theorem dX6_bestPlan_40 : decode cX6_bestPlan 40 = .ok (.iload 5, 2) := by decide +kernel
theorem dX6_bestPlan_42 : decode cX6_bestPlan 42 = .ok (.iaload, 1) := by decide +kernel
theorem dX6_bestPlan_43 : decode cX6_bestPlan 43 = .ok (.bipush (-9), 2) := by decide +kernel
theorem dX6_bestPlan_45 : decode cX6_bestPlan 45 = .ok (.if_icmp .eq 7, 3) := by decide +kernel
theorem dX6_bestPlan_48 : decode cX6_bestPlan 48 = .ok (.iconst 1, 1) := by decide +kernel
theorem dX6_bestPlan_49 : decode cX6_bestPlan 49 = .ok (.goto 4, 3) := by decide +kernel
theorem dX6_bestPlan_52 : decode cX6_bestPlan 52 = .ok (.iconst 0, 1) := by decide +kernel
theorem dX6_bestPlan_53 : decode cX6_bestPlan 53 = .ok (.istore 6, 2) := by decide +kernel
theorem dX6_bestPlan_55 : decode cX6_bestPlan 55 = .ok (.iload 6, 2) := by decide +kernel
theorem dX6_bestPlan_57 : decode cX6_bestPlan 57 = .ok (.ifCond .eq 31, 3) := by decide +kernel
theorem dX6_bestPlan_60 : decode cX6_bestPlan 60 = .ok (.aload_n 0, 1) := by decide +kernel
theorem dX6_bestPlan_61 : decode cX6_bestPlan 61 = .ok (.getfield 21, 3) := by decide +kernel
theorem dX6_bestPlan_64 : decode cX6_bestPlan 64 = .ok (.iload 5, 2) := by decide +kernel
theorem dX6_bestPlan_66 : decode cX6_bestPlan 66 = .ok (.invokevirtual 53, 3) := by decide +kernel
theorem dX6_bestPlan_69 : decode cX6_bestPlan 69 = .ok (.iload 4, 2) := by decide +kernel
theorem dX6_bestPlan_71 : decode cX6_bestPlan 71 = .ok (.if_icmp .le 17, 3) := by decide +kernel
theorem dX6_bestPlan_74 : decode cX6_bestPlan 74 = .ok (.iload 5, 2) := by decide +kernel
theorem dX6_bestPlan_76 : decode cX6_bestPlan 76 = .ok (.istore_n 3, 1) := by decide +kernel
theorem dX6_bestPlan_77 : decode cX6_bestPlan 77 = .ok (.aload_n 0, 1) := by decide +kernel
theorem dX6_bestPlan_78 : decode cX6_bestPlan 78 = .ok (.getfield 21, 3) := by decide +kernel
theorem dX6_bestPlan_81 : decode cX6_bestPlan 81 = .ok (.iload 5, 2) := by decide +kernel
theorem dX6_bestPlan_83 : decode cX6_bestPlan 83 = .ok (.invokevirtual 53, 3) := by decide +kernel
theorem dX6_bestPlan_86 : decode cX6_bestPlan 86 = .ok (.istore 4, 2) := by decide +kernel
theorem dX6_bestPlan_88 : decode cX6_bestPlan 88 = .ok (.iinc 5 1, 3) := by decide +kernel
theorem dX6_bestPlan_91 : decode cX6_bestPlan 91 = .ok (.goto (-81), 3) := by decide +kernel
theorem dX6_bestPlan_94 : decode cX6_bestPlan 94 = .ok (.iload_n 3, 1) := by decide +kernel
theorem dX6_bestPlan_95 : decode cX6_bestPlan 95 = .ok (.ireturn, 1) := by decide +kernel
theorem dX6_setAside_0 : decode cX6_setAside 0 = .ok (.aload_n 0, 1) := by decide +kernel
theorem dX6_setAside_1 : decode cX6_setAside 1 = .ok (.getfield 15, 3) := by decide +kernel
theorem dX6_setAside_4 : decode cX6_setAside 4 = .ok (.iconst 0, 1) := by decide +kernel
theorem dX6_setAside_5 : decode cX6_setAside 5 = .ok (.aload_n 0, 1) := by decide +kernel
theorem dX6_setAside_6 : decode cX6_setAside 6 = .ok (.getfield 18, 3) := by decide +kernel
theorem dX6_setAside_9 : decode cX6_setAside 9 = .ok (.iconst 0, 1) := by decide +kernel
theorem dX6_setAside_10 : decode cX6_setAside 10 = .ok (.sipush 256, 3) := by decide +kernel
theorem dX6_setAside_13 : decode cX6_setAside 13 = .ok (.invokestatic 56, 3) := by decide +kernel
theorem dX6_setAside_16 : decode cX6_setAside 16 = .ok (.return_, 1) := by decide +kernel
theorem dX6_mostByTwo_0 : decode cX6_mostByTwo 0 = .ok (.bipush (-9), 2) := by decide +kernel
theorem dX6_mostByTwo_2 : decode cX6_mostByTwo 2 = .ok (.istore_n 3, 1) := by decide +kernel
theorem dX6_mostByTwo_3 : decode cX6_mostByTwo 3 = .ok (.iconst 0, 1) := by decide +kernel
theorem dX6_mostByTwo_4 : decode cX6_mostByTwo 4 = .ok (.istore 4, 2) := by decide +kernel
theorem dX6_mostByTwo_6 : decode cX6_mostByTwo 6 = .ok (.iload 4, 2) := by decide +kernel
theorem dX6_mostByTwo_8 : decode cX6_mostByTwo 8 = .ok (.iload_n 1, 1) := by decide +kernel
theorem dX6_mostByTwo_9 : decode cX6_mostByTwo 9 = .ok (.if_icmp .gt 125, 3) := by decide +kernel
theorem dX6_mostByTwo_12 : decode cX6_mostByTwo 12 = .ok (.iload 4, 2) := by decide +kernel
theorem dX6_mostByTwo_14 : decode cX6_mostByTwo 14 = .ok (.sipush 256, 3) := by decide +kernel
theorem dX6_mostByTwo_17 : decode cX6_mostByTwo 17 = .ok (.if_icmp .ge 117, 3) := by decide +kernel
theorem dX6_mostByTwo_20 : decode cX6_mostByTwo 20 = .ok (.aload_n 0, 1) := by decide +kernel
theorem dX6_mostByTwo_21 : decode cX6_mostByTwo 21 = .ok (.getfield 15, 3) := by decide +kernel
theorem dX6_mostByTwo_24 : decode cX6_mostByTwo 24 = .ok (.iload 4, 2) := by decide +kernel
theorem dX6_mostByTwo_26 : decode cX6_mostByTwo 26 = .ok (.iaload, 1) := by decide +kernel
theorem dX6_mostByTwo_27 : decode cX6_mostByTwo 27 = .ok (.bipush (-9), 2) := by decide +kernel
theorem dX6_mostByTwo_29 : decode cX6_mostByTwo 29 = .ok (.if_icmp .eq 7, 3) := by decide +kernel
theorem dX6_mostByTwo_32 : decode cX6_mostByTwo 32 = .ok (.iconst 1, 1) := by decide +kernel
theorem dX6_mostByTwo_33 : decode cX6_mostByTwo 33 = .ok (.goto 4, 3) := by decide +kernel
theorem dX6_mostByTwo_36 : decode cX6_mostByTwo 36 = .ok (.iconst 0, 1) := by decide +kernel
theorem dX6_mostByTwo_37 : decode cX6_mostByTwo 37 = .ok (.istore 5, 2) := by decide +kernel
theorem dX6_mostByTwo_39 : decode cX6_mostByTwo 39 = .ok (.iconst 0, 1) := by decide +kernel
theorem dX6_mostByTwo_40 : decode cX6_mostByTwo 40 = .ok (.istore 6, 2) := by decide +kernel
theorem dX6_mostByTwo_42 : decode cX6_mostByTwo 42 = .ok (.iload 6, 2) := by decide +kernel
theorem dX6_mostByTwo_44 : decode cX6_mostByTwo 44 = .ok (.iload_n 1, 1) := by decide +kernel
theorem dX6_mostByTwo_45 : decode cX6_mostByTwo 45 = .ok (.if_icmp .gt 83, 3) := by decide +kernel
theorem dX6_mostByTwo_48 : decode cX6_mostByTwo 48 = .ok (.iload 6, 2) := by decide +kernel
theorem dX6_mostByTwo_50 : decode cX6_mostByTwo 50 = .ok (.sipush 256, 3) := by decide +kernel
theorem dX6_mostByTwo_53 : decode cX6_mostByTwo 53 = .ok (.if_icmp .ge 75, 3) := by decide +kernel
theorem dX6_mostByTwo_56 : decode cX6_mostByTwo 56 = .ok (.iload 5, 2) := by decide +kernel
theorem dX6_mostByTwo_58 : decode cX6_mostByTwo 58 = .ok (.ifCond .eq 70, 3) := by decide +kernel
theorem dX6_mostByTwo_61 : decode cX6_mostByTwo 61 = .ok (.iload 4, 2) := by decide +kernel
theorem dX6_mostByTwo_63 : decode cX6_mostByTwo 63 = .ok (.iload 6, 2) := by decide +kernel
theorem dX6_mostByTwo_65 : decode cX6_mostByTwo 65 = .ok (.iand, 1) := by decide +kernel
theorem dX6_mostByTwo_66 : decode cX6_mostByTwo 66 = .ok (.ifCond .ne 19, 3) := by decide +kernel
theorem dX6_mostByTwo_69 : decode cX6_mostByTwo 69 = .ok (.iload_n 2, 1) := by decide +kernel
theorem dX6_mostByTwo_70 : decode cX6_mostByTwo 70 = .ok (.iload 4, 2) := by decide +kernel
theorem dX6_mostByTwo_72 : decode cX6_mostByTwo 72 = .ok (.iload 6, 2) := by decide +kernel
theorem dX6_mostByTwo_74 : decode cX6_mostByTwo 74 = .ok (.ior, 1) := by decide +kernel
theorem dX6_mostByTwo_75 : decode cX6_mostByTwo 75 = .ok (.iconst (-1), 1) := by decide +kernel
theorem dX6_mostByTwo_76 : decode cX6_mostByTwo 76 = .ok (.ixor, 1) := by decide +kernel
theorem dX6_mostByTwo_77 : decode cX6_mostByTwo 77 = .ok (.iand, 1) := by decide +kernel
theorem dX6_mostByTwo_78 : decode cX6_mostByTwo 78 = .ok (.ifCond .ne 7, 3) := by decide +kernel
theorem dX6_mostByTwo_81 : decode cX6_mostByTwo 81 = .ok (.iconst 1, 1) := by decide +kernel
theorem dX6_mostByTwo_82 : decode cX6_mostByTwo 82 = .ok (.goto 4, 3) := by decide +kernel
theorem dX6_mostByTwo_85 : decode cX6_mostByTwo 85 = .ok (.iconst 0, 1) := by decide +kernel
theorem dX6_mostByTwo_86 : decode cX6_mostByTwo 86 = .ok (.istore 7, 2) := by decide +kernel
theorem dX6_mostByTwo_88 : decode cX6_mostByTwo 88 = .ok (.iload 7, 2) := by decide +kernel
theorem dX6_mostByTwo_90 : decode cX6_mostByTwo 90 = .ok (.ifCond .eq 32, 3) := by decide +kernel
theorem dX6_mostByTwo_93 : decode cX6_mostByTwo 93 = .ok (.aload_n 0, 1) := by decide +kernel
theorem dX6_mostByTwo_94 : decode cX6_mostByTwo 94 = .ok (.getfield 18, 3) := by decide +kernel
theorem dX6_mostByTwo_97 : decode cX6_mostByTwo 97 = .ok (.iload 6, 2) := by decide +kernel
theorem dX6_mostByTwo_99 : decode cX6_mostByTwo 99 = .ok (.iaload, 1) := by decide +kernel
theorem dX6_mostByTwo_100 : decode cX6_mostByTwo 100 = .ok (.bipush (-9), 2) := by decide +kernel
theorem dX6_mostByTwo_102 : decode cX6_mostByTwo 102 = .ok (.if_icmp .eq 20, 3) := by decide +kernel
theorem dX6_mostByTwo_105 : decode cX6_mostByTwo 105 = .ok (.iload_n 3, 1) := by decide +kernel
theorem dX6_mostByTwo_106 : decode cX6_mostByTwo 106 = .ok (.aload_n 0, 1) := by decide +kernel
theorem dX6_mostByTwo_107 : decode cX6_mostByTwo 107 = .ok (.getfield 21, 3) := by decide +kernel
theorem dX6_mostByTwo_110 : decode cX6_mostByTwo 110 = .ok (.iload 4, 2) := by decide +kernel
theorem dX6_mostByTwo_112 : decode cX6_mostByTwo 112 = .ok (.iload 6, 2) := by decide +kernel
theorem dX6_mostByTwo_114 : decode cX6_mostByTwo 114 = .ok (.ior, 1) := by decide +kernel
theorem dX6_mostByTwo_115 : decode cX6_mostByTwo 115 = .ok (.invokevirtual 53, 3) := by decide +kernel
theorem dX6_mostByTwo_118 : decode cX6_mostByTwo 118 = .ok (.invokestatic 62, 3) := by decide +kernel
theorem dX6_mostByTwo_121 : decode cX6_mostByTwo 121 = .ok (.istore_n 3, 1) := by decide +kernel
theorem dX6_mostByTwo_122 : decode cX6_mostByTwo 122 = .ok (.iinc 6 1, 3) := by decide +kernel
theorem dX6_mostByTwo_125 : decode cX6_mostByTwo 125 = .ok (.goto (-83), 3) := by decide +kernel
theorem dX6_mostByTwo_128 : decode cX6_mostByTwo 128 = .ok (.iinc 4 1, 3) := by decide +kernel
theorem dX6_mostByTwo_131 : decode cX6_mostByTwo 131 = .ok (.goto (-125), 3) := by decide +kernel
theorem dX6_mostByTwo_134 : decode cX6_mostByTwo 134 = .ok (.iload_n 3, 1) := by decide +kernel
theorem dX6_mostByTwo_135 : decode cX6_mostByTwo 135 = .ok (.ireturn, 1) := by decide +kernel
theorem dX6_mostMendings_0 : decode cX6_mostMendings 0 = .ok (.aload_n 0, 1) := by decide +kernel
theorem dX6_mostMendings_1 : decode cX6_mostMendings 1 = .ok (.iload_n 1, 1) := by decide +kernel
theorem dX6_mostMendings_2 : decode cX6_mostMendings 2 = .ok (.iload_n 2, 1) := by decide +kernel
theorem dX6_mostMendings_3 : decode cX6_mostMendings 3 = .ok (.iconst 0, 1) := by decide +kernel
theorem dX6_mostMendings_4 : decode cX6_mostMendings 4 = .ok (.invokevirtual 67, 3) := by decide +kernel
theorem dX6_mostMendings_7 : decode cX6_mostMendings 7 = .ok (.aload_n 0, 1) := by decide +kernel
theorem dX6_mostMendings_8 : decode cX6_mostMendings 8 = .ok (.iload_n 1, 1) := by decide +kernel
theorem dX6_mostMendings_9 : decode cX6_mostMendings 9 = .ok (.invokevirtual 71, 3) := by decide +kernel
theorem dX6_mostMendings_12 : decode cX6_mostMendings 12 = .ok (.bipush (-9), 2) := by decide +kernel
theorem dX6_mostMendings_14 : decode cX6_mostMendings 14 = .ok (.if_icmp .ne 8, 3) := by decide +kernel
theorem dX6_mostMendings_17 : decode cX6_mostMendings 17 = .ok (.bipush (-9), 2) := by decide +kernel
theorem dX6_mostMendings_19 : decode cX6_mostMendings 19 = .ok (.goto 4, 3) := by decide +kernel
theorem dX6_mostMendings_22 : decode cX6_mostMendings 22 = .ok (.iconst 0, 1) := by decide +kernel
theorem dX6_mostMendings_23 : decode cX6_mostMendings 23 = .ok (.istore 4, 2) := by decide +kernel
theorem dX6_mostMendings_25 : decode cX6_mostMendings 25 = .ok (.iload_n 2, 1) := by decide +kernel
theorem dX6_mostMendings_26 : decode cX6_mostMendings 26 = .ok (.istore 5, 2) := by decide +kernel
theorem dX6_mostMendings_28 : decode cX6_mostMendings 28 = .ok (.iconst 1, 1) := by decide +kernel
theorem dX6_mostMendings_29 : decode cX6_mostMendings 29 = .ok (.istore 6, 2) := by decide +kernel
theorem dX6_mostMendings_31 : decode cX6_mostMendings 31 = .ok (.iload 6, 2) := by decide +kernel
theorem dX6_mostMendings_33 : decode cX6_mostMendings 33 = .ok (.bipush 8, 2) := by decide +kernel
theorem dX6_mostMendings_35 : decode cX6_mostMendings 35 = .ok (.if_icmp .gt 50, 3) := by decide +kernel
theorem dX6_mostMendings_38 : decode cX6_mostMendings 38 = .ok (.aload_n 0, 1) := by decide +kernel
theorem dX6_mostMendings_39 : decode cX6_mostMendings 39 = .ok (.iload_n 1, 1) := by decide +kernel
theorem dX6_mostMendings_40 : decode cX6_mostMendings 40 = .ok (.invokevirtual 71, 3) := by decide +kernel
theorem dX6_mostMendings_43 : decode cX6_mostMendings 43 = .ok (.bipush (-9), 2) := by decide +kernel
theorem dX6_mostMendings_45 : decode cX6_mostMendings 45 = .ok (.if_icmp .eq 40, 3) := by decide +kernel
theorem dX6_mostMendings_48 : decode cX6_mostMendings 48 = .ok (.aload_n 0, 1) := by decide +kernel
theorem dX6_mostMendings_49 : decode cX6_mostMendings 49 = .ok (.iload_n 3, 1) := by decide +kernel
theorem dX6_mostMendings_50 : decode cX6_mostMendings 50 = .ok (.iload 5, 2) := by decide +kernel
theorem dX6_mostMendings_52 : decode cX6_mostMendings 52 = .ok (.invokevirtual 74, 3) := by decide +kernel
theorem dX6_mostMendings_55 : decode cX6_mostMendings 55 = .ok (.iload_n 3, 1) := by decide +kernel
theorem dX6_mostMendings_56 : decode cX6_mostMendings 56 = .ok (.istore 5, 2) := by decide +kernel
theorem dX6_mostMendings_58 : decode cX6_mostMendings 58 = .ok (.aload_n 0, 1) := by decide +kernel
theorem dX6_mostMendings_59 : decode cX6_mostMendings 59 = .ok (.iload_n 1, 1) := by decide +kernel
theorem dX6_mostMendings_60 : decode cX6_mostMendings 60 = .ok (.iload 5, 2) := by decide +kernel
theorem dX6_mostMendings_62 : decode cX6_mostMendings 62 = .ok (.invokevirtual 25, 3) := by decide +kernel
theorem dX6_mostMendings_65 : decode cX6_mostMendings 65 = .ok (.aload_n 0, 1) := by decide +kernel
theorem dX6_mostMendings_66 : decode cX6_mostMendings 66 = .ok (.iload_n 1, 1) := by decide +kernel
theorem dX6_mostMendings_67 : decode cX6_mostMendings 67 = .ok (.invokevirtual 71, 3) := by decide +kernel
theorem dX6_mostMendings_70 : decode cX6_mostMendings 70 = .ok (.bipush (-9), 2) := by decide +kernel
theorem dX6_mostMendings_72 : decode cX6_mostMendings 72 = .ok (.if_icmp .eq 7, 3) := by decide +kernel
theorem dX6_mostMendings_75 : decode cX6_mostMendings 75 = .ok (.iload 6, 2) := by decide +kernel
theorem dX6_mostMendings_77 : decode cX6_mostMendings 77 = .ok (.istore 4, 2) := by decide +kernel
theorem dX6_mostMendings_79 : decode cX6_mostMendings 79 = .ok (.iinc 6 1, 3) := by decide +kernel
theorem dX6_mostMendings_82 : decode cX6_mostMendings 82 = .ok (.goto (-51), 3) := by decide +kernel
theorem dX6_mostMendings_85 : decode cX6_mostMendings 85 = .ok (.iload 4, 2) := by decide +kernel
theorem dX6_mostMendings_87 : decode cX6_mostMendings 87 = .ok (.ireturn, 1) := by decide +kernel
theorem dX6_mendOnce_0 : decode cX6_mendOnce 0 = .ok (.iconst 0, 1) := by decide +kernel
theorem dX6_mendOnce_1 : decode cX6_mendOnce 1 = .ok (.istore_n 3, 1) := by decide +kernel
theorem dX6_mendOnce_2 : decode cX6_mendOnce 2 = .ok (.iload_n 3, 1) := by decide +kernel
theorem dX6_mendOnce_3 : decode cX6_mendOnce 3 = .ok (.sipush 256, 3) := by decide +kernel
theorem dX6_mendOnce_6 : decode cX6_mendOnce 6 = .ok (.if_icmp .ge 131, 3) := by decide +kernel
theorem dX6_mendOnce_9 : decode cX6_mendOnce 9 = .ok (.bipush (-9), 2) := by decide +kernel
theorem dX6_mendOnce_11 : decode cX6_mendOnce 11 = .ok (.istore 4, 2) := by decide +kernel
theorem dX6_mendOnce_13 : decode cX6_mendOnce 13 = .ok (.iconst 0, 1) := by decide +kernel
theorem dX6_mendOnce_14 : decode cX6_mendOnce 14 = .ok (.istore 5, 2) := by decide +kernel
theorem dX6_mendOnce_16 : decode cX6_mendOnce 16 = .ok (.iload 5, 2) := by decide +kernel
theorem dX6_mendOnce_18 : decode cX6_mendOnce 18 = .ok (.bipush 9, 2) := by decide +kernel
theorem dX6_mendOnce_20 : decode cX6_mendOnce 20 = .ok (.if_icmp .ge 97, 3) := by decide +kernel
theorem dX6_mendOnce_23 : decode cX6_mendOnce 23 = .ok (.aload_n 0, 1) := by decide +kernel
theorem dX6_mendOnce_24 : decode cX6_mendOnce 24 = .ok (.getfield 15, 3) := by decide +kernel
theorem dX6_mendOnce_27 : decode cX6_mendOnce 27 = .ok (.iload_n 3, 1) := by decide +kernel
theorem dX6_mendOnce_28 : decode cX6_mendOnce 28 = .ok (.iaload, 1) := by decide +kernel
theorem dX6_mendOnce_29 : decode cX6_mendOnce 29 = .ok (.bipush (-9), 2) := by decide +kernel
theorem dX6_mendOnce_31 : decode cX6_mendOnce 31 = .ok (.if_icmp .eq 86, 3) := by decide +kernel
theorem dX6_mendOnce_34 : decode cX6_mendOnce 34 = .ok (.aload_n 0, 1) := by decide +kernel
theorem dX6_mendOnce_35 : decode cX6_mendOnce 35 = .ok (.getfield 11, 3) := by decide +kernel
theorem dX6_mendOnce_38 : decode cX6_mendOnce 38 = .ok (.iload_n 3, 1) := by decide +kernel
theorem dX6_mendOnce_39 : decode cX6_mendOnce 39 = .ok (.bipush 9, 2) := by decide +kernel
theorem dX6_mendOnce_41 : decode cX6_mendOnce 41 = .ok (.imul, 1) := by decide +kernel
theorem dX6_mendOnce_42 : decode cX6_mendOnce 42 = .ok (.iload 5, 2) := by decide +kernel
theorem dX6_mendOnce_44 : decode cX6_mendOnce 44 = .ok (.iadd, 1) := by decide +kernel
theorem dX6_mendOnce_45 : decode cX6_mendOnce 45 = .ok (.iaload, 1) := by decide +kernel
theorem dX6_mendOnce_46 : decode cX6_mendOnce 46 = .ok (.istore 6, 2) := by decide +kernel
theorem dX6_mendOnce_48 : decode cX6_mendOnce 48 = .ok (.iload 5, 2) := by decide +kernel
theorem dX6_mendOnce_50 : decode cX6_mendOnce 50 = .ok (.bipush 8, 2) := by decide +kernel
theorem dX6_mendOnce_52 : decode cX6_mendOnce 52 = .ok (.if_icmp .ne 7, 3) := by decide +kernel
theorem dX6_mendOnce_55 : decode cX6_mendOnce 55 = .ok (.iload_n 2, 1) := by decide +kernel
theorem dX6_mendOnce_56 : decode cX6_mendOnce 56 = .ok (.goto 12, 3) := by decide +kernel
theorem dX6_mendOnce_59 : decode cX6_mendOnce 59 = .ok (.aload_n 0, 1) := by decide +kernel
theorem dX6_mendOnce_60 : decode cX6_mendOnce 60 = .ok (.getfield 21, 3) := by decide +kernel
theorem dX6_mendOnce_63 : decode cX6_mendOnce 63 = .ok (.iload 5, 2) := by decide +kernel
theorem dX6_mendOnce_65 : decode cX6_mendOnce 65 = .ok (.invokevirtual 45, 3) := by decide +kernel
theorem dX6_mendOnce_68 : decode cX6_mendOnce 68 = .ok (.istore 7, 2) := by decide +kernel
theorem dX6_mendOnce_70 : decode cX6_mendOnce 70 = .ok (.iload 6, 2) := by decide +kernel
theorem dX6_mendOnce_72 : decode cX6_mendOnce 72 = .ok (.bipush (-9), 2) := by decide +kernel
theorem dX6_mendOnce_74 : decode cX6_mendOnce 74 = .ok (.if_icmp .eq 37, 3) := by decide +kernel
theorem dX6_mendOnce_77 : decode cX6_mendOnce 77 = .ok (.iload 6, 2) := by decide +kernel
theorem dX6_mendOnce_79 : decode cX6_mendOnce 79 = .ok (.iload 7, 2) := by decide +kernel
theorem dX6_mendOnce_81 : decode cX6_mendOnce 81 = .ok (.iload_n 1, 1) := by decide +kernel
theorem dX6_mendOnce_82 : decode cX6_mendOnce 82 = .ok (.invokestatic 77, 3) := by decide +kernel
theorem dX6_mendOnce_85 : decode cX6_mendOnce 85 = .ok (.iadd, 1) := by decide +kernel
theorem dX6_mendOnce_86 : decode cX6_mendOnce 86 = .ok (.iconst 1, 1) := by decide +kernel
theorem dX6_mendOnce_87 : decode cX6_mendOnce 87 = .ok (.iadd, 1) := by decide +kernel
theorem dX6_mendOnce_88 : decode cX6_mendOnce 88 = .ok (.istore 8, 2) := by decide +kernel
theorem dX6_mendOnce_90 : decode cX6_mendOnce 90 = .ok (.iload 4, 2) := by decide +kernel
theorem dX6_mendOnce_92 : decode cX6_mendOnce 92 = .ok (.iload 8, 2) := by decide +kernel
theorem dX6_mendOnce_94 : decode cX6_mendOnce 94 = .ok (.bipush 28, 2) := by decide +kernel
theorem dX6_mendOnce_96 : decode cX6_mendOnce 96 = .ok (.if_icmp .gt 8, 3) := by decide +kernel
theorem dX6_mendOnce_99 : decode cX6_mendOnce 99 = .ok (.iload 8, 2) := by decide +kernel
theorem dX6_mendOnce_101 : decode cX6_mendOnce 101 = .ok (.goto 5, 3) := by decide +kernel
theorem dX6_mendOnce_104 : decode cX6_mendOnce 104 = .ok (.bipush (-9), 2) := by decide +kernel
theorem dX6_mendOnce_106 : decode cX6_mendOnce 106 = .ok (.invokestatic 41, 3) := by decide +kernel
theorem dX6_mendOnce_109 : decode cX6_mendOnce 109 = .ok (.istore 4, 2) := by decide +kernel
theorem dX6_mendOnce_111 : decode cX6_mendOnce 111 = .ok (.iinc 5 1, 3) := by decide +kernel
theorem dX6_mendOnce_114 : decode cX6_mendOnce 114 = .ok (.goto (-98), 3) := by decide +kernel
theorem dX6_mendOnce_117 : decode cX6_mendOnce 117 = .ok (.aload_n 0, 1) := by decide +kernel
theorem dX6_mendOnce_118 : decode cX6_mendOnce 118 = .ok (.getfield 11, 3) := by decide +kernel
theorem dX6_mendOnce_121 : decode cX6_mendOnce 121 = .ok (.iload_n 3, 1) := by decide +kernel
theorem dX6_mendOnce_122 : decode cX6_mendOnce 122 = .ok (.bipush 9, 2) := by decide +kernel
theorem dX6_mendOnce_124 : decode cX6_mendOnce 124 = .ok (.imul, 1) := by decide +kernel
theorem dX6_mendOnce_125 : decode cX6_mendOnce 125 = .ok (.bipush 8, 2) := by decide +kernel
theorem dX6_mendOnce_127 : decode cX6_mendOnce 127 = .ok (.iadd, 1) := by decide +kernel
theorem dX6_mendOnce_128 : decode cX6_mendOnce 128 = .ok (.iload 4, 2) := by decide +kernel
theorem dX6_mendOnce_130 : decode cX6_mendOnce 130 = .ok (.iastore, 1) := by decide +kernel
theorem dX6_mendOnce_131 : decode cX6_mendOnce 131 = .ok (.iinc 3 1, 3) := by decide +kernel
theorem dX6_mendOnce_134 : decode cX6_mendOnce 134 = .ok (.goto (-132), 3) := by decide +kernel
theorem dX6_mendOnce_137 : decode cX6_mendOnce 137 = .ok (.return_, 1) := by decide +kernel
theorem dX7_init_0 : decode cX7_init 0 = .ok (.aload_n 0, 1) := by decide +kernel
theorem dX7_init_1 : decode cX7_init 1 = .ok (.invokespecial 3, 3) := by decide +kernel
theorem dX7_init_4 : decode cX7_init 4 = .ok (.aload_n 0, 1) := by decide +kernel
theorem dX7_init_5 : decode cX7_init 5 = .ok (.iconst 0, 1) := by decide +kernel
theorem dX7_init_6 : decode cX7_init 6 = .ok (.putfield 9, 3) := by decide +kernel
theorem dX7_init_9 : decode cX7_init 9 = .ok (.aload_n 0, 1) := by decide +kernel
theorem dX7_init_10 : decode cX7_init 10 = .ok (.bipush (-9), 2) := by decide +kernel
theorem dX7_init_12 : decode cX7_init 12 = .ok (.putfield 15, 3) := by decide +kernel
theorem dX7_init_15 : decode cX7_init 15 = .ok (.return_, 1) := by decide +kernel
theorem dX7_read_0 : decode cX7_read 0 = .ok (.aload_n 0, 1) := by decide +kernel
theorem dX7_read_1 : decode cX7_read 1 = .ok (.iconst 0, 1) := by decide +kernel
theorem dX7_read_2 : decode cX7_read 2 = .ok (.putfield 9, 3) := by decide +kernel
theorem dX7_read_5 : decode cX7_read 5 = .ok (.aload_n 0, 1) := by decide +kernel
theorem dX7_read_6 : decode cX7_read 6 = .ok (.bipush (-9), 2) := by decide +kernel
theorem dX7_read_8 : decode cX7_read 8 = .ok (.putfield 15, 3) := by decide +kernel
theorem dX7_read_11 : decode cX7_read 11 = .ok (.aload_n 2, 1) := by decide +kernel
theorem dX7_read_12 : decode cX7_read 12 = .ok (.invokevirtual 18, 3) := by decide +kernel
theorem dX7_read_15 : decode cX7_read 15 = .ok (.iconst 0, 1) := by decide +kernel
theorem dX7_read_16 : decode cX7_read 16 = .ok (.istore_n 3, 1) := by decide +kernel
theorem dX7_read_17 : decode cX7_read 17 = .ok (.iload_n 3, 1) := by decide +kernel
theorem dX7_read_18 : decode cX7_read 18 = .ok (.bipush 120, 2) := by decide +kernel
theorem dX7_read_20 : decode cX7_read 20 = .ok (.if_icmp .gt 83, 3) := by decide +kernel
theorem dX7_read_23 : decode cX7_read 23 = .ok (.aload_n 0, 1) := by decide +kernel
theorem dX7_read_24 : decode cX7_read 24 = .ok (.getfield 15, 3) := by decide +kernel
theorem dX7_read_27 : decode cX7_read 27 = .ok (.bipush (-9), 2) := by decide +kernel
theorem dX7_read_29 : decode cX7_read 29 = .ok (.if_icmp .ne 74, 3) := by decide +kernel
theorem dX7_read_32 : decode cX7_read 32 = .ok (.aload_n 0, 1) := by decide +kernel
theorem dX7_read_33 : decode cX7_read 33 = .ok (.getfield 9, 3) := by decide +kernel
theorem dX7_read_36 : decode cX7_read 36 = .ok (.aload_n 1, 1) := by decide +kernel
theorem dX7_read_37 : decode cX7_read 37 = .ok (.invokevirtual 23, 3) := by decide +kernel
theorem dX7_read_40 : decode cX7_read 40 = .ok (.if_icmp .ge 63, 3) := by decide +kernel
theorem dX7_read_43 : decode cX7_read 43 = .ok (.aload_n 1, 1) := by decide +kernel
theorem dX7_read_44 : decode cX7_read 44 = .ok (.aload_n 0, 1) := by decide +kernel
theorem dX7_read_45 : decode cX7_read 45 = .ok (.getfield 9, 3) := by decide +kernel
theorem dX7_read_48 : decode cX7_read 48 = .ok (.invokevirtual 29, 3) := by decide +kernel
theorem dX7_read_51 : decode cX7_read 51 = .ok (.bipush 32, 2) := by decide +kernel
theorem dX7_read_53 : decode cX7_read 53 = .ok (.if_icmp .ne 16, 3) := by decide +kernel
theorem dX7_read_56 : decode cX7_read 56 = .ok (.aload_n 0, 1) := by decide +kernel
theorem dX7_read_57 : decode cX7_read 57 = .ok (.dup, 1) := by decide +kernel
theorem dX7_read_58 : decode cX7_read 58 = .ok (.getfield 9, 3) := by decide +kernel
theorem dX7_read_61 : decode cX7_read 61 = .ok (.iconst 1, 1) := by decide +kernel
theorem dX7_read_62 : decode cX7_read 62 = .ok (.iadd, 1) := by decide +kernel
theorem dX7_read_63 : decode cX7_read 63 = .ok (.putfield 9, 3) := by decide +kernel
theorem dX7_read_66 : decode cX7_read 66 = .ok (.goto 31, 3) := by decide +kernel
theorem dX7_read_69 : decode cX7_read 69 = .ok (.aload_n 1, 1) := by decide +kernel
theorem dX7_read_70 : decode cX7_read 70 = .ok (.aload_n 0, 1) := by decide +kernel
theorem dX7_read_71 : decode cX7_read 71 = .ok (.getfield 9, 3) := by decide +kernel
theorem dX7_read_74 : decode cX7_read 74 = .ok (.invokevirtual 29, 3) := by decide +kernel
theorem dX7_read_77 : decode cX7_read 77 = .ok (.bipush 104, 2) := by decide +kernel
theorem dX7_read_79 : decode cX7_read 79 = .ok (.if_icmp .ne 12, 3) := by decide +kernel
theorem dX7_read_82 : decode cX7_read 82 = .ok (.aload_n 0, 1) := by decide +kernel
theorem dX7_read_83 : decode cX7_read 83 = .ok (.aload_n 1, 1) := by decide +kernel
theorem dX7_read_84 : decode cX7_read 84 = .ok (.aload_n 2, 1) := by decide +kernel
theorem dX7_read_85 : decode cX7_read 85 = .ok (.invokevirtual 33, 3) := by decide +kernel
theorem dX7_read_88 : decode cX7_read 88 = .ok (.goto 9, 3) := by decide +kernel
theorem dX7_read_91 : decode cX7_read 91 = .ok (.aload_n 0, 1) := by decide +kernel
theorem dX7_read_92 : decode cX7_read 92 = .ok (.aload_n 1, 1) := by decide +kernel
theorem dX7_read_93 : decode cX7_read 93 = .ok (.aload_n 2, 1) := by decide +kernel
theorem dX7_read_94 : decode cX7_read 94 = .ok (.invokevirtual 37, 3) := by decide +kernel
theorem dX7_read_97 : decode cX7_read 97 = .ok (.iinc 3 1, 3) := by decide +kernel
theorem dX7_read_100 : decode cX7_read 100 = .ok (.goto (-83), 3) := by decide +kernel
theorem dX7_read_103 : decode cX7_read 103 = .ok (.aload_n 0, 1) := by decide +kernel
theorem dX7_read_104 : decode cX7_read 104 = .ok (.getfield 15, 3) := by decide +kernel
theorem dX7_read_107 : decode cX7_read 107 = .ok (.ireturn, 1) := by decide +kernel
theorem dX7_readHouse_0 : decode cX7_readHouse 0 = .ok (.aload_n 2, 1) := by decide +kernel
theorem dX7_readHouse_1 : decode cX7_readHouse 1 = .ok (.getfield 40, 3) := by decide +kernel
theorem dX7_readHouse_4 : decode cX7_readHouse 4 = .ok (.bipush 8, 2) := by decide +kernel
theorem dX7_readHouse_6 : decode cX7_readHouse 6 = .ok (.if_icmp .lt 8, 3) := by decide +kernel
theorem dX7_readHouse_9 : decode cX7_readHouse 9 = .ok (.aload_n 0, 1) := by decide +kernel
theorem dX7_readHouse_10 : decode cX7_readHouse 10 = .ok (.invokevirtual 43, 3) := by decide +kernel
theorem dX7_readHouse_13 : decode cX7_readHouse 13 = .ok (.return_, 1) := by decide +kernel
theorem dX7_readHouse_14 : decode cX7_readHouse 14 = .ok (.aload_n 0, 1) := by decide +kernel
theorem dX7_readHouse_15 : decode cX7_readHouse 15 = .ok (.dup, 1) := by decide +kernel
theorem dX7_readHouse_16 : decode cX7_readHouse 16 = .ok (.getfield 9, 3) := by decide +kernel
theorem dX7_readHouse_19 : decode cX7_readHouse 19 = .ok (.iconst 1, 1) := by decide +kernel
theorem dX7_readHouse_20 : decode cX7_readHouse 20 = .ok (.iadd, 1) := by decide +kernel
theorem dX7_readHouse_21 : decode cX7_readHouse 21 = .ok (.putfield 9, 3) := by decide +kernel
theorem dX7_readHouse_24 : decode cX7_readHouse 24 = .ok (.aload_n 0, 1) := by decide +kernel
theorem dX7_readHouse_25 : decode cX7_readHouse 25 = .ok (.aload_n 1, 1) := by decide +kernel
theorem dX7_readHouse_26 : decode cX7_readHouse 26 = .ok (.bipush 15, 2) := by decide +kernel
theorem dX7_readHouse_28 : decode cX7_readHouse 28 = .ok (.invokevirtual 46, 3) := by decide +kernel
theorem dX7_readHouse_31 : decode cX7_readHouse 31 = .ok (.istore_n 3, 1) := by decide +kernel
theorem dX7_readHouse_32 : decode cX7_readHouse 32 = .ok (.iload_n 3, 1) := by decide +kernel
theorem dX7_readHouse_33 : decode cX7_readHouse 33 = .ok (.bipush (-9), 2) := by decide +kernel
theorem dX7_readHouse_35 : decode cX7_readHouse 35 = .ok (.if_icmp .eq 8, 3) := by decide +kernel
theorem dX7_readHouse_38 : decode cX7_readHouse 38 = .ok (.aload_n 2, 1) := by decide +kernel
theorem dX7_readHouse_39 : decode cX7_readHouse 39 = .ok (.iload_n 3, 1) := by decide +kernel
theorem dX7_readHouse_40 : decode cX7_readHouse 40 = .ok (.invokevirtual 50, 3) := by decide +kernel
theorem dX7_readHouse_43 : decode cX7_readHouse 43 = .ok (.return_, 1) := by decide +kernel
theorem dX7_readNeed_0 : decode cX7_readNeed 0 = .ok (.aload_n 1, 1) := by decide +kernel
theorem dX7_readNeed_1 : decode cX7_readNeed 1 = .ok (.aload_n 0, 1) := by decide +kernel
theorem dX7_readNeed_2 : decode cX7_readNeed 2 = .ok (.getfield 9, 3) := by decide +kernel
theorem dX7_readNeed_5 : decode cX7_readNeed 5 = .ok (.invokevirtual 29, 3) := by decide +kernel
theorem dX7_readNeed_8 : decode cX7_readNeed 8 = .ok (.invokestatic 54, 3) := by decide +kernel
theorem dX7_readNeed_11 : decode cX7_readNeed 11 = .ok (.istore_n 3, 1) := by decide +kernel
theorem dX7_readNeed_12 : decode cX7_readNeed 12 = .ok (.iload_n 3, 1) := by decide +kernel
theorem dX7_readNeed_13 : decode cX7_readNeed 13 = .ok (.bipush (-9), 2) := by decide +kernel
theorem dX7_readNeed_15 : decode cX7_readNeed 15 = .ok (.if_icmp .eq 12, 3) := by decide +kernel
theorem dX7_readNeed_18 : decode cX7_readNeed 18 = .ok (.aload_n 2, 1) := by decide +kernel
theorem dX7_readNeed_19 : decode cX7_readNeed 19 = .ok (.getfield 57, 3) := by decide +kernel
theorem dX7_readNeed_22 : decode cX7_readNeed 22 = .ok (.bipush 8, 2) := by decide +kernel
theorem dX7_readNeed_24 : decode cX7_readNeed 24 = .ok (.if_icmp .lt 8, 3) := by decide +kernel
theorem dX7_readNeed_27 : decode cX7_readNeed 27 = .ok (.aload_n 0, 1) := by decide +kernel
theorem dX7_readNeed_28 : decode cX7_readNeed 28 = .ok (.invokevirtual 43, 3) := by decide +kernel
theorem dX7_readNeed_31 : decode cX7_readNeed 31 = .ok (.return_, 1) := by decide +kernel
theorem dX7_readNeed_32 : decode cX7_readNeed 32 = .ok (.aload_n 0, 1) := by decide +kernel
theorem dX7_readNeed_33 : decode cX7_readNeed 33 = .ok (.dup, 1) := by decide +kernel
theorem dX7_readNeed_34 : decode cX7_readNeed 34 = .ok (.getfield 9, 3) := by decide +kernel
theorem dX7_readNeed_37 : decode cX7_readNeed 37 = .ok (.iconst 1, 1) := by decide +kernel
theorem dX7_readNeed_38 : decode cX7_readNeed 38 = .ok (.iadd, 1) := by decide +kernel
theorem dX7_readNeed_39 : decode cX7_readNeed 39 = .ok (.putfield 9, 3) := by decide +kernel
theorem dX7_readNeed_42 : decode cX7_readNeed 42 = .ok (.aload_n 1, 1) := by decide +kernel
theorem dX7_readNeed_43 : decode cX7_readNeed 43 = .ok (.aload_n 0, 1) := by decide +kernel
theorem dX7_readNeed_44 : decode cX7_readNeed 44 = .ok (.getfield 9, 3) := by decide +kernel
theorem dX7_readNeed_47 : decode cX7_readNeed 47 = .ok (.invokevirtual 29, 3) := by decide +kernel
theorem dX7_readNeed_50 : decode cX7_readNeed 50 = .ok (.bipush 65, 2) := by decide +kernel
theorem dX7_readNeed_52 : decode cX7_readNeed 52 = .ok (.isub, 1) := by decide +kernel
theorem dX7_readNeed_53 : decode cX7_readNeed 53 = .ok (.istore 4, 2) := by decide +kernel
theorem dX7_readNeed_55 : decode cX7_readNeed 55 = .ok (.aload_n 2, 1) := by decide +kernel
theorem dX7_readNeed_56 : decode cX7_readNeed 56 = .ok (.iload 4, 2) := by decide +kernel
theorem dX7_readNeed_58 : decode cX7_readNeed 58 = .ok (.invokevirtual 60, 3) := by decide +kernel
theorem dX7_readNeed_61 : decode cX7_readNeed 61 = .ok (.ifCond .ne 8, 3) := by decide +kernel
theorem dX7_readNeed_64 : decode cX7_readNeed 64 = .ok (.aload_n 0, 1) := by decide +kernel
theorem dX7_readNeed_65 : decode cX7_readNeed 65 = .ok (.invokevirtual 43, 3) := by decide +kernel
theorem dX7_readNeed_68 : decode cX7_readNeed 68 = .ok (.return_, 1) := by decide +kernel
theorem dX7_readNeed_69 : decode cX7_readNeed 69 = .ok (.aload_n 0, 1) := by decide +kernel
theorem dX7_readNeed_70 : decode cX7_readNeed 70 = .ok (.dup, 1) := by decide +kernel
theorem dX7_readNeed_71 : decode cX7_readNeed 71 = .ok (.getfield 9, 3) := by decide +kernel
theorem dX7_readNeed_74 : decode cX7_readNeed 74 = .ok (.iconst 1, 1) := by decide +kernel
theorem dX7_readNeed_75 : decode cX7_readNeed 75 = .ok (.iadd, 1) := by decide +kernel
theorem dX7_readNeed_76 : decode cX7_readNeed 76 = .ok (.putfield 9, 3) := by decide +kernel
theorem dX7_readNeed_79 : decode cX7_readNeed 79 = .ok (.aload_n 0, 1) := by decide +kernel
theorem dX7_readNeed_80 : decode cX7_readNeed 80 = .ok (.aload_n 1, 1) := by decide +kernel
theorem dX7_readNeed_81 : decode cX7_readNeed 81 = .ok (.bipush 58, 2) := by decide +kernel
theorem dX7_readNeed_83 : decode cX7_readNeed 83 = .ok (.invokevirtual 64, 3) := by decide +kernel
theorem dX7_readNeed_86 : decode cX7_readNeed 86 = .ok (.ifCond .eq 13, 3) := by decide +kernel
theorem dX7_readNeed_89 : decode cX7_readNeed 89 = .ok (.aload_n 0, 1) := by decide +kernel
theorem dX7_readNeed_90 : decode cX7_readNeed 90 = .ok (.aload_n 1, 1) := by decide +kernel
theorem dX7_readNeed_91 : decode cX7_readNeed 91 = .ok (.bipush 27, 2) := by decide +kernel
theorem dX7_readNeed_93 : decode cX7_readNeed 93 = .ok (.invokevirtual 46, 3) := by decide +kernel
theorem dX7_readNeed_96 : decode cX7_readNeed 96 = .ok (.goto 5, 3) := by decide +kernel
theorem dX7_readNeed_99 : decode cX7_readNeed 99 = .ok (.bipush (-9), 2) := by decide +kernel
theorem dX7_readNeed_101 : decode cX7_readNeed 101 = .ok (.istore 5, 2) := by decide +kernel
theorem dX7_readNeed_103 : decode cX7_readNeed 103 = .ok (.iload 5, 2) := by decide +kernel
theorem dX7_readNeed_105 : decode cX7_readNeed 105 = .ok (.bipush (-9), 2) := by decide +kernel
theorem dX7_readNeed_107 : decode cX7_readNeed 107 = .ok (.if_icmp .eq 23, 3) := by decide +kernel
theorem dX7_readNeed_110 : decode cX7_readNeed 110 = .ok (.aload_n 0, 1) := by decide +kernel
theorem dX7_readNeed_111 : decode cX7_readNeed 111 = .ok (.aload_n 1, 1) := by decide +kernel
theorem dX7_readNeed_112 : decode cX7_readNeed 112 = .ok (.bipush 45, 2) := by decide +kernel
theorem dX7_readNeed_114 : decode cX7_readNeed 114 = .ok (.invokevirtual 64, 3) := by decide +kernel
theorem dX7_readNeed_117 : decode cX7_readNeed 117 = .ok (.ifCond .eq 13, 3) := by decide +kernel
theorem dX7_readNeed_120 : decode cX7_readNeed 120 = .ok (.aload_n 0, 1) := by decide +kernel
theorem dX7_readNeed_121 : decode cX7_readNeed 121 = .ok (.aload_n 1, 1) := by decide +kernel
theorem dX7_readNeed_122 : decode cX7_readNeed 122 = .ok (.bipush 27, 2) := by decide +kernel
theorem dX7_readNeed_124 : decode cX7_readNeed 124 = .ok (.invokevirtual 46, 3) := by decide +kernel
theorem dX7_readNeed_127 : decode cX7_readNeed 127 = .ok (.goto 5, 3) := by decide +kernel
theorem dX7_readNeed_130 : decode cX7_readNeed 130 = .ok (.bipush (-9), 2) := by decide +kernel
theorem dX7_readNeed_132 : decode cX7_readNeed 132 = .ok (.istore 6, 2) := by decide +kernel
theorem dX7_readNeed_134 : decode cX7_readNeed 134 = .ok (.iload 6, 2) := by decide +kernel
theorem dX7_readNeed_136 : decode cX7_readNeed 136 = .ok (.bipush (-9), 2) := by decide +kernel
theorem dX7_readNeed_138 : decode cX7_readNeed 138 = .ok (.if_icmp .eq 15, 3) := by decide +kernel
theorem dX7_readNeed_141 : decode cX7_readNeed 141 = .ok (.iload 6, 2) := by decide +kernel
theorem dX7_readNeed_143 : decode cX7_readNeed 143 = .ok (.iload 5, 2) := by decide +kernel
theorem dX7_readNeed_145 : decode cX7_readNeed 145 = .ok (.if_icmp .ge 8, 3) := by decide +kernel
theorem dX7_readNeed_148 : decode cX7_readNeed 148 = .ok (.aload_n 0, 1) := by decide +kernel
theorem dX7_readNeed_149 : decode cX7_readNeed 149 = .ok (.invokevirtual 43, 3) := by decide +kernel
theorem dX7_readNeed_152 : decode cX7_readNeed 152 = .ok (.return_, 1) := by decide +kernel
theorem dX7_readNeed_153 : decode cX7_readNeed 153 = .ok (.iload 6, 2) := by decide +kernel
theorem dX7_readNeed_155 : decode cX7_readNeed 155 = .ok (.bipush (-9), 2) := by decide +kernel
theorem dX7_readNeed_157 : decode cX7_readNeed 157 = .ok (.if_icmp .eq 22, 3) := by decide +kernel
theorem dX7_readNeed_160 : decode cX7_readNeed 160 = .ok (.aload_n 0, 1) := by decide +kernel
theorem dX7_readNeed_161 : decode cX7_readNeed 161 = .ok (.aload_n 1, 1) := by decide +kernel
theorem dX7_readNeed_162 : decode cX7_readNeed 162 = .ok (.bipush 58, 2) := by decide +kernel
theorem dX7_readNeed_164 : decode cX7_readNeed 164 = .ok (.invokevirtual 64, 3) := by decide +kernel
theorem dX7_readNeed_167 : decode cX7_readNeed 167 = .ok (.ifCond .eq 12, 3) := by decide +kernel
theorem dX7_readNeed_170 : decode cX7_readNeed 170 = .ok (.aload_n 0, 1) := by decide +kernel
theorem dX7_readNeed_171 : decode cX7_readNeed 171 = .ok (.aload_n 1, 1) := by decide +kernel
theorem dX7_readNeed_172 : decode cX7_readNeed 172 = .ok (.iconst 4, 1) := by decide +kernel
theorem dX7_readNeed_173 : decode cX7_readNeed 173 = .ok (.invokevirtual 68, 3) := by decide +kernel
theorem dX7_readNeed_176 : decode cX7_readNeed 176 = .ok (.goto 5, 3) := by decide +kernel
theorem dX7_readNeed_179 : decode cX7_readNeed 179 = .ok (.bipush (-9), 2) := by decide +kernel
theorem dX7_readNeed_181 : decode cX7_readNeed 181 = .ok (.istore 7, 2) := by decide +kernel
theorem dX7_readNeed_183 : decode cX7_readNeed 183 = .ok (.iload 7, 2) := by decide +kernel
theorem dX7_readNeed_185 : decode cX7_readNeed 185 = .ok (.bipush (-9), 2) := by decide +kernel
theorem dX7_readNeed_187 : decode cX7_readNeed 187 = .ok (.if_icmp .eq 23, 3) := by decide +kernel
theorem dX7_readNeed_190 : decode cX7_readNeed 190 = .ok (.aload_n 0, 1) := by decide +kernel
theorem dX7_readNeed_191 : decode cX7_readNeed 191 = .ok (.aload_n 1, 1) := by decide +kernel
theorem dX7_readNeed_192 : decode cX7_readNeed 192 = .ok (.bipush 58, 2) := by decide +kernel
theorem dX7_readNeed_194 : decode cX7_readNeed 194 = .ok (.invokevirtual 64, 3) := by decide +kernel
theorem dX7_readNeed_197 : decode cX7_readNeed 197 = .ok (.ifCond .eq 13, 3) := by decide +kernel
theorem dX7_readNeed_200 : decode cX7_readNeed 200 = .ok (.aload_n 0, 1) := by decide +kernel
theorem dX7_readNeed_201 : decode cX7_readNeed 201 = .ok (.aload_n 1, 1) := by decide +kernel
theorem dX7_readNeed_202 : decode cX7_readNeed 202 = .ok (.bipush 9, 2) := by decide +kernel
theorem dX7_readNeed_204 : decode cX7_readNeed 204 = .ok (.invokevirtual 68, 3) := by decide +kernel
theorem dX7_readNeed_207 : decode cX7_readNeed 207 = .ok (.goto 5, 3) := by decide +kernel
theorem dX7_readNeed_210 : decode cX7_readNeed 210 = .ok (.bipush (-9), 2) := by decide +kernel
theorem dX7_readNeed_212 : decode cX7_readNeed 212 = .ok (.istore 8, 2) := by decide +kernel
theorem dX7_readNeed_214 : decode cX7_readNeed 214 = .ok (.iload 8, 2) := by decide +kernel
theorem dX7_readNeed_216 : decode cX7_readNeed 216 = .ok (.bipush (-9), 2) := by decide +kernel
theorem dX7_readNeed_218 : decode cX7_readNeed 218 = .ok (.if_icmp .eq 57, 3) := by decide +kernel
theorem dX7_readNeed_221 : decode cX7_readNeed 221 = .ok (.aload_n 2, 1) := by decide +kernel
theorem dX7_readNeed_222 : decode cX7_readNeed 222 = .ok (.invokevirtual 71, 3) := by decide +kernel
theorem dX7_readNeed_225 : decode cX7_readNeed 225 = .ok (.astore 9, 2) := by decide +kernel
theorem dX7_readNeed_227 : decode cX7_readNeed 227 = .ok (.aload 9, 2) := by decide +kernel
theorem dX7_readNeed_229 : decode cX7_readNeed 229 = .ok (.iload_n 3, 1) := by decide +kernel
theorem dX7_readNeed_230 : decode cX7_readNeed 230 = .ok (.putfield 75, 3) := by decide +kernel
theorem dX7_readNeed_233 : decode cX7_readNeed 233 = .ok (.aload 9, 2) := by decide +kernel
theorem dX7_readNeed_235 : decode cX7_readNeed 235 = .ok (.iload 4, 2) := by decide +kernel
theorem dX7_readNeed_237 : decode cX7_readNeed 237 = .ok (.putfield 80, 3) := by decide +kernel
theorem dX7_readNeed_240 : decode cX7_readNeed 240 = .ok (.aload 9, 2) := by decide +kernel
theorem dX7_readNeed_242 : decode cX7_readNeed 242 = .ok (.iload 5, 2) := by decide +kernel
theorem dX7_readNeed_244 : decode cX7_readNeed 244 = .ok (.putfield 83, 3) := by decide +kernel
theorem dX7_readNeed_247 : decode cX7_readNeed 247 = .ok (.aload 9, 2) := by decide +kernel
theorem dX7_readNeed_249 : decode cX7_readNeed 249 = .ok (.iload 6, 2) := by decide +kernel
theorem dX7_readNeed_251 : decode cX7_readNeed 251 = .ok (.putfield 86, 3) := by decide +kernel
theorem dX7_readNeed_254 : decode cX7_readNeed 254 = .ok (.aload 9, 2) := by decide +kernel
theorem dX7_readNeed_256 : decode cX7_readNeed 256 = .ok (.iload 7, 2) := by decide +kernel
theorem dX7_readNeed_258 : decode cX7_readNeed 258 = .ok (.putfield 89, 3) := by decide +kernel
theorem dX7_readNeed_261 : decode cX7_readNeed 261 = .ok (.aload 9, 2) := by decide +kernel
theorem dX7_readNeed_263 : decode cX7_readNeed 263 = .ok (.iload 8, 2) := by decide +kernel
theorem dX7_readNeed_265 : decode cX7_readNeed 265 = .ok (.putfield 91, 3) := by decide +kernel
theorem dX7_readNeed_268 : decode cX7_readNeed 268 = .ok (.aload 9, 2) := by decide +kernel
theorem dX7_readNeed_270 : decode cX7_readNeed 270 = .ok (.bipush 12, 2) := by decide +kernel
theorem dX7_readNeed_272 : decode cX7_readNeed 272 = .ok (.putfield 94, 3) := by decide +kernel
theorem dX7_readNeed_275 : decode cX7_readNeed 275 = .ok (.return_, 1) := by decide +kernel
theorem dX7_stop_0 : decode cX7_stop 0 = .ok (.aload_n 0, 1) := by decide +kernel
theorem dX7_stop_1 : decode cX7_stop 1 = .ok (.aload_n 0, 1) := by decide +kernel
theorem dX7_stop_2 : decode cX7_stop 2 = .ok (.getfield 9, 3) := by decide +kernel
theorem dX7_stop_5 : decode cX7_stop 5 = .ok (.putfield 15, 3) := by decide +kernel
theorem dX7_stop_8 : decode cX7_stop 8 = .ok (.return_, 1) := by decide +kernel
theorem dX7_kindOf_0 : decode cX7_kindOf 0 = .ok (.iconst 0, 1) := by decide +kernel
theorem dX7_kindOf_1 : decode cX7_kindOf 1 = .ok (.istore_n 1, 1) := by decide +kernel
theorem dX7_kindOf_2 : decode cX7_kindOf 2 = .ok (.iload_n 1, 1) := by decide +kernel
theorem dX7_kindOf_3 : decode cX7_kindOf 3 = .ok (.getstatic 97, 3) := by decide +kernel
theorem dX7_kindOf_6 : decode cX7_kindOf 6 = .ok (.arraylength, 1) := by decide +kernel
theorem dX7_kindOf_7 : decode cX7_kindOf 7 = .ok (.if_icmp .ge 20, 3) := by decide +kernel
theorem dX7_kindOf_10 : decode cX7_kindOf 10 = .ok (.getstatic 97, 3) := by decide +kernel
theorem dX7_kindOf_13 : decode cX7_kindOf 13 = .ok (.iload_n 1, 1) := by decide +kernel
theorem dX7_kindOf_14 : decode cX7_kindOf 14 = .ok (.caload, 1) := by decide +kernel
theorem dX7_kindOf_15 : decode cX7_kindOf 15 = .ok (.iload_n 0, 1) := by decide +kernel
theorem dX7_kindOf_16 : decode cX7_kindOf 16 = .ok (.if_icmp .ne 5, 3) := by decide +kernel
theorem dX7_kindOf_19 : decode cX7_kindOf 19 = .ok (.iload_n 1, 1) := by decide +kernel
theorem dX7_kindOf_20 : decode cX7_kindOf 20 = .ok (.ireturn, 1) := by decide +kernel
theorem dX7_kindOf_21 : decode cX7_kindOf 21 = .ok (.iinc 1 1, 3) := by decide +kernel
theorem dX7_kindOf_24 : decode cX7_kindOf 24 = .ok (.goto (-22), 3) := by decide +kernel
theorem dX7_kindOf_27 : decode cX7_kindOf 27 = .ok (.bipush (-9), 2) := by decide +kernel
theorem dX7_kindOf_29 : decode cX7_kindOf 29 = .ok (.ireturn, 1) := by decide +kernel
theorem dX7_readSign_0 : decode cX7_readSign 0 = .ok (.aload_n 1, 1) := by decide +kernel
theorem dX7_readSign_1 : decode cX7_readSign 1 = .ok (.aload_n 0, 1) := by decide +kernel
theorem dX7_readSign_2 : decode cX7_readSign 2 = .ok (.getfield 9, 3) := by decide +kernel
theorem dX7_readSign_5 : decode cX7_readSign 5 = .ok (.invokevirtual 29, 3) := by decide +kernel
theorem dX7_readSign_8 : decode cX7_readSign 8 = .ok (.iload_n 2, 1) := by decide +kernel
theorem dX7_readSign_9 : decode cX7_readSign 9 = .ok (.if_icmp .eq 9, 3) := by decide +kernel
theorem dX7_readSign_12 : decode cX7_readSign 12 = .ok (.aload_n 0, 1) := by decide +kernel
theorem dX7_readSign_13 : decode cX7_readSign 13 = .ok (.invokevirtual 43, 3) := by decide +kernel
theorem dX7_readSign_16 : decode cX7_readSign 16 = .ok (.iconst 0, 1) := by decide +kernel
theorem dX7_readSign_17 : decode cX7_readSign 17 = .ok (.ireturn, 1) := by decide +kernel
theorem dX7_readSign_18 : decode cX7_readSign 18 = .ok (.aload_n 0, 1) := by decide +kernel
theorem dX7_readSign_19 : decode cX7_readSign 19 = .ok (.dup, 1) := by decide +kernel
theorem dX7_readSign_20 : decode cX7_readSign 20 = .ok (.getfield 9, 3) := by decide +kernel
theorem dX7_readSign_23 : decode cX7_readSign 23 = .ok (.iconst 1, 1) := by decide +kernel
theorem dX7_readSign_24 : decode cX7_readSign 24 = .ok (.iadd, 1) := by decide +kernel
theorem dX7_readSign_25 : decode cX7_readSign 25 = .ok (.putfield 9, 3) := by decide +kernel
theorem dX7_readSign_28 : decode cX7_readSign 28 = .ok (.iconst 1, 1) := by decide +kernel
theorem dX7_readSign_29 : decode cX7_readSign 29 = .ok (.ireturn, 1) := by decide +kernel
theorem dX7_figureHere_0 : decode cX7_figureHere 0 = .ok (.aload_n 1, 1) := by decide +kernel
theorem dX7_figureHere_1 : decode cX7_figureHere 1 = .ok (.aload_n 0, 1) := by decide +kernel
theorem dX7_figureHere_2 : decode cX7_figureHere 2 = .ok (.getfield 9, 3) := by decide +kernel
theorem dX7_figureHere_5 : decode cX7_figureHere 5 = .ok (.invokevirtual 29, 3) := by decide +kernel
theorem dX7_figureHere_8 : decode cX7_figureHere 8 = .ok (.istore_n 2, 1) := by decide +kernel
theorem dX7_figureHere_9 : decode cX7_figureHere 9 = .ok (.iload_n 2, 1) := by decide +kernel
theorem dX7_figureHere_10 : decode cX7_figureHere 10 = .ok (.bipush 48, 2) := by decide +kernel
theorem dX7_figureHere_12 : decode cX7_figureHere 12 = .ok (.if_icmp .lt 16, 3) := by decide +kernel
theorem dX7_figureHere_15 : decode cX7_figureHere 15 = .ok (.iload_n 2, 1) := by decide +kernel
theorem dX7_figureHere_16 : decode cX7_figureHere 16 = .ok (.bipush 57, 2) := by decide +kernel
theorem dX7_figureHere_18 : decode cX7_figureHere 18 = .ok (.if_icmp .gt 10, 3) := by decide +kernel
theorem dX7_figureHere_21 : decode cX7_figureHere 21 = .ok (.iload_n 2, 1) := by decide +kernel
theorem dX7_figureHere_22 : decode cX7_figureHere 22 = .ok (.bipush 48, 2) := by decide +kernel
theorem dX7_figureHere_24 : decode cX7_figureHere 24 = .ok (.isub, 1) := by decide +kernel
theorem dX7_figureHere_25 : decode cX7_figureHere 25 = .ok (.goto 5, 3) := by decide +kernel
theorem dX7_figureHere_28 : decode cX7_figureHere 28 = .ok (.bipush (-9), 2) := by decide +kernel
theorem dX7_figureHere_30 : decode cX7_figureHere 30 = .ok (.ireturn, 1) := by decide +kernel
theorem dX7_readNumber_0 : decode cX7_readNumber 0 = .ok (.aload_n 0, 1) := by decide +kernel
theorem dX7_readNumber_1 : decode cX7_readNumber 1 = .ok (.aload_n 1, 1) := by decide +kernel
theorem dX7_readNumber_2 : decode cX7_readNumber 2 = .ok (.invokevirtual 101, 3) := by decide +kernel
theorem dX7_readNumber_5 : decode cX7_readNumber 5 = .ok (.istore_n 3, 1) := by decide +kernel
theorem dX7_readNumber_6 : decode cX7_readNumber 6 = .ok (.iload_n 3, 1) := by decide +kernel
theorem dX7_readNumber_7 : decode cX7_readNumber 7 = .ok (.bipush (-9), 2) := by decide +kernel
theorem dX7_readNumber_9 : decode cX7_readNumber 9 = .ok (.if_icmp .ne 10, 3) := by decide +kernel
theorem dX7_readNumber_12 : decode cX7_readNumber 12 = .ok (.aload_n 0, 1) := by decide +kernel
theorem dX7_readNumber_13 : decode cX7_readNumber 13 = .ok (.invokevirtual 43, 3) := by decide +kernel
theorem dX7_readNumber_16 : decode cX7_readNumber 16 = .ok (.bipush (-9), 2) := by decide +kernel
theorem dX7_readNumber_18 : decode cX7_readNumber 18 = .ok (.ireturn, 1) := by decide +kernel
theorem dX7_readNumber_19 : decode cX7_readNumber 19 = .ok (.aload_n 0, 1) := by decide +kernel
theorem dX7_readNumber_20 : decode cX7_readNumber 20 = .ok (.dup, 1) := by decide +kernel
theorem dX7_readNumber_21 : decode cX7_readNumber 21 = .ok (.getfield 9, 3) := by decide +kernel
theorem dX7_readNumber_24 : decode cX7_readNumber 24 = .ok (.iconst 1, 1) := by decide +kernel
theorem dX7_readNumber_25 : decode cX7_readNumber 25 = .ok (.iadd, 1) := by decide +kernel
theorem dX7_readNumber_26 : decode cX7_readNumber 26 = .ok (.putfield 9, 3) := by decide +kernel
theorem dX7_readNumber_29 : decode cX7_readNumber 29 = .ok (.aload_n 0, 1) := by decide +kernel
theorem dX7_readNumber_30 : decode cX7_readNumber 30 = .ok (.aload_n 1, 1) := by decide +kernel
theorem dX7_readNumber_31 : decode cX7_readNumber 31 = .ok (.invokevirtual 101, 3) := by decide +kernel
theorem dX7_readNumber_34 : decode cX7_readNumber 34 = .ok (.istore 4, 2) := by decide +kernel
theorem dX7_readNumber_36 : decode cX7_readNumber 36 = .ok (.iload 4, 2) := by decide +kernel
theorem dX7_readNumber_38 : decode cX7_readNumber 38 = .ok (.bipush (-9), 2) := by decide +kernel
theorem dX7_readNumber_40 : decode cX7_readNumber 40 = .ok (.if_icmp .eq 21, 3) := by decide +kernel
theorem dX7_readNumber_43 : decode cX7_readNumber 43 = .ok (.bipush 10, 2) := by decide +kernel
theorem dX7_readNumber_45 : decode cX7_readNumber 45 = .ok (.iload_n 3, 1) := by decide +kernel
theorem dX7_readNumber_46 : decode cX7_readNumber 46 = .ok (.imul, 1) := by decide +kernel
theorem dX7_readNumber_47 : decode cX7_readNumber 47 = .ok (.iload 4, 2) := by decide +kernel
theorem dX7_readNumber_49 : decode cX7_readNumber 49 = .ok (.iadd, 1) := by decide +kernel
theorem dX7_readNumber_50 : decode cX7_readNumber 50 = .ok (.istore_n 3, 1) := by decide +kernel
theorem dX7_readNumber_51 : decode cX7_readNumber 51 = .ok (.aload_n 0, 1) := by decide +kernel
theorem dX7_readNumber_52 : decode cX7_readNumber 52 = .ok (.dup, 1) := by decide +kernel
theorem dX7_readNumber_53 : decode cX7_readNumber 53 = .ok (.getfield 9, 3) := by decide +kernel
theorem dX7_readNumber_56 : decode cX7_readNumber 56 = .ok (.iconst 1, 1) := by decide +kernel
theorem dX7_readNumber_57 : decode cX7_readNumber 57 = .ok (.iadd, 1) := by decide +kernel
theorem dX7_readNumber_58 : decode cX7_readNumber 58 = .ok (.putfield 9, 3) := by decide +kernel
theorem dX7_readNumber_61 : decode cX7_readNumber 61 = .ok (.iload_n 3, 1) := by decide +kernel
theorem dX7_readNumber_62 : decode cX7_readNumber 62 = .ok (.iload_n 2, 1) := by decide +kernel
theorem dX7_readNumber_63 : decode cX7_readNumber 63 = .ok (.if_icmp .le 10, 3) := by decide +kernel
theorem dX7_readNumber_66 : decode cX7_readNumber 66 = .ok (.aload_n 0, 1) := by decide +kernel
theorem dX7_readNumber_67 : decode cX7_readNumber 67 = .ok (.invokevirtual 43, 3) := by decide +kernel
theorem dX7_readNumber_70 : decode cX7_readNumber 70 = .ok (.bipush (-9), 2) := by decide +kernel
theorem dX7_readNumber_72 : decode cX7_readNumber 72 = .ok (.ireturn, 1) := by decide +kernel
theorem dX7_readNumber_73 : decode cX7_readNumber 73 = .ok (.iload_n 3, 1) := by decide +kernel
theorem dX7_readNumber_74 : decode cX7_readNumber 74 = .ok (.ireturn, 1) := by decide +kernel
theorem dX7_readFigure_0 : decode cX7_readFigure 0 = .ok (.aload_n 0, 1) := by decide +kernel
theorem dX7_readFigure_1 : decode cX7_readFigure 1 = .ok (.aload_n 1, 1) := by decide +kernel
theorem dX7_readFigure_2 : decode cX7_readFigure 2 = .ok (.invokevirtual 101, 3) := by decide +kernel
theorem dX7_readFigure_5 : decode cX7_readFigure 5 = .ok (.istore_n 3, 1) := by decide +kernel
theorem dX7_readFigure_6 : decode cX7_readFigure 6 = .ok (.iload_n 3, 1) := by decide +kernel
theorem dX7_readFigure_7 : decode cX7_readFigure 7 = .ok (.iconst 1, 1) := by decide +kernel
theorem dX7_readFigure_8 : decode cX7_readFigure 8 = .ok (.if_icmp .lt 8, 3) := by decide +kernel
theorem dX7_readFigure_11 : decode cX7_readFigure 11 = .ok (.iload_n 3, 1) := by decide +kernel
theorem dX7_readFigure_12 : decode cX7_readFigure 12 = .ok (.iload_n 2, 1) := by decide +kernel
theorem dX7_readFigure_13 : decode cX7_readFigure 13 = .ok (.if_icmp .le 10, 3) := by decide +kernel
theorem dX7_readFigure_16 : decode cX7_readFigure 16 = .ok (.aload_n 0, 1) := by decide +kernel
theorem dX7_readFigure_17 : decode cX7_readFigure 17 = .ok (.invokevirtual 43, 3) := by decide +kernel
theorem dX7_readFigure_20 : decode cX7_readFigure 20 = .ok (.bipush (-9), 2) := by decide +kernel
theorem dX7_readFigure_22 : decode cX7_readFigure 22 = .ok (.ireturn, 1) := by decide +kernel
theorem dX7_readFigure_23 : decode cX7_readFigure 23 = .ok (.aload_n 0, 1) := by decide +kernel
theorem dX7_readFigure_24 : decode cX7_readFigure 24 = .ok (.dup, 1) := by decide +kernel
theorem dX7_readFigure_25 : decode cX7_readFigure 25 = .ok (.getfield 9, 3) := by decide +kernel
theorem dX7_readFigure_28 : decode cX7_readFigure 28 = .ok (.iconst 1, 1) := by decide +kernel
theorem dX7_readFigure_29 : decode cX7_readFigure 29 = .ok (.iadd, 1) := by decide +kernel
theorem dX7_readFigure_30 : decode cX7_readFigure 30 = .ok (.putfield 9, 3) := by decide +kernel
theorem dX7_readFigure_33 : decode cX7_readFigure 33 = .ok (.iload_n 3, 1) := by decide +kernel
theorem dX7_readFigure_34 : decode cX7_readFigure 34 = .ok (.ireturn, 1) := by decide +kernel
theorem dX8_init_0 : decode cX8_init 0 = .ok (.aload_n 0, 1) := by decide +kernel
theorem dX8_init_1 : decode cX8_init 1 = .ok (.invokespecial 1, 3) := by decide +kernel
theorem dX8_init_4 : decode cX8_init 4 = .ok (.aload_n 0, 1) := by decide +kernel
theorem dX8_init_5 : decode cX8_init 5 = .ok (.iconst (-1), 1) := by decide +kernel
theorem dX8_init_6 : decode cX8_init 6 = .ok (.putfield 7, 3) := by decide +kernel
theorem dX8_init_9 : decode cX8_init 9 = .ok (.aload_n 0, 1) := by decide +kernel
theorem dX8_init_10 : decode cX8_init 10 = .ok (.iconst 0, 1) := by decide +kernel
theorem dX8_init_11 : decode cX8_init 11 = .ok (.iload_n 1, 1) := by decide +kernel
theorem dX8_init_12 : decode cX8_init 12 = .ok (.invokestatic 13, 3) := by decide +kernel
theorem dX8_init_15 : decode cX8_init 15 = .ok (.newarray .int, 2) := by decide +kernel
theorem dX8_init_17 : decode cX8_init 17 = .ok (.putfield 19, 3) := by decide +kernel
theorem dX8_init_20 : decode cX8_init 20 = .ok (.return_, 1) := by decide +kernel
theorem dX8_isMissing_0 : decode cX8_isMissing 0 = .ok (.aload_n 0, 1) := by decide +kernel
theorem dX8_isMissing_1 : decode cX8_isMissing 1 = .ok (.getfield 7, 3) := by decide +kernel
theorem dX8_isMissing_4 : decode cX8_isMissing 4 = .ok (.ifCond .ge 7, 3) := by decide +kernel
theorem dX8_isMissing_7 : decode cX8_isMissing 7 = .ok (.iconst 1, 1) := by decide +kernel
theorem dX8_isMissing_8 : decode cX8_isMissing 8 = .ok (.goto 4, 3) := by decide +kernel
theorem dX8_isMissing_11 : decode cX8_isMissing 11 = .ok (.iconst 0, 1) := by decide +kernel
theorem dX8_isMissing_12 : decode cX8_isMissing 12 = .ok (.ireturn, 1) := by decide +kernel
theorem dX8_length_0 : decode cX8_length 0 = .ok (.aload_n 0, 1) := by decide +kernel
theorem dX8_length_1 : decode cX8_length 1 = .ok (.getfield 7, 3) := by decide +kernel
theorem dX8_length_4 : decode cX8_length 4 = .ok (.ireturn, 1) := by decide +kernel
theorem dX8_has_0 : decode cX8_has 0 = .ok (.iload_n 1, 1) := by decide +kernel
theorem dX8_has_1 : decode cX8_has 1 = .ok (.ifCond .lt 24, 3) := by decide +kernel
theorem dX8_has_4 : decode cX8_has 4 = .ok (.iload_n 1, 1) := by decide +kernel
theorem dX8_has_5 : decode cX8_has 5 = .ok (.aload_n 0, 1) := by decide +kernel
theorem dX8_has_6 : decode cX8_has 6 = .ok (.getfield 7, 3) := by decide +kernel
theorem dX8_has_9 : decode cX8_has 9 = .ok (.if_icmp .ge 16, 3) := by decide +kernel
theorem dX8_has_12 : decode cX8_has 12 = .ok (.iload_n 1, 1) := by decide +kernel
theorem dX8_has_13 : decode cX8_has 13 = .ok (.aload_n 0, 1) := by decide +kernel
theorem dX8_has_14 : decode cX8_has 14 = .ok (.getfield 19, 3) := by decide +kernel
theorem dX8_has_17 : decode cX8_has 17 = .ok (.arraylength, 1) := by decide +kernel
theorem dX8_has_18 : decode cX8_has 18 = .ok (.if_icmp .ge 7, 3) := by decide +kernel
theorem dX8_has_21 : decode cX8_has 21 = .ok (.iconst 1, 1) := by decide +kernel
theorem dX8_has_22 : decode cX8_has 22 = .ok (.goto 4, 3) := by decide +kernel
theorem dX8_has_25 : decode cX8_has 25 = .ok (.iconst 0, 1) := by decide +kernel
theorem dX8_has_26 : decode cX8_has 26 = .ok (.ireturn, 1) := by decide +kernel
theorem dX8_cell_0 : decode cX8_cell 0 = .ok (.aload_n 0, 1) := by decide +kernel
theorem dX8_cell_1 : decode cX8_cell 1 = .ok (.iload_n 1, 1) := by decide +kernel
theorem dX8_cell_2 : decode cX8_cell 2 = .ok (.invokevirtual 23, 3) := by decide +kernel
theorem dX8_cell_5 : decode cX8_cell 5 = .ok (.ifCond .eq 12, 3) := by decide +kernel
theorem dX8_cell_8 : decode cX8_cell 8 = .ok (.aload_n 0, 1) := by decide +kernel
theorem dX8_cell_9 : decode cX8_cell 9 = .ok (.getfield 19, 3) := by decide +kernel
theorem dX8_cell_12 : decode cX8_cell 12 = .ok (.iload_n 1, 1) := by decide +kernel
theorem dX8_cell_13 : decode cX8_cell 13 = .ok (.iaload, 1) := by decide +kernel
theorem dX8_cell_14 : decode cX8_cell 14 = .ok (.goto 4, 3) := by decide +kernel
theorem dX8_cell_17 : decode cX8_cell 17 = .ok (.iconst 0, 1) := by decide +kernel
theorem dX8_cell_18 : decode cX8_cell 18 = .ok (.ireturn, 1) := by decide +kernel
theorem dX8_set_0 : decode cX8_set 0 = .ok (.aload_n 0, 1) := by decide +kernel
theorem dX8_set_1 : decode cX8_set 1 = .ok (.iload_n 1, 1) := by decide +kernel
theorem dX8_set_2 : decode cX8_set 2 = .ok (.invokevirtual 23, 3) := by decide +kernel
theorem dX8_set_5 : decode cX8_set 5 = .ok (.ifCond .eq 10, 3) := by decide +kernel
theorem dX8_set_8 : decode cX8_set 8 = .ok (.aload_n 0, 1) := by decide +kernel
theorem dX8_set_9 : decode cX8_set 9 = .ok (.getfield 19, 3) := by decide +kernel
theorem dX8_set_12 : decode cX8_set 12 = .ok (.iload_n 1, 1) := by decide +kernel
theorem dX8_set_13 : decode cX8_set 13 = .ok (.iload_n 2, 1) := by decide +kernel
theorem dX8_set_14 : decode cX8_set 14 = .ok (.iastore, 1) := by decide +kernel
theorem dX8_set_15 : decode cX8_set 15 = .ok (.return_, 1) := by decide +kernel
theorem dX8_make_0 : decode cX8_make 0 = .ok (.iload_n 1, 1) := by decide +kernel
theorem dX8_make_1 : decode cX8_make 1 = .ok (.ifCond .lt 12, 3) := by decide +kernel
theorem dX8_make_4 : decode cX8_make 4 = .ok (.iload_n 1, 1) := by decide +kernel
theorem dX8_make_5 : decode cX8_make 5 = .ok (.aload_n 0, 1) := by decide +kernel
theorem dX8_make_6 : decode cX8_make 6 = .ok (.getfield 19, 3) := by decide +kernel
theorem dX8_make_9 : decode cX8_make 9 = .ok (.arraylength, 1) := by decide +kernel
theorem dX8_make_10 : decode cX8_make 10 = .ok (.if_icmp .le 4, 3) := by decide +kernel
theorem dX8_make_13 : decode cX8_make 13 = .ok (.return_, 1) := by decide +kernel
theorem dX8_make_14 : decode cX8_make 14 = .ok (.aload_n 0, 1) := by decide +kernel
theorem dX8_make_15 : decode cX8_make 15 = .ok (.iload_n 1, 1) := by decide +kernel
theorem dX8_make_16 : decode cX8_make 16 = .ok (.putfield 7, 3) := by decide +kernel
theorem dX8_make_19 : decode cX8_make 19 = .ok (.iconst 0, 1) := by decide +kernel
theorem dX8_make_20 : decode cX8_make 20 = .ok (.istore_n 3, 1) := by decide +kernel
theorem dX8_make_21 : decode cX8_make 21 = .ok (.iload_n 3, 1) := by decide +kernel
theorem dX8_make_22 : decode cX8_make 22 = .ok (.iload_n 1, 1) := by decide +kernel
theorem dX8_make_23 : decode cX8_make 23 = .ok (.if_icmp .ge 16, 3) := by decide +kernel
theorem dX8_make_26 : decode cX8_make 26 = .ok (.aload_n 0, 1) := by decide +kernel
theorem dX8_make_27 : decode cX8_make 27 = .ok (.getfield 19, 3) := by decide +kernel
theorem dX8_make_30 : decode cX8_make 30 = .ok (.iload_n 3, 1) := by decide +kernel
theorem dX8_make_31 : decode cX8_make 31 = .ok (.iload_n 2, 1) := by decide +kernel
theorem dX8_make_32 : decode cX8_make 32 = .ok (.iastore, 1) := by decide +kernel
theorem dX8_make_33 : decode cX8_make 33 = .ok (.iinc 3 1, 3) := by decide +kernel
theorem dX8_make_36 : decode cX8_make 36 = .ok (.goto (-15), 3) := by decide +kernel
theorem dX8_make_39 : decode cX8_make 39 = .ok (.return_, 1) := by decide +kernel
theorem dX9_init_0 : decode cX9_init 0 = .ok (.aload_n 0, 1) := by decide +kernel
theorem dX9_init_1 : decode cX9_init 1 = .ok (.invokespecial 3, 3) := by decide +kernel
theorem dX9_init_4 : decode cX9_init 4 = .ok (.aload_n 0, 1) := by decide +kernel
theorem dX9_init_5 : decode cX9_init 5 = .ok (.ldc 11, 2) := by decide +kernel
theorem dX9_init_7 : decode cX9_init 7 = .ok (.newarray .int, 2) := by decide +kernel
theorem dX9_init_9 : decode cX9_init 9 = .ok (.putfield 12, 3) := by decide +kernel
theorem dX9_init_12 : decode cX9_init 12 = .ok (.aload_n 0, 1) := by decide +kernel
theorem dX9_init_13 : decode cX9_init 13 = .ok (.aload_n 1, 1) := by decide +kernel
theorem dX9_init_14 : decode cX9_init 14 = .ok (.putfield 16, 3) := by decide +kernel
theorem dX9_init_17 : decode cX9_init 17 = .ok (.return_, 1) := by decide +kernel
theorem dX9_numberOfOrders_0 : decode cX9_numberOfOrders 0 = .ok (.iconst 0, 1) := by decide +kernel
theorem dX9_numberOfOrders_1 : decode cX9_numberOfOrders 1 = .ok (.istore_n 3, 1) := by decide +kernel
theorem dX9_numberOfOrders_2 : decode cX9_numberOfOrders 2 = .ok (.iconst 1, 1) := by decide +kernel
theorem dX9_numberOfOrders_3 : decode cX9_numberOfOrders 3 = .ok (.istore 4, 2) := by decide +kernel
theorem dX9_numberOfOrders_5 : decode cX9_numberOfOrders 5 = .ok (.iload 4, 2) := by decide +kernel
theorem dX9_numberOfOrders_7 : decode cX9_numberOfOrders 7 = .ok (.iload_n 1, 1) := by decide +kernel
theorem dX9_numberOfOrders_8 : decode cX9_numberOfOrders 8 = .ok (.if_icmp .gt 94, 3) := by decide +kernel
theorem dX9_numberOfOrders_11 : decode cX9_numberOfOrders 11 = .ok (.iload 4, 2) := by decide +kernel
theorem dX9_numberOfOrders_13 : decode cX9_numberOfOrders 13 = .ok (.sipush 256, 3) := by decide +kernel
theorem dX9_numberOfOrders_16 : decode cX9_numberOfOrders 16 = .ok (.if_icmp .ge 86, 3) := by decide +kernel
theorem dX9_numberOfOrders_19 : decode cX9_numberOfOrders 19 = .ok (.iload 4, 2) := by decide +kernel
theorem dX9_numberOfOrders_21 : decode cX9_numberOfOrders 21 = .ok (.iload_n 1, 1) := by decide +kernel
theorem dX9_numberOfOrders_22 : decode cX9_numberOfOrders 22 = .ok (.iconst (-1), 1) := by decide +kernel
theorem dX9_numberOfOrders_23 : decode cX9_numberOfOrders 23 = .ok (.ixor, 1) := by decide +kernel
theorem dX9_numberOfOrders_24 : decode cX9_numberOfOrders 24 = .ok (.iand, 1) := by decide +kernel
theorem dX9_numberOfOrders_25 : decode cX9_numberOfOrders 25 = .ok (.ifCond .ne 7, 3) := by decide +kernel
theorem dX9_numberOfOrders_28 : decode cX9_numberOfOrders 28 = .ok (.iconst 1, 1) := by decide +kernel
theorem dX9_numberOfOrders_29 : decode cX9_numberOfOrders 29 = .ok (.goto 4, 3) := by decide +kernel
theorem dX9_numberOfOrders_32 : decode cX9_numberOfOrders 32 = .ok (.iconst 0, 1) := by decide +kernel
theorem dX9_numberOfOrders_33 : decode cX9_numberOfOrders 33 = .ok (.istore 5, 2) := by decide +kernel
theorem dX9_numberOfOrders_35 : decode cX9_numberOfOrders 35 = .ok (.iconst 0, 1) := by decide +kernel
theorem dX9_numberOfOrders_36 : decode cX9_numberOfOrders 36 = .ok (.istore 6, 2) := by decide +kernel
theorem dX9_numberOfOrders_38 : decode cX9_numberOfOrders 38 = .ok (.iload 6, 2) := by decide +kernel
theorem dX9_numberOfOrders_40 : decode cX9_numberOfOrders 40 = .ok (.bipush 8, 2) := by decide +kernel
theorem dX9_numberOfOrders_42 : decode cX9_numberOfOrders 42 = .ok (.if_icmp .ge 54, 3) := by decide +kernel
theorem dX9_numberOfOrders_45 : decode cX9_numberOfOrders 45 = .ok (.iload 5, 2) := by decide +kernel
theorem dX9_numberOfOrders_47 : decode cX9_numberOfOrders 47 = .ok (.ifCond .eq 49, 3) := by decide +kernel
theorem dX9_numberOfOrders_50 : decode cX9_numberOfOrders 50 = .ok (.iload 6, 2) := by decide +kernel
theorem dX9_numberOfOrders_52 : decode cX9_numberOfOrders 52 = .ok (.iload 4, 2) := by decide +kernel
theorem dX9_numberOfOrders_54 : decode cX9_numberOfOrders 54 = .ok (.invokestatic 20, 3) := by decide +kernel
theorem dX9_numberOfOrders_57 : decode cX9_numberOfOrders 57 = .ok (.ifCond .eq 33, 3) := by decide +kernel
theorem dX9_numberOfOrders_60 : decode cX9_numberOfOrders 60 = .ok (.aload_n 0, 1) := by decide +kernel
theorem dX9_numberOfOrders_61 : decode cX9_numberOfOrders 61 = .ok (.iload 4, 2) := by decide +kernel
theorem dX9_numberOfOrders_63 : decode cX9_numberOfOrders 63 = .ok (.iload 6, 2) := by decide +kernel
theorem dX9_numberOfOrders_65 : decode cX9_numberOfOrders 65 = .ok (.iload_n 2, 1) := by decide +kernel
theorem dX9_numberOfOrders_66 : decode cX9_numberOfOrders 66 = .ok (.invokevirtual 24, 3) := by decide +kernel
theorem dX9_numberOfOrders_69 : decode cX9_numberOfOrders 69 = .ok (.iload_n 3, 1) := by decide +kernel
theorem dX9_numberOfOrders_70 : decode cX9_numberOfOrders 70 = .ok (.iload 4, 2) := by decide +kernel
theorem dX9_numberOfOrders_72 : decode cX9_numberOfOrders 72 = .ok (.iload_n 1, 1) := by decide +kernel
theorem dX9_numberOfOrders_73 : decode cX9_numberOfOrders 73 = .ok (.if_icmp .ne 14, 3) := by decide +kernel
theorem dX9_numberOfOrders_76 : decode cX9_numberOfOrders 76 = .ok (.aload_n 0, 1) := by decide +kernel
theorem dX9_numberOfOrders_77 : decode cX9_numberOfOrders 77 = .ok (.iload 4, 2) := by decide +kernel
theorem dX9_numberOfOrders_79 : decode cX9_numberOfOrders 79 = .ok (.iload 6, 2) := by decide +kernel
theorem dX9_numberOfOrders_81 : decode cX9_numberOfOrders 81 = .ok (.invokevirtual 28, 3) := by decide +kernel
theorem dX9_numberOfOrders_84 : decode cX9_numberOfOrders 84 = .ok (.goto 4, 3) := by decide +kernel
theorem dX9_numberOfOrders_87 : decode cX9_numberOfOrders 87 = .ok (.iconst 0, 1) := by decide +kernel
theorem dX9_numberOfOrders_88 : decode cX9_numberOfOrders 88 = .ok (.iadd, 1) := by decide +kernel
theorem dX9_numberOfOrders_89 : decode cX9_numberOfOrders 89 = .ok (.istore_n 3, 1) := by decide +kernel
theorem dX9_numberOfOrders_90 : decode cX9_numberOfOrders 90 = .ok (.iinc 6 1, 3) := by decide +kernel
theorem dX9_numberOfOrders_93 : decode cX9_numberOfOrders 93 = .ok (.goto (-55), 3) := by decide +kernel
theorem dX9_numberOfOrders_96 : decode cX9_numberOfOrders 96 = .ok (.iinc 4 1, 3) := by decide +kernel
theorem dX9_numberOfOrders_99 : decode cX9_numberOfOrders 99 = .ok (.goto (-94), 3) := by decide +kernel
theorem dX9_numberOfOrders_102 : decode cX9_numberOfOrders 102 = .ok (.iload_n 1, 1) := by decide +kernel
theorem dX9_numberOfOrders_103 : decode cX9_numberOfOrders 103 = .ok (.ifCond .ne 7, 3) := by decide +kernel
theorem dX9_numberOfOrders_106 : decode cX9_numberOfOrders 106 = .ok (.iconst 1, 1) := by decide +kernel
theorem dX9_numberOfOrders_107 : decode cX9_numberOfOrders 107 = .ok (.goto 4, 3) := by decide +kernel
theorem dX9_numberOfOrders_110 : decode cX9_numberOfOrders 110 = .ok (.iload_n 3, 1) := by decide +kernel
theorem dX9_numberOfOrders_111 : decode cX9_numberOfOrders 111 = .ok (.ireturn, 1) := by decide +kernel
theorem dX9_numberTo_0 : decode cX9_numberTo 0 = .ok (.iload_n 1, 1) := by decide +kernel
theorem dX9_numberTo_1 : decode cX9_numberTo 1 = .ok (.iload_n 2, 1) := by decide +kernel
theorem dX9_numberTo_2 : decode cX9_numberTo 2 = .ok (.invokestatic 32, 3) := by decide +kernel
theorem dX9_numberTo_5 : decode cX9_numberTo 5 = .ok (.iconst (-1), 1) := by decide +kernel
theorem dX9_numberTo_6 : decode cX9_numberTo 6 = .ok (.ixor, 1) := by decide +kernel
theorem dX9_numberTo_7 : decode cX9_numberTo 7 = .ok (.iand, 1) := by decide +kernel
theorem dX9_numberTo_8 : decode cX9_numberTo 8 = .ok (.istore 4, 2) := by decide +kernel
theorem dX9_numberTo_10 : decode cX9_numberTo 10 = .ok (.iconst 0, 1) := by decide +kernel
theorem dX9_numberTo_11 : decode cX9_numberTo 11 = .ok (.istore 5, 2) := by decide +kernel
theorem dX9_numberTo_13 : decode cX9_numberTo 13 = .ok (.iload 5, 2) := by decide +kernel
theorem dX9_numberTo_15 : decode cX9_numberTo 15 = .ok (.bipush 29, 2) := by decide +kernel
theorem dX9_numberTo_17 : decode cX9_numberTo 17 = .ok (.if_icmp .ge 18, 3) := by decide +kernel
theorem dX9_numberTo_20 : decode cX9_numberTo 20 = .ok (.aload_n 0, 1) := by decide +kernel
theorem dX9_numberTo_21 : decode cX9_numberTo 21 = .ok (.iload_n 1, 1) := by decide +kernel
theorem dX9_numberTo_22 : decode cX9_numberTo 22 = .ok (.iload_n 2, 1) := by decide +kernel
theorem dX9_numberTo_23 : decode cX9_numberTo 23 = .ok (.iload 5, 2) := by decide +kernel
theorem dX9_numberTo_25 : decode cX9_numberTo 25 = .ok (.iconst 0, 1) := by decide +kernel
theorem dX9_numberTo_26 : decode cX9_numberTo 26 = .ok (.invokevirtual 36, 3) := by decide +kernel
theorem dX9_numberTo_29 : decode cX9_numberTo 29 = .ok (.iinc 5 1, 3) := by decide +kernel
theorem dX9_numberTo_32 : decode cX9_numberTo 32 = .ok (.goto (-19), 3) := by decide +kernel
theorem dX9_numberTo_35 : decode cX9_numberTo 35 = .ok (.iload 4, 2) := by decide +kernel
theorem dX9_numberTo_37 : decode cX9_numberTo 37 = .ok (.ifCond .ne 20, 3) := by decide +kernel
theorem dX9_numberTo_40 : decode cX9_numberTo 40 = .ok (.aload_n 0, 1) := by decide +kernel
theorem dX9_numberTo_41 : decode cX9_numberTo 41 = .ok (.iload_n 1, 1) := by decide +kernel
theorem dX9_numberTo_42 : decode cX9_numberTo 42 = .ok (.iload_n 2, 1) := by decide +kernel
theorem dX9_numberTo_43 : decode cX9_numberTo 43 = .ok (.aload_n 0, 1) := by decide +kernel
theorem dX9_numberTo_44 : decode cX9_numberTo 44 = .ok (.getfield 16, 3) := by decide +kernel
theorem dX9_numberTo_47 : decode cX9_numberTo 47 = .ok (.iload_n 2, 1) := by decide +kernel
theorem dX9_numberTo_48 : decode cX9_numberTo 48 = .ok (.iload_n 3, 1) := by decide +kernel
theorem dX9_numberTo_49 : decode cX9_numberTo 49 = .ok (.iconst 0, 1) := by decide +kernel
theorem dX9_numberTo_50 : decode cX9_numberTo 50 = .ok (.invokevirtual 40, 3) := by decide +kernel
theorem dX9_numberTo_53 : decode cX9_numberTo 53 = .ok (.iconst 1, 1) := by decide +kernel
theorem dX9_numberTo_54 : decode cX9_numberTo 54 = .ok (.invokevirtual 36, 3) := by decide +kernel
theorem dX9_numberTo_57 : decode cX9_numberTo 57 = .ok (.iconst 0, 1) := by decide +kernel
theorem dX9_numberTo_58 : decode cX9_numberTo 58 = .ok (.istore 5, 2) := by decide +kernel
theorem dX9_numberTo_60 : decode cX9_numberTo 60 = .ok (.iload 5, 2) := by decide +kernel
theorem dX9_numberTo_62 : decode cX9_numberTo 62 = .ok (.bipush 8, 2) := by decide +kernel
theorem dX9_numberTo_64 : decode cX9_numberTo 64 = .ok (.if_icmp .ge 96, 3) := by decide +kernel
theorem dX9_numberTo_67 : decode cX9_numberTo 67 = .ok (.iload 5, 2) := by decide +kernel
theorem dX9_numberTo_69 : decode cX9_numberTo 69 = .ok (.iload 4, 2) := by decide +kernel
theorem dX9_numberTo_71 : decode cX9_numberTo 71 = .ok (.invokestatic 20, 3) := by decide +kernel
theorem dX9_numberTo_74 : decode cX9_numberTo 74 = .ok (.istore 6, 2) := by decide +kernel
theorem dX9_numberTo_76 : decode cX9_numberTo 76 = .ok (.iconst 0, 1) := by decide +kernel
theorem dX9_numberTo_77 : decode cX9_numberTo 77 = .ok (.istore 7, 2) := by decide +kernel
theorem dX9_numberTo_79 : decode cX9_numberTo 79 = .ok (.iload 7, 2) := by decide +kernel
theorem dX9_numberTo_81 : decode cX9_numberTo 81 = .ok (.bipush 29, 2) := by decide +kernel
theorem dX9_numberTo_83 : decode cX9_numberTo 83 = .ok (.if_icmp .ge 71, 3) := by decide +kernel
theorem dX9_numberTo_86 : decode cX9_numberTo 86 = .ok (.iload 6, 2) := by decide +kernel
theorem dX9_numberTo_88 : decode cX9_numberTo 88 = .ok (.ifCond .eq 66, 3) := by decide +kernel
theorem dX9_numberTo_91 : decode cX9_numberTo 91 = .ok (.aload_n 0, 1) := by decide +kernel
theorem dX9_numberTo_92 : decode cX9_numberTo 92 = .ok (.iload 4, 2) := by decide +kernel
theorem dX9_numberTo_94 : decode cX9_numberTo 94 = .ok (.iload 5, 2) := by decide +kernel
theorem dX9_numberTo_96 : decode cX9_numberTo 96 = .ok (.iload 7, 2) := by decide +kernel
theorem dX9_numberTo_98 : decode cX9_numberTo 98 = .ok (.invokevirtual 46, 3) := by decide +kernel
theorem dX9_numberTo_101 : decode cX9_numberTo 101 = .ok (.istore 8, 2) := by decide +kernel
theorem dX9_numberTo_103 : decode cX9_numberTo 103 = .ok (.iload 8, 2) := by decide +kernel
theorem dX9_numberTo_105 : decode cX9_numberTo 105 = .ok (.ifCond .le 43, 3) := by decide +kernel
theorem dX9_numberTo_108 : decode cX9_numberTo 108 = .ok (.aload_n 0, 1) := by decide +kernel
theorem dX9_numberTo_109 : decode cX9_numberTo 109 = .ok (.getfield 16, 3) := by decide +kernel
theorem dX9_numberTo_112 : decode cX9_numberTo 112 = .ok (.iload_n 2, 1) := by decide +kernel
theorem dX9_numberTo_113 : decode cX9_numberTo 113 = .ok (.aload_n 0, 1) := by decide +kernel
theorem dX9_numberTo_114 : decode cX9_numberTo 114 = .ok (.getfield 16, 3) := by decide +kernel
theorem dX9_numberTo_117 : decode cX9_numberTo 117 = .ok (.iload 5, 2) := by decide +kernel
theorem dX9_numberTo_119 : decode cX9_numberTo 119 = .ok (.invokevirtual 49, 3) := by decide +kernel
theorem dX9_numberTo_122 : decode cX9_numberTo 122 = .ok (.iload 7, 2) := by decide +kernel
theorem dX9_numberTo_124 : decode cX9_numberTo 124 = .ok (.invokevirtual 40, 3) := by decide +kernel
theorem dX9_numberTo_127 : decode cX9_numberTo 127 = .ok (.istore 9, 2) := by decide +kernel
theorem dX9_numberTo_129 : decode cX9_numberTo 129 = .ok (.aload_n 0, 1) := by decide +kernel
theorem dX9_numberTo_130 : decode cX9_numberTo 130 = .ok (.iload_n 1, 1) := by decide +kernel
theorem dX9_numberTo_131 : decode cX9_numberTo 131 = .ok (.iload_n 2, 1) := by decide +kernel
theorem dX9_numberTo_132 : decode cX9_numberTo 132 = .ok (.iload 9, 2) := by decide +kernel
theorem dX9_numberTo_134 : decode cX9_numberTo 134 = .ok (.aload_n 0, 1) := by decide +kernel
theorem dX9_numberTo_135 : decode cX9_numberTo 135 = .ok (.iload_n 1, 1) := by decide +kernel
theorem dX9_numberTo_136 : decode cX9_numberTo 136 = .ok (.iload_n 2, 1) := by decide +kernel
theorem dX9_numberTo_137 : decode cX9_numberTo 137 = .ok (.iload 9, 2) := by decide +kernel
theorem dX9_numberTo_139 : decode cX9_numberTo 139 = .ok (.invokevirtual 46, 3) := by decide +kernel
theorem dX9_numberTo_142 : decode cX9_numberTo 142 = .ok (.iload 8, 2) := by decide +kernel
theorem dX9_numberTo_144 : decode cX9_numberTo 144 = .ok (.iadd, 1) := by decide +kernel
theorem dX9_numberTo_145 : decode cX9_numberTo 145 = .ok (.invokevirtual 36, 3) := by decide +kernel
theorem dX9_numberTo_148 : decode cX9_numberTo 148 = .ok (.iinc 7 1, 3) := by decide +kernel
theorem dX9_numberTo_151 : decode cX9_numberTo 151 = .ok (.goto (-72), 3) := by decide +kernel
theorem dX9_numberTo_154 : decode cX9_numberTo 154 = .ok (.iinc 5 1, 3) := by decide +kernel
theorem dX9_numberTo_157 : decode cX9_numberTo 157 = .ok (.goto (-97), 3) := by decide +kernel
theorem dX9_numberTo_160 : decode cX9_numberTo 160 = .ok (.return_, 1) := by decide +kernel
theorem dX9_sumOf_0 : decode cX9_sumOf 0 = .ok (.iconst 0, 1) := by decide +kernel
theorem dX9_sumOf_1 : decode cX9_sumOf 1 = .ok (.istore_n 3, 1) := by decide +kernel
theorem dX9_sumOf_2 : decode cX9_sumOf 2 = .ok (.iconst 0, 1) := by decide +kernel
theorem dX9_sumOf_3 : decode cX9_sumOf 3 = .ok (.istore 4, 2) := by decide +kernel
theorem dX9_sumOf_5 : decode cX9_sumOf 5 = .ok (.iload 4, 2) := by decide +kernel
theorem dX9_sumOf_7 : decode cX9_sumOf 7 = .ok (.bipush 29, 2) := by decide +kernel
theorem dX9_sumOf_9 : decode cX9_sumOf 9 = .ok (.if_icmp .ge 20, 3) := by decide +kernel
theorem dX9_sumOf_12 : decode cX9_sumOf 12 = .ok (.iload_n 3, 1) := by decide +kernel
theorem dX9_sumOf_13 : decode cX9_sumOf 13 = .ok (.aload_n 0, 1) := by decide +kernel
theorem dX9_sumOf_14 : decode cX9_sumOf 14 = .ok (.iload_n 1, 1) := by decide +kernel
theorem dX9_sumOf_15 : decode cX9_sumOf 15 = .ok (.iload_n 2, 1) := by decide +kernel
theorem dX9_sumOf_16 : decode cX9_sumOf 16 = .ok (.iload 4, 2) := by decide +kernel
theorem dX9_sumOf_18 : decode cX9_sumOf 18 = .ok (.invokevirtual 46, 3) := by decide +kernel
theorem dX9_sumOf_21 : decode cX9_sumOf 21 = .ok (.iadd, 1) := by decide +kernel
theorem dX9_sumOf_22 : decode cX9_sumOf 22 = .ok (.istore_n 3, 1) := by decide +kernel
theorem dX9_sumOf_23 : decode cX9_sumOf 23 = .ok (.iinc 4 1, 3) := by decide +kernel
theorem dX9_sumOf_26 : decode cX9_sumOf 26 = .ok (.goto (-21), 3) := by decide +kernel
theorem dX9_sumOf_29 : decode cX9_sumOf 29 = .ok (.iload_n 3, 1) := by decide +kernel
theorem dX9_sumOf_30 : decode cX9_sumOf 30 = .ok (.ireturn, 1) := by decide +kernel
theorem dX9_isThere_0 : decode cX9_isThere 0 = .ok (.iload_n 0, 1) := by decide +kernel
theorem dX9_isThere_1 : decode cX9_isThere 1 = .ok (.ifCond .lt 34, 3) := by decide +kernel
theorem dX9_isThere_4 : decode cX9_isThere 4 = .ok (.iload_n 0, 1) := by decide +kernel
theorem dX9_isThere_5 : decode cX9_isThere 5 = .ok (.sipush 256, 3) := by decide +kernel
theorem dX9_isThere_8 : decode cX9_isThere 8 = .ok (.if_icmp .ge 27, 3) := by decide +kernel
theorem dX9_isThere_11 : decode cX9_isThere 11 = .ok (.iload_n 1, 1) := by decide +kernel
theorem dX9_isThere_12 : decode cX9_isThere 12 = .ok (.ifCond .lt 23, 3) := by decide +kernel
theorem dX9_isThere_15 : decode cX9_isThere 15 = .ok (.iload_n 1, 1) := by decide +kernel
theorem dX9_isThere_16 : decode cX9_isThere 16 = .ok (.bipush 8, 2) := by decide +kernel
theorem dX9_isThere_18 : decode cX9_isThere 18 = .ok (.if_icmp .ge 17, 3) := by decide +kernel
theorem dX9_isThere_21 : decode cX9_isThere 21 = .ok (.iload_n 2, 1) := by decide +kernel
theorem dX9_isThere_22 : decode cX9_isThere 22 = .ok (.ifCond .lt 13, 3) := by decide +kernel
theorem dX9_isThere_25 : decode cX9_isThere 25 = .ok (.iload_n 2, 1) := by decide +kernel
theorem dX9_isThere_26 : decode cX9_isThere 26 = .ok (.bipush 29, 2) := by decide +kernel
theorem dX9_isThere_28 : decode cX9_isThere 28 = .ok (.if_icmp .ge 7, 3) := by decide +kernel
theorem dX9_isThere_31 : decode cX9_isThere 31 = .ok (.iconst 1, 1) := by decide +kernel
theorem dX9_isThere_32 : decode cX9_isThere 32 = .ok (.goto 4, 3) := by decide +kernel
theorem dX9_isThere_35 : decode cX9_isThere 35 = .ok (.iconst 0, 1) := by decide +kernel
theorem dX9_isThere_36 : decode cX9_isThere 36 = .ok (.ireturn, 1) := by decide +kernel
theorem dX9_numberOf_0 : decode cX9_numberOf 0 = .ok (.iload_n 1, 1) := by decide +kernel
theorem dX9_numberOf_1 : decode cX9_numberOf 1 = .ok (.iload_n 2, 1) := by decide +kernel
theorem dX9_numberOf_2 : decode cX9_numberOf 2 = .ok (.iload_n 3, 1) := by decide +kernel
theorem dX9_numberOf_3 : decode cX9_numberOf 3 = .ok (.invokestatic 52, 3) := by decide +kernel
theorem dX9_numberOf_6 : decode cX9_numberOf 6 = .ok (.ifCond .eq 22, 3) := by decide +kernel
theorem dX9_numberOf_9 : decode cX9_numberOf 9 = .ok (.aload_n 0, 1) := by decide +kernel
theorem dX9_numberOf_10 : decode cX9_numberOf 10 = .ok (.getfield 12, 3) := by decide +kernel
theorem dX9_numberOf_13 : decode cX9_numberOf 13 = .ok (.iload_n 1, 1) := by decide +kernel
theorem dX9_numberOf_14 : decode cX9_numberOf 14 = .ok (.bipush 8, 2) := by decide +kernel
theorem dX9_numberOf_16 : decode cX9_numberOf 16 = .ok (.imul, 1) := by decide +kernel
theorem dX9_numberOf_17 : decode cX9_numberOf 17 = .ok (.iload_n 2, 1) := by decide +kernel
theorem dX9_numberOf_18 : decode cX9_numberOf 18 = .ok (.iadd, 1) := by decide +kernel
theorem dX9_numberOf_19 : decode cX9_numberOf 19 = .ok (.bipush 29, 2) := by decide +kernel
theorem dX9_numberOf_21 : decode cX9_numberOf 21 = .ok (.imul, 1) := by decide +kernel
theorem dX9_numberOf_22 : decode cX9_numberOf 22 = .ok (.iload_n 3, 1) := by decide +kernel
theorem dX9_numberOf_23 : decode cX9_numberOf 23 = .ok (.iadd, 1) := by decide +kernel
theorem dX9_numberOf_24 : decode cX9_numberOf 24 = .ok (.iaload, 1) := by decide +kernel
theorem dX9_numberOf_25 : decode cX9_numberOf 25 = .ok (.goto 4, 3) := by decide +kernel
theorem dX9_numberOf_28 : decode cX9_numberOf 28 = .ok (.iconst 0, 1) := by decide +kernel
theorem dX9_numberOf_29 : decode cX9_numberOf 29 = .ok (.ireturn, 1) := by decide +kernel
theorem dX9_setNumber_0 : decode cX9_setNumber 0 = .ok (.iload_n 1, 1) := by decide +kernel
theorem dX9_setNumber_1 : decode cX9_setNumber 1 = .ok (.iload_n 2, 1) := by decide +kernel
theorem dX9_setNumber_2 : decode cX9_setNumber 2 = .ok (.iload_n 3, 1) := by decide +kernel
theorem dX9_setNumber_3 : decode cX9_setNumber 3 = .ok (.invokestatic 52, 3) := by decide +kernel
theorem dX9_setNumber_6 : decode cX9_setNumber 6 = .ok (.ifCond .eq 21, 3) := by decide +kernel
theorem dX9_setNumber_9 : decode cX9_setNumber 9 = .ok (.aload_n 0, 1) := by decide +kernel
theorem dX9_setNumber_10 : decode cX9_setNumber 10 = .ok (.getfield 12, 3) := by decide +kernel
theorem dX9_setNumber_13 : decode cX9_setNumber 13 = .ok (.iload_n 1, 1) := by decide +kernel
theorem dX9_setNumber_14 : decode cX9_setNumber 14 = .ok (.bipush 8, 2) := by decide +kernel
theorem dX9_setNumber_16 : decode cX9_setNumber 16 = .ok (.imul, 1) := by decide +kernel
theorem dX9_setNumber_17 : decode cX9_setNumber 17 = .ok (.iload_n 2, 1) := by decide +kernel
theorem dX9_setNumber_18 : decode cX9_setNumber 18 = .ok (.iadd, 1) := by decide +kernel
theorem dX9_setNumber_19 : decode cX9_setNumber 19 = .ok (.bipush 29, 2) := by decide +kernel
theorem dX9_setNumber_21 : decode cX9_setNumber 21 = .ok (.imul, 1) := by decide +kernel
theorem dX9_setNumber_22 : decode cX9_setNumber 22 = .ok (.iload_n 3, 1) := by decide +kernel
theorem dX9_setNumber_23 : decode cX9_setNumber 23 = .ok (.iadd, 1) := by decide +kernel
theorem dX9_setNumber_24 : decode cX9_setNumber 24 = .ok (.iload 4, 2) := by decide +kernel
theorem dX9_setNumber_26 : decode cX9_setNumber 26 = .ok (.iastore, 1) := by decide +kernel
theorem dX9_setNumber_27 : decode cX9_setNumber 27 = .ok (.return_, 1) := by decide +kernel
theorem dX10_init_0 : decode cX10_init 0 = .ok (.aload_n 0, 1) := by decide +kernel
theorem dX10_init_1 : decode cX10_init 1 = .ok (.invokespecial 3, 3) := by decide +kernel
theorem dX10_init_4 : decode cX10_init 4 = .ok (.aload_n 0, 1) := by decide +kernel
theorem dX10_init_5 : decode cX10_init 5 = .ok (.bipush 8, 2) := by decide +kernel
theorem dX10_init_7 : decode cX10_init 7 = .ok (.newarray .int, 2) := by decide +kernel
theorem dX10_init_9 : decode cX10_init 9 = .ok (.putfield 9, 3) := by decide +kernel
theorem dX10_init_12 : decode cX10_init 12 = .ok (.aload_n 0, 1) := by decide +kernel
theorem dX10_init_13 : decode cX10_init 13 = .ok (.bipush 8, 2) := by decide +kernel
theorem dX10_init_15 : decode cX10_init 15 = .ok (.newarray .int, 2) := by decide +kernel
theorem dX10_init_17 : decode cX10_init 17 = .ok (.putfield 15, 3) := by decide +kernel
theorem dX10_init_20 : decode cX10_init 20 = .ok (.aload_n 0, 1) := by decide +kernel
theorem dX10_init_21 : decode cX10_init 21 = .ok (.iconst 0, 1) := by decide +kernel
theorem dX10_init_22 : decode cX10_init 22 = .ok (.putfield 18, 3) := by decide +kernel
theorem dX10_init_25 : decode cX10_init 25 = .ok (.aload_n 0, 1) := by decide +kernel
theorem dX10_init_26 : decode cX10_init 26 = .ok (.iconst 0, 1) := by decide +kernel
theorem dX10_init_27 : decode cX10_init 27 = .ok (.putfield 22, 3) := by decide +kernel
theorem dX10_init_30 : decode cX10_init 30 = .ok (.aload_n 0, 1) := by decide +kernel
theorem dX10_init_31 : decode cX10_init 31 = .ok (.iconst 0, 1) := by decide +kernel
theorem dX10_init_32 : decode cX10_init 32 = .ok (.putfield 25, 3) := by decide +kernel
theorem dX10_init_35 : decode cX10_init 35 = .ok (.aload_n 0, 1) := by decide +kernel
theorem dX10_init_36 : decode cX10_init 36 = .ok (.aload_n 1, 1) := by decide +kernel
theorem dX10_init_37 : decode cX10_init 37 = .ok (.putfield 28, 3) := by decide +kernel
theorem dX10_init_40 : decode cX10_init 40 = .ok (.return_, 1) := by decide +kernel
theorem dX10_beginAt_0 : decode cX10_beginAt 0 = .ok (.aload_n 0, 1) := by decide +kernel
theorem dX10_beginAt_1 : decode cX10_beginAt 1 = .ok (.iconst 0, 1) := by decide +kernel
theorem dX10_beginAt_2 : decode cX10_beginAt 2 = .ok (.putfield 18, 3) := by decide +kernel
theorem dX10_beginAt_5 : decode cX10_beginAt 5 = .ok (.aload_n 0, 1) := by decide +kernel
theorem dX10_beginAt_6 : decode cX10_beginAt 6 = .ok (.iload_n 1, 1) := by decide +kernel
theorem dX10_beginAt_7 : decode cX10_beginAt 7 = .ok (.putfield 22, 3) := by decide +kernel
theorem dX10_beginAt_10 : decode cX10_beginAt 10 = .ok (.aload_n 0, 1) := by decide +kernel
theorem dX10_beginAt_11 : decode cX10_beginAt 11 = .ok (.iconst 0, 1) := by decide +kernel
theorem dX10_beginAt_12 : decode cX10_beginAt 12 = .ok (.putfield 25, 3) := by decide +kernel
theorem dX10_beginAt_15 : decode cX10_beginAt 15 = .ok (.return_, 1) := by decide +kernel
theorem dX10_meet_0 : decode cX10_meet 0 = .ok (.aload_n 0, 1) := by decide +kernel
theorem dX10_meet_1 : decode cX10_meet 1 = .ok (.getfield 28, 3) := by decide +kernel
theorem dX10_meet_4 : decode cX10_meet 4 = .ok (.iload_n 1, 1) := by decide +kernel
theorem dX10_meet_5 : decode cX10_meet 5 = .ok (.aload_n 0, 1) := by decide +kernel
theorem dX10_meet_6 : decode cX10_meet 6 = .ok (.getfield 22, 3) := by decide +kernel
theorem dX10_meet_9 : decode cX10_meet 9 = .ok (.aload_n 0, 1) := by decide +kernel
theorem dX10_meet_10 : decode cX10_meet 10 = .ok (.getfield 25, 3) := by decide +kernel
theorem dX10_meet_13 : decode cX10_meet 13 = .ok (.invokevirtual 32, 3) := by decide +kernel
theorem dX10_meet_16 : decode cX10_meet 16 = .ok (.istore_n 2, 1) := by decide +kernel
theorem dX10_meet_17 : decode cX10_meet 17 = .ok (.iload_n 2, 1) := by decide +kernel
theorem dX10_meet_18 : decode cX10_meet 18 = .ok (.bipush (-9), 2) := by decide +kernel
theorem dX10_meet_20 : decode cX10_meet 20 = .ok (.if_icmp .eq 19, 3) := by decide +kernel
theorem dX10_meet_23 : decode cX10_meet 23 = .ok (.aload_n 0, 1) := by decide +kernel
theorem dX10_meet_24 : decode cX10_meet 24 = .ok (.getfield 18, 3) := by decide +kernel
theorem dX10_meet_27 : decode cX10_meet 27 = .ok (.ifCond .lt 12, 3) := by decide +kernel
theorem dX10_meet_30 : decode cX10_meet 30 = .ok (.aload_n 0, 1) := by decide +kernel
theorem dX10_meet_31 : decode cX10_meet 31 = .ok (.getfield 18, 3) := by decide +kernel
theorem dX10_meet_34 : decode cX10_meet 34 = .ok (.bipush 8, 2) := by decide +kernel
theorem dX10_meet_36 : decode cX10_meet 36 = .ok (.if_icmp .lt 5, 3) := by decide +kernel
theorem dX10_meet_39 : decode cX10_meet 39 = .ok (.iconst 0, 1) := by decide +kernel
theorem dX10_meet_40 : decode cX10_meet 40 = .ok (.ireturn, 1) := by decide +kernel
theorem dX10_meet_41 : decode cX10_meet 41 = .ok (.aload_n 0, 1) := by decide +kernel
theorem dX10_meet_42 : decode cX10_meet 42 = .ok (.getfield 9, 3) := by decide +kernel
theorem dX10_meet_45 : decode cX10_meet 45 = .ok (.aload_n 0, 1) := by decide +kernel
theorem dX10_meet_46 : decode cX10_meet 46 = .ok (.getfield 18, 3) := by decide +kernel
theorem dX10_meet_49 : decode cX10_meet 49 = .ok (.iload_n 1, 1) := by decide +kernel
theorem dX10_meet_50 : decode cX10_meet 50 = .ok (.iastore, 1) := by decide +kernel
theorem dX10_meet_51 : decode cX10_meet 51 = .ok (.aload_n 0, 1) := by decide +kernel
theorem dX10_meet_52 : decode cX10_meet 52 = .ok (.getfield 15, 3) := by decide +kernel
theorem dX10_meet_55 : decode cX10_meet 55 = .ok (.aload_n 0, 1) := by decide +kernel
theorem dX10_meet_56 : decode cX10_meet 56 = .ok (.getfield 18, 3) := by decide +kernel
theorem dX10_meet_59 : decode cX10_meet 59 = .ok (.iload_n 2, 1) := by decide +kernel
theorem dX10_meet_60 : decode cX10_meet 60 = .ok (.aload_n 0, 1) := by decide +kernel
theorem dX10_meet_61 : decode cX10_meet 61 = .ok (.getfield 28, 3) := by decide +kernel
theorem dX10_meet_64 : decode cX10_meet 64 = .ok (.iload_n 1, 1) := by decide +kernel
theorem dX10_meet_65 : decode cX10_meet 65 = .ok (.invokevirtual 38, 3) := by decide +kernel
theorem dX10_meet_68 : decode cX10_meet 68 = .ok (.isub, 1) := by decide +kernel
theorem dX10_meet_69 : decode cX10_meet 69 = .ok (.iastore, 1) := by decide +kernel
theorem dX10_meet_70 : decode cX10_meet 70 = .ok (.aload_n 0, 1) := by decide +kernel
theorem dX10_meet_71 : decode cX10_meet 71 = .ok (.dup, 1) := by decide +kernel
theorem dX10_meet_72 : decode cX10_meet 72 = .ok (.getfield 18, 3) := by decide +kernel
theorem dX10_meet_75 : decode cX10_meet 75 = .ok (.iconst 1, 1) := by decide +kernel
theorem dX10_meet_76 : decode cX10_meet 76 = .ok (.iadd, 1) := by decide +kernel
theorem dX10_meet_77 : decode cX10_meet 77 = .ok (.putfield 18, 3) := by decide +kernel
theorem dX10_meet_80 : decode cX10_meet 80 = .ok (.aload_n 0, 1) := by decide +kernel
theorem dX10_meet_81 : decode cX10_meet 81 = .ok (.aload_n 0, 1) := by decide +kernel
theorem dX10_meet_82 : decode cX10_meet 82 = .ok (.getfield 28, 3) := by decide +kernel
theorem dX10_meet_85 : decode cX10_meet 85 = .ok (.iload_n 1, 1) := by decide +kernel
theorem dX10_meet_86 : decode cX10_meet 86 = .ok (.invokevirtual 42, 3) := by decide +kernel
theorem dX10_meet_89 : decode cX10_meet 89 = .ok (.putfield 22, 3) := by decide +kernel
theorem dX10_meet_92 : decode cX10_meet 92 = .ok (.aload_n 0, 1) := by decide +kernel
theorem dX10_meet_93 : decode cX10_meet 93 = .ok (.iload_n 2, 1) := by decide +kernel
theorem dX10_meet_94 : decode cX10_meet 94 = .ok (.putfield 25, 3) := by decide +kernel
theorem dX10_meet_97 : decode cX10_meet 97 = .ok (.iconst 1, 1) := by decide +kernel
theorem dX10_meet_98 : decode cX10_meet 98 = .ok (.ireturn, 1) := by decide +kernel
theorem dX10_has_0 : decode cX10_has 0 = .ok (.iload_n 1, 1) := by decide +kernel
theorem dX10_has_1 : decode cX10_has 1 = .ok (.ifCond .lt 21, 3) := by decide +kernel
theorem dX10_has_4 : decode cX10_has 4 = .ok (.iload_n 1, 1) := by decide +kernel
theorem dX10_has_5 : decode cX10_has 5 = .ok (.aload_n 0, 1) := by decide +kernel
theorem dX10_has_6 : decode cX10_has 6 = .ok (.getfield 18, 3) := by decide +kernel
theorem dX10_has_9 : decode cX10_has 9 = .ok (.if_icmp .ge 13, 3) := by decide +kernel
theorem dX10_has_12 : decode cX10_has 12 = .ok (.iload_n 1, 1) := by decide +kernel
theorem dX10_has_13 : decode cX10_has 13 = .ok (.bipush 8, 2) := by decide +kernel
theorem dX10_has_15 : decode cX10_has 15 = .ok (.if_icmp .ge 7, 3) := by decide +kernel
theorem dX10_has_18 : decode cX10_has 18 = .ok (.iconst 1, 1) := by decide +kernel
theorem dX10_has_19 : decode cX10_has 19 = .ok (.goto 4, 3) := by decide +kernel
theorem dX10_has_22 : decode cX10_has 22 = .ok (.iconst 0, 1) := by decide +kernel
theorem dX10_has_23 : decode cX10_has 23 = .ok (.ireturn, 1) := by decide +kernel
theorem dX10_needOf_0 : decode cX10_needOf 0 = .ok (.aload_n 0, 1) := by decide +kernel
theorem dX10_needOf_1 : decode cX10_needOf 1 = .ok (.iload_n 1, 1) := by decide +kernel
theorem dX10_needOf_2 : decode cX10_needOf 2 = .ok (.invokevirtual 45, 3) := by decide +kernel
theorem dX10_needOf_5 : decode cX10_needOf 5 = .ok (.ifCond .eq 12, 3) := by decide +kernel
theorem dX10_needOf_8 : decode cX10_needOf 8 = .ok (.aload_n 0, 1) := by decide +kernel
theorem dX10_needOf_9 : decode cX10_needOf 9 = .ok (.getfield 9, 3) := by decide +kernel
theorem dX10_needOf_12 : decode cX10_needOf 12 = .ok (.iload_n 1, 1) := by decide +kernel
theorem dX10_needOf_13 : decode cX10_needOf 13 = .ok (.iaload, 1) := by decide +kernel
theorem dX10_needOf_14 : decode cX10_needOf 14 = .ok (.goto 5, 3) := by decide +kernel
theorem dX10_needOf_17 : decode cX10_needOf 17 = .ok (.bipush (-9), 2) := by decide +kernel
theorem dX10_needOf_19 : decode cX10_needOf 19 = .ok (.ireturn, 1) := by decide +kernel
theorem dX10_beginningOf_0 : decode cX10_beginningOf 0 = .ok (.aload_n 0, 1) := by decide +kernel
theorem dX10_beginningOf_1 : decode cX10_beginningOf 1 = .ok (.iload_n 1, 1) := by decide +kernel
theorem dX10_beginningOf_2 : decode cX10_beginningOf 2 = .ok (.invokevirtual 45, 3) := by decide +kernel
theorem dX10_beginningOf_5 : decode cX10_beginningOf 5 = .ok (.ifCond .eq 12, 3) := by decide +kernel
theorem dX10_beginningOf_8 : decode cX10_beginningOf 8 = .ok (.aload_n 0, 1) := by decide +kernel
theorem dX10_beginningOf_9 : decode cX10_beginningOf 9 = .ok (.getfield 15, 3) := by decide +kernel
theorem dX10_beginningOf_12 : decode cX10_beginningOf 12 = .ok (.iload_n 1, 1) := by decide +kernel
theorem dX10_beginningOf_13 : decode cX10_beginningOf 13 = .ok (.iaload, 1) := by decide +kernel
theorem dX10_beginningOf_14 : decode cX10_beginningOf 14 = .ok (.goto 5, 3) := by decide +kernel
theorem dX10_beginningOf_17 : decode cX10_beginningOf 17 = .ok (.bipush (-9), 2) := by decide +kernel
theorem dX10_beginningOf_19 : decode cX10_beginningOf 19 = .ok (.ireturn, 1) := by decide +kernel
theorem dX10_metBits_0 : decode cX10_metBits 0 = .ok (.iconst 0, 1) := by decide +kernel
theorem dX10_metBits_1 : decode cX10_metBits 1 = .ok (.istore_n 1, 1) := by decide +kernel
theorem dX10_metBits_2 : decode cX10_metBits 2 = .ok (.iconst 0, 1) := by decide +kernel
theorem dX10_metBits_3 : decode cX10_metBits 3 = .ok (.istore_n 2, 1) := by decide +kernel
theorem dX10_metBits_4 : decode cX10_metBits 4 = .ok (.iload_n 2, 1) := by decide +kernel
theorem dX10_metBits_5 : decode cX10_metBits 5 = .ok (.aload_n 0, 1) := by decide +kernel
theorem dX10_metBits_6 : decode cX10_metBits 6 = .ok (.getfield 18, 3) := by decide +kernel
theorem dX10_metBits_9 : decode cX10_metBits 9 = .ok (.if_icmp .ge 20, 3) := by decide +kernel
theorem dX10_metBits_12 : decode cX10_metBits 12 = .ok (.iload_n 1, 1) := by decide +kernel
theorem dX10_metBits_13 : decode cX10_metBits 13 = .ok (.aload_n 0, 1) := by decide +kernel
theorem dX10_metBits_14 : decode cX10_metBits 14 = .ok (.iload_n 2, 1) := by decide +kernel
theorem dX10_metBits_15 : decode cX10_metBits 15 = .ok (.invokevirtual 49, 3) := by decide +kernel
theorem dX10_metBits_18 : decode cX10_metBits 18 = .ok (.invokestatic 52, 3) := by decide +kernel
theorem dX10_metBits_21 : decode cX10_metBits 21 = .ok (.ior, 1) := by decide +kernel
theorem dX10_metBits_22 : decode cX10_metBits 22 = .ok (.istore_n 1, 1) := by decide +kernel
theorem dX10_metBits_23 : decode cX10_metBits 23 = .ok (.iinc 2 1, 3) := by decide +kernel
theorem dX10_metBits_26 : decode cX10_metBits 26 = .ok (.goto (-22), 3) := by decide +kernel
theorem dX10_metBits_29 : decode cX10_metBits 29 = .ok (.iload_n 1, 1) := by decide +kernel
theorem dX10_metBits_30 : decode cX10_metBits 30 = .ok (.ireturn, 1) := by decide +kernel
theorem dX10_worth_0 : decode cX10_worth 0 = .ok (.aload_n 0, 1) := by decide +kernel
theorem dX10_worth_1 : decode cX10_worth 1 = .ok (.getfield 28, 3) := by decide +kernel
theorem dX10_worth_4 : decode cX10_worth 4 = .ok (.aload_n 0, 1) := by decide +kernel
theorem dX10_worth_5 : decode cX10_worth 5 = .ok (.invokevirtual 55, 3) := by decide +kernel
theorem dX10_worth_8 : decode cX10_worth 8 = .ok (.invokevirtual 59, 3) := by decide +kernel
theorem dX10_worth_11 : decode cX10_worth 11 = .ok (.ireturn, 1) := by decide +kernel
theorem dX10_watchesWorn_0 : decode cX10_watchesWorn 0 = .ok (.iconst 0, 1) := by decide +kernel
theorem dX10_watchesWorn_1 : decode cX10_watchesWorn 1 = .ok (.istore_n 1, 1) := by decide +kernel
theorem dX10_watchesWorn_2 : decode cX10_watchesWorn 2 = .ok (.iconst 0, 1) := by decide +kernel
theorem dX10_watchesWorn_3 : decode cX10_watchesWorn 3 = .ok (.istore_n 2, 1) := by decide +kernel
theorem dX10_watchesWorn_4 : decode cX10_watchesWorn 4 = .ok (.iload_n 2, 1) := by decide +kernel
theorem dX10_watchesWorn_5 : decode cX10_watchesWorn 5 = .ok (.aload_n 0, 1) := by decide +kernel
theorem dX10_watchesWorn_6 : decode cX10_watchesWorn 6 = .ok (.getfield 18, 3) := by decide +kernel
theorem dX10_watchesWorn_9 : decode cX10_watchesWorn 9 = .ok (.if_icmp .ge 36, 3) := by decide +kernel
theorem dX10_watchesWorn_12 : decode cX10_watchesWorn 12 = .ok (.aload_n 0, 1) := by decide +kernel
theorem dX10_watchesWorn_13 : decode cX10_watchesWorn 13 = .ok (.getfield 28, 3) := by decide +kernel
theorem dX10_watchesWorn_16 : decode cX10_watchesWorn 16 = .ok (.aload_n 0, 1) := by decide +kernel
theorem dX10_watchesWorn_17 : decode cX10_watchesWorn 17 = .ok (.iload_n 2, 1) := by decide +kernel
theorem dX10_watchesWorn_18 : decode cX10_watchesWorn 18 = .ok (.invokevirtual 49, 3) := by decide +kernel
theorem dX10_watchesWorn_21 : decode cX10_watchesWorn 21 = .ok (.invokevirtual 38, 3) := by decide +kernel
theorem dX10_watchesWorn_24 : decode cX10_watchesWorn 24 = .ok (.istore_n 3, 1) := by decide +kernel
theorem dX10_watchesWorn_25 : decode cX10_watchesWorn 25 = .ok (.iload_n 1, 1) := by decide +kernel
theorem dX10_watchesWorn_26 : decode cX10_watchesWorn 26 = .ok (.iconst 1, 1) := by decide +kernel
theorem dX10_watchesWorn_27 : decode cX10_watchesWorn 27 = .ok (.iload_n 3, 1) := by decide +kernel
theorem dX10_watchesWorn_28 : decode cX10_watchesWorn 28 = .ok (.ishl, 1) := by decide +kernel
theorem dX10_watchesWorn_29 : decode cX10_watchesWorn 29 = .ok (.iconst 1, 1) := by decide +kernel
theorem dX10_watchesWorn_30 : decode cX10_watchesWorn 30 = .ok (.isub, 1) := by decide +kernel
theorem dX10_watchesWorn_31 : decode cX10_watchesWorn 31 = .ok (.aload_n 0, 1) := by decide +kernel
theorem dX10_watchesWorn_32 : decode cX10_watchesWorn 32 = .ok (.iload_n 2, 1) := by decide +kernel
theorem dX10_watchesWorn_33 : decode cX10_watchesWorn 33 = .ok (.invokevirtual 62, 3) := by decide +kernel
theorem dX10_watchesWorn_36 : decode cX10_watchesWorn 36 = .ok (.ishl, 1) := by decide +kernel
theorem dX10_watchesWorn_37 : decode cX10_watchesWorn 37 = .ok (.ior, 1) := by decide +kernel
theorem dX10_watchesWorn_38 : decode cX10_watchesWorn 38 = .ok (.istore_n 1, 1) := by decide +kernel
theorem dX10_watchesWorn_39 : decode cX10_watchesWorn 39 = .ok (.iinc 2 1, 3) := by decide +kernel
theorem dX10_watchesWorn_42 : decode cX10_watchesWorn 42 = .ok (.goto (-38), 3) := by decide +kernel
theorem dX10_watchesWorn_45 : decode cX10_watchesWorn 45 = .ok (.iload_n 1, 1) := by decide +kernel
theorem dX10_watchesWorn_46 : decode cX10_watchesWorn 46 = .ok (.ireturn, 1) := by decide +kernel
theorem dX11_init_0 : decode cX11_init 0 = .ok (.aload_n 0, 1) := by decide +kernel
theorem dX11_init_1 : decode cX11_init 1 = .ok (.invokespecial 1, 3) := by decide +kernel
theorem dX11_init_4 : decode cX11_init 4 = .ok (.aload_n 0, 1) := by decide +kernel
theorem dX11_init_5 : decode cX11_init 5 = .ok (.bipush 6, 2) := by decide +kernel
theorem dX11_init_7 : decode cX11_init 7 = .ok (.anewarray 9, 3) := by decide +kernel
theorem dX11_init_10 : decode cX11_init 10 = .ok (.putfield 11, 3) := by decide +kernel
theorem dX11_init_13 : decode cX11_init 13 = .ok (.aload_n 0, 1) := by decide +kernel
theorem dX11_init_14 : decode cX11_init 14 = .ok (.iconst 4, 1) := by decide +kernel
theorem dX11_init_15 : decode cX11_init 15 = .ok (.anewarray 9, 3) := by decide +kernel
theorem dX11_init_18 : decode cX11_init 18 = .ok (.putfield 15, 3) := by decide +kernel
theorem dX11_init_21 : decode cX11_init 21 = .ok (.aload_n 0, 1) := by decide +kernel
theorem dX11_init_22 : decode cX11_init 22 = .ok (.new 18, 3) := by decide +kernel
theorem dX11_init_25 : decode cX11_init 25 = .ok (.dup, 1) := by decide +kernel
theorem dX11_init_26 : decode cX11_init 26 = .ok (.invokespecial 20, 3) := by decide +kernel
theorem dX11_init_29 : decode cX11_init 29 = .ok (.putfield 21, 3) := by decide +kernel
theorem dX11_init_32 : decode cX11_init 32 = .ok (.aload_n 0, 1) := by decide +kernel
theorem dX11_init_33 : decode cX11_init 33 = .ok (.new 18, 3) := by decide +kernel
theorem dX11_init_36 : decode cX11_init 36 = .ok (.dup, 1) := by decide +kernel
theorem dX11_init_37 : decode cX11_init 37 = .ok (.invokespecial 20, 3) := by decide +kernel
theorem dX11_init_40 : decode cX11_init 40 = .ok (.putfield 25, 3) := by decide +kernel
theorem dX11_init_43 : decode cX11_init 43 = .ok (.aload_n 0, 1) := by decide +kernel
theorem dX11_init_44 : decode cX11_init 44 = .ok (.new 28, 3) := by decide +kernel
theorem dX11_init_47 : decode cX11_init 47 = .ok (.dup, 1) := by decide +kernel
theorem dX11_init_48 : decode cX11_init 48 = .ok (.invokespecial 30, 3) := by decide +kernel
theorem dX11_init_51 : decode cX11_init 51 = .ok (.putfield 31, 3) := by decide +kernel
theorem dX11_init_54 : decode cX11_init 54 = .ok (.aload_n 0, 1) := by decide +kernel
theorem dX11_init_55 : decode cX11_init 55 = .ok (.new 35, 3) := by decide +kernel
theorem dX11_init_58 : decode cX11_init 58 = .ok (.dup, 1) := by decide +kernel
theorem dX11_init_59 : decode cX11_init 59 = .ok (.invokespecial 37, 3) := by decide +kernel
theorem dX11_init_62 : decode cX11_init 62 = .ok (.putfield 38, 3) := by decide +kernel
theorem dX11_init_65 : decode cX11_init 65 = .ok (.aload_n 0, 1) := by decide +kernel
theorem dX11_init_66 : decode cX11_init 66 = .ok (.new 42, 3) := by decide +kernel
theorem dX11_init_69 : decode cX11_init 69 = .ok (.dup, 1) := by decide +kernel
theorem dX11_init_70 : decode cX11_init 70 = .ok (.aload_n 0, 1) := by decide +kernel
theorem dX11_init_71 : decode cX11_init 71 = .ok (.getfield 38, 3) := by decide +kernel
theorem dX11_init_74 : decode cX11_init 74 = .ok (.invokespecial 44, 3) := by decide +kernel
theorem dX11_init_77 : decode cX11_init 77 = .ok (.putfield 47, 3) := by decide +kernel
theorem dX11_init_80 : decode cX11_init 80 = .ok (.aload_n 0, 1) := by decide +kernel
theorem dX11_init_81 : decode cX11_init 81 = .ok (.new 51, 3) := by decide +kernel
theorem dX11_init_84 : decode cX11_init 84 = .ok (.dup, 1) := by decide +kernel
theorem dX11_init_85 : decode cX11_init 85 = .ok (.aload_n 0, 1) := by decide +kernel
theorem dX11_init_86 : decode cX11_init 86 = .ok (.getfield 38, 3) := by decide +kernel
theorem dX11_init_89 : decode cX11_init 89 = .ok (.invokespecial 53, 3) := by decide +kernel
theorem dX11_init_92 : decode cX11_init 92 = .ok (.putfield 54, 3) := by decide +kernel
theorem dX11_init_95 : decode cX11_init 95 = .ok (.aload_n 0, 1) := by decide +kernel
theorem dX11_init_96 : decode cX11_init 96 = .ok (.new 58, 3) := by decide +kernel
theorem dX11_init_99 : decode cX11_init 99 = .ok (.dup, 1) := by decide +kernel
theorem dX11_init_100 : decode cX11_init 100 = .ok (.aload_n 0, 1) := by decide +kernel
theorem dX11_init_101 : decode cX11_init 101 = .ok (.getfield 21, 3) := by decide +kernel
theorem dX11_init_104 : decode cX11_init 104 = .ok (.aload_n 0, 1) := by decide +kernel
theorem dX11_init_105 : decode cX11_init 105 = .ok (.getfield 47, 3) := by decide +kernel
theorem dX11_init_108 : decode cX11_init 108 = .ok (.invokespecial 60, 3) := by decide +kernel
theorem dX11_init_111 : decode cX11_init 111 = .ok (.putfield 63, 3) := by decide +kernel
theorem dX11_init_114 : decode cX11_init 114 = .ok (.aload_n 0, 1) := by decide +kernel
theorem dX11_init_115 : decode cX11_init 115 = .ok (.new 67, 3) := by decide +kernel
theorem dX11_init_118 : decode cX11_init 118 = .ok (.dup, 1) := by decide +kernel
theorem dX11_init_119 : decode cX11_init 119 = .ok (.invokespecial 69, 3) := by decide +kernel
theorem dX11_init_122 : decode cX11_init 122 = .ok (.putfield 70, 3) := by decide +kernel
theorem dX11_init_125 : decode cX11_init 125 = .ok (.aload_n 0, 1) := by decide +kernel
theorem dX11_init_126 : decode cX11_init 126 = .ok (.new 74, 3) := by decide +kernel
theorem dX11_init_129 : decode cX11_init 129 = .ok (.dup, 1) := by decide +kernel
theorem dX11_init_130 : decode cX11_init 130 = .ok (.bipush 12, 2) := by decide +kernel
theorem dX11_init_132 : decode cX11_init 132 = .ok (.invokespecial 76, 3) := by decide +kernel
theorem dX11_init_135 : decode cX11_init 135 = .ok (.putfield 79, 3) := by decide +kernel
theorem dX11_init_138 : decode cX11_init 138 = .ok (.aload_n 0, 1) := by decide +kernel
theorem dX11_init_139 : decode cX11_init 139 = .ok (.new 74, 3) := by decide +kernel
theorem dX11_init_142 : decode cX11_init 142 = .ok (.dup, 1) := by decide +kernel
theorem dX11_init_143 : decode cX11_init 143 = .ok (.bipush 12, 2) := by decide +kernel
theorem dX11_init_145 : decode cX11_init 145 = .ok (.invokespecial 76, 3) := by decide +kernel
theorem dX11_init_148 : decode cX11_init 148 = .ok (.putfield 83, 3) := by decide +kernel
theorem dX11_init_151 : decode cX11_init 151 = .ok (.aload_n 0, 1) := by decide +kernel
theorem dX11_init_152 : decode cX11_init 152 = .ok (.bipush 6, 2) := by decide +kernel
theorem dX11_init_154 : decode cX11_init 154 = .ok (.newarray .int, 2) := by decide +kernel
theorem dX11_init_156 : decode cX11_init 156 = .ok (.putfield 86, 3) := by decide +kernel
theorem dX11_init_159 : decode cX11_init 159 = .ok (.aload_n 0, 1) := by decide +kernel
theorem dX11_init_160 : decode cX11_init 160 = .ok (.aconst_null, 1) := by decide +kernel
theorem dX11_init_161 : decode cX11_init 161 = .ok (.putfield 90, 3) := by decide +kernel
theorem dX11_init_164 : decode cX11_init 164 = .ok (.aload_n 0, 1) := by decide +kernel
theorem dX11_init_165 : decode cX11_init 165 = .ok (.iconst 0, 1) := by decide +kernel
theorem dX11_init_166 : decode cX11_init 166 = .ok (.putfield 94, 3) := by decide +kernel
theorem dX11_init_169 : decode cX11_init 169 = .ok (.aload_n 0, 1) := by decide +kernel
theorem dX11_init_170 : decode cX11_init 170 = .ok (.iconst 0, 1) := by decide +kernel
theorem dX11_init_171 : decode cX11_init 171 = .ok (.putfield 98, 3) := by decide +kernel
theorem dX11_init_174 : decode cX11_init 174 = .ok (.aload_n 0, 1) := by decide +kernel
theorem dX11_init_175 : decode cX11_init 175 = .ok (.lconst 0, 1) := by decide +kernel
theorem dX11_init_176 : decode cX11_init 176 = .ok (.putfield 101, 3) := by decide +kernel
theorem dX11_init_179 : decode cX11_init 179 = .ok (.aload_n 0, 1) := by decide +kernel
theorem dX11_init_180 : decode cX11_init 180 = .ok (.lconst 1, 1) := by decide +kernel
theorem dX11_init_181 : decode cX11_init 181 = .ok (.putfield 105, 3) := by decide +kernel
theorem dX11_init_184 : decode cX11_init 184 = .ok (.iconst 0, 1) := by decide +kernel
theorem dX11_init_185 : decode cX11_init 185 = .ok (.istore_n 1, 1) := by decide +kernel
theorem dX11_init_186 : decode cX11_init 186 = .ok (.iload_n 1, 1) := by decide +kernel
theorem dX11_init_187 : decode cX11_init 187 = .ok (.bipush 6, 2) := by decide +kernel
theorem dX11_init_189 : decode cX11_init 189 = .ok (.if_icmp .ge 24, 3) := by decide +kernel
theorem dX11_init_192 : decode cX11_init 192 = .ok (.aload_n 0, 1) := by decide +kernel
theorem dX11_init_193 : decode cX11_init 193 = .ok (.getfield 11, 3) := by decide +kernel
theorem dX11_init_196 : decode cX11_init 196 = .ok (.iload_n 1, 1) := by decide +kernel
theorem dX11_init_197 : decode cX11_init 197 = .ok (.new 9, 3) := by decide +kernel
theorem dX11_init_200 : decode cX11_init 200 = .ok (.dup, 1) := by decide +kernel
theorem dX11_init_201 : decode cX11_init 201 = .ok (.bipush 60, 2) := by decide +kernel
theorem dX11_init_203 : decode cX11_init 203 = .ok (.invokespecial 108, 3) := by decide +kernel
theorem dX11_init_206 : decode cX11_init 206 = .ok (.aastore, 1) := by decide +kernel
theorem dX11_init_207 : decode cX11_init 207 = .ok (.iinc 1 1, 3) := by decide +kernel
theorem dX11_init_210 : decode cX11_init 210 = .ok (.goto (-24), 3) := by decide +kernel
theorem dX11_init_213 : decode cX11_init 213 = .ok (.iconst 0, 1) := by decide +kernel
theorem dX11_init_214 : decode cX11_init 214 = .ok (.istore_n 1, 1) := by decide +kernel
theorem dX11_init_215 : decode cX11_init 215 = .ok (.iload_n 1, 1) := by decide +kernel
theorem dX11_init_216 : decode cX11_init 216 = .ok (.iconst 4, 1) := by decide +kernel
theorem dX11_init_217 : decode cX11_init 217 = .ok (.if_icmp .ge 24, 3) := by decide +kernel
theorem dX11_init_220 : decode cX11_init 220 = .ok (.aload_n 0, 1) := by decide +kernel
theorem dX11_init_221 : decode cX11_init 221 = .ok (.getfield 15, 3) := by decide +kernel
theorem dX11_init_224 : decode cX11_init 224 = .ok (.iload_n 1, 1) := by decide +kernel
theorem dX11_init_225 : decode cX11_init 225 = .ok (.new 9, 3) := by decide +kernel
theorem dX11_init_228 : decode cX11_init 228 = .ok (.dup, 1) := by decide +kernel
theorem dX11_init_229 : decode cX11_init 229 = .ok (.bipush 120, 2) := by decide +kernel
theorem dX11_init_231 : decode cX11_init 231 = .ok (.invokespecial 108, 3) := by decide +kernel
theorem dX11_init_234 : decode cX11_init 234 = .ok (.aastore, 1) := by decide +kernel
theorem dX11_init_235 : decode cX11_init 235 = .ok (.iinc 1 1, 3) := by decide +kernel
theorem dX11_init_238 : decode cX11_init 238 = .ok (.goto (-23), 3) := by decide +kernel
theorem dX11_init_241 : decode cX11_init 241 = .ok (.return_, 1) := by decide +kernel
theorem dX11_text_0 : decode cX11_text 0 = .ok (.aload_n 0, 1) := by decide +kernel
theorem dX11_text_1 : decode cX11_text 1 = .ok (.iload_n 1, 1) := by decide +kernel
theorem dX11_text_2 : decode cX11_text 2 = .ok (.invokevirtual 154, 3) := by decide +kernel
theorem dX11_text_5 : decode cX11_text 5 = .ok (.astore_n 3, 1) := by decide +kernel
theorem dX11_text_6 : decode cX11_text 6 = .ok (.aload_n 3, 1) := by decide +kernel
theorem dX11_text_7 : decode cX11_text 7 = .ok (.ifnull 9, 3) := by decide +kernel
theorem dX11_text_10 : decode cX11_text 10 = .ok (.iload_n 2, 1) := by decide +kernel
theorem dX11_text_11 : decode cX11_text 11 = .ok (.bipush 120, 2) := by decide +kernel
theorem dX11_text_13 : decode cX11_text 13 = .ok (.if_icmp .le 5, 3) := by decide +kernel
theorem dX11_text_16 : decode cX11_text 16 = .ok (.iconst (-1), 1) := by decide +kernel
theorem dX11_text_17 : decode cX11_text 17 = .ok (.ireturn, 1) := by decide +kernel
theorem dX11_text_18 : decode cX11_text 18 = .ok (.iload_n 2, 1) := by decide +kernel
theorem dX11_text_19 : decode cX11_text 19 = .ok (.ifCond .ge 9, 3) := by decide +kernel
theorem dX11_text_22 : decode cX11_text 22 = .ok (.aload_n 0, 1) := by decide +kernel
theorem dX11_text_23 : decode cX11_text 23 = .ok (.iconst 5, 1) := by decide +kernel
theorem dX11_text_24 : decode cX11_text 24 = .ok (.invokevirtual 113, 3) := by decide +kernel
theorem dX11_text_27 : decode cX11_text 27 = .ok (.ireturn, 1) := by decide +kernel
theorem dX11_text_28 : decode cX11_text 28 = .ok (.aload_n 3, 1) := by decide +kernel
theorem dX11_text_29 : decode cX11_text 29 = .ok (.iload_n 2, 1) := by decide +kernel
theorem dX11_text_30 : decode cX11_text 30 = .ok (.bipush 32, 2) := by decide +kernel
theorem dX11_text_32 : decode cX11_text 32 = .ok (.invokevirtual 117, 3) := by decide +kernel
theorem dX11_text_35 : decode cX11_text 35 = .ok (.iload_n 2, 1) := by decide +kernel
theorem dX11_text_36 : decode cX11_text 36 = .ok (.ireturn, 1) := by decide +kernel
theorem dX11_put_0 : decode cX11_put 0 = .ok (.aload_n 0, 1) := by decide +kernel
theorem dX11_put_1 : decode cX11_put 1 = .ok (.iload_n 1, 1) := by decide +kernel
theorem dX11_put_2 : decode cX11_put 2 = .ok (.invokevirtual 154, 3) := by decide +kernel
theorem dX11_put_5 : decode cX11_put 5 = .ok (.astore 4, 2) := by decide +kernel
theorem dX11_put_7 : decode cX11_put 7 = .ok (.aload 4, 2) := by decide +kernel
theorem dX11_put_9 : decode cX11_put 9 = .ok (.ifnonnull 5, 3) := by decide +kernel
theorem dX11_put_12 : decode cX11_put 12 = .ok (.iconst (-1), 1) := by decide +kernel
theorem dX11_put_13 : decode cX11_put 13 = .ok (.ireturn, 1) := by decide +kernel
theorem dX11_put_14 : decode cX11_put 14 = .ok (.aload 4, 2) := by decide +kernel
theorem dX11_put_16 : decode cX11_put 16 = .ok (.invokevirtual 121, 3) := by decide +kernel
theorem dX11_put_19 : decode cX11_put 19 = .ok (.ifCond .eq 9, 3) := by decide +kernel
theorem dX11_put_22 : decode cX11_put 22 = .ok (.aload_n 0, 1) := by decide +kernel
theorem dX11_put_23 : decode cX11_put 23 = .ok (.iconst 1, 1) := by decide +kernel
theorem dX11_put_24 : decode cX11_put 24 = .ok (.invokevirtual 113, 3) := by decide +kernel
theorem dX11_put_27 : decode cX11_put 27 = .ok (.ireturn, 1) := by decide +kernel
theorem dX11_put_28 : decode cX11_put 28 = .ok (.aload 4, 2) := by decide +kernel
theorem dX11_put_30 : decode cX11_put 30 = .ok (.iload_n 2, 1) := by decide +kernel
theorem dX11_put_31 : decode cX11_put 31 = .ok (.invokevirtual 125, 3) := by decide +kernel
theorem dX11_put_34 : decode cX11_put 34 = .ok (.ifCond .ne 9, 3) := by decide +kernel
theorem dX11_put_37 : decode cX11_put 37 = .ok (.aload_n 0, 1) := by decide +kernel
theorem dX11_put_38 : decode cX11_put 38 = .ok (.iconst 2, 1) := by decide +kernel
theorem dX11_put_39 : decode cX11_put 39 = .ok (.invokevirtual 113, 3) := by decide +kernel
theorem dX11_put_42 : decode cX11_put 42 = .ok (.ireturn, 1) := by decide +kernel
theorem dX11_put_43 : decode cX11_put 43 = .ok (.aload 4, 2) := by decide +kernel
theorem dX11_put_45 : decode cX11_put 45 = .ok (.iload_n 2, 1) := by decide +kernel
theorem dX11_put_46 : decode cX11_put 46 = .ok (.invokevirtual 129, 3) := by decide +kernel
theorem dX11_put_49 : decode cX11_put 49 = .ok (.istore 5, 2) := by decide +kernel
theorem dX11_put_51 : decode cX11_put 51 = .ok (.aload 4, 2) := by decide +kernel
theorem dX11_put_53 : decode cX11_put 53 = .ok (.iload_n 2, 1) := by decide +kernel
theorem dX11_put_54 : decode cX11_put 54 = .ok (.iload_n 3, 1) := by decide +kernel
theorem dX11_put_55 : decode cX11_put 55 = .ok (.i2b, 1) := by decide +kernel
theorem dX11_put_56 : decode cX11_put 56 = .ok (.invokevirtual 132, 3) := by decide +kernel
theorem dX11_put_59 : decode cX11_put 59 = .ok (.iload 5, 2) := by decide +kernel
theorem dX11_put_61 : decode cX11_put 61 = .ok (.sipush 1000, 3) := by decide +kernel
theorem dX11_put_64 : decode cX11_put 64 = .ok (.iadd, 1) := by decide +kernel
theorem dX11_put_65 : decode cX11_put 65 = .ok (.ireturn, 1) := by decide +kernel
theorem dX11_fault_0 : decode cX11_fault 0 = .ok (.aload_n 0, 1) := by decide +kernel
theorem dX11_fault_1 : decode cX11_fault 1 = .ok (.iload_n 1, 1) := by decide +kernel
theorem dX11_fault_2 : decode cX11_fault 2 = .ok (.invokevirtual 154, 3) := by decide +kernel
theorem dX11_fault_5 : decode cX11_fault 5 = .ok (.astore_n 2, 1) := by decide +kernel
theorem dX11_fault_6 : decode cX11_fault 6 = .ok (.aload_n 2, 1) := by decide +kernel
theorem dX11_fault_7 : decode cX11_fault 7 = .ok (.ifnonnull 5, 3) := by decide +kernel
theorem dX11_fault_10 : decode cX11_fault 10 = .ok (.iconst (-1), 1) := by decide +kernel
theorem dX11_fault_11 : decode cX11_fault 11 = .ok (.ireturn, 1) := by decide +kernel
theorem dX11_fault_12 : decode cX11_fault 12 = .ok (.aload_n 2, 1) := by decide +kernel
theorem dX11_fault_13 : decode cX11_fault 13 = .ok (.invokevirtual 121, 3) := by decide +kernel
theorem dX11_fault_16 : decode cX11_fault 16 = .ok (.ifCond .eq 9, 3) := by decide +kernel
theorem dX11_fault_19 : decode cX11_fault 19 = .ok (.aload_n 0, 1) := by decide +kernel
theorem dX11_fault_20 : decode cX11_fault 20 = .ok (.iconst 1, 1) := by decide +kernel
theorem dX11_fault_21 : decode cX11_fault 21 = .ok (.invokevirtual 113, 3) := by decide +kernel
theorem dX11_fault_24 : decode cX11_fault 24 = .ok (.ireturn, 1) := by decide +kernel
theorem dX11_fault_25 : decode cX11_fault 25 = .ok (.aload_n 0, 1) := by decide +kernel
theorem dX11_fault_26 : decode cX11_fault 26 = .ok (.getfield 31, 3) := by decide +kernel
theorem dX11_fault_29 : decode cX11_fault 29 = .ok (.aload_n 2, 1) := by decide +kernel
theorem dX11_fault_30 : decode cX11_fault 30 = .ok (.aload_n 0, 1) := by decide +kernel
theorem dX11_fault_31 : decode cX11_fault 31 = .ok (.getfield 25, 3) := by decide +kernel
theorem dX11_fault_34 : decode cX11_fault 34 = .ok (.invokevirtual 157, 3) := by decide +kernel
theorem dX11_fault_37 : decode cX11_fault 37 = .ok (.ireturn, 1) := by decide +kernel
theorem dX11_village_0 : decode cX11_village 0 = .ok (.aload_n 0, 1) := by decide +kernel
theorem dX11_village_1 : decode cX11_village 1 = .ok (.iload_n 1, 1) := by decide +kernel
theorem dX11_village_2 : decode cX11_village 2 = .ok (.invokevirtual 154, 3) := by decide +kernel
theorem dX11_village_5 : decode cX11_village 5 = .ok (.astore_n 2, 1) := by decide +kernel
theorem dX11_village_6 : decode cX11_village 6 = .ok (.aload_n 2, 1) := by decide +kernel
theorem dX11_village_7 : decode cX11_village 7 = .ok (.ifnonnull 5, 3) := by decide +kernel
theorem dX11_village_10 : decode cX11_village 10 = .ok (.iconst (-1), 1) := by decide +kernel
theorem dX11_village_11 : decode cX11_village 11 = .ok (.ireturn, 1) := by decide +kernel
theorem dX11_village_12 : decode cX11_village 12 = .ok (.aload_n 2, 1) := by decide +kernel
theorem dX11_village_13 : decode cX11_village 13 = .ok (.invokevirtual 121, 3) := by decide +kernel
theorem dX11_village_16 : decode cX11_village 16 = .ok (.ifCond .eq 9, 3) := by decide +kernel
theorem dX11_village_19 : decode cX11_village 19 = .ok (.aload_n 0, 1) := by decide +kernel
theorem dX11_village_20 : decode cX11_village 20 = .ok (.iconst 1, 1) := by decide +kernel
theorem dX11_village_21 : decode cX11_village 21 = .ok (.invokevirtual 113, 3) := by decide +kernel
theorem dX11_village_24 : decode cX11_village 24 = .ok (.ireturn, 1) := by decide +kernel
theorem dX11_village_25 : decode cX11_village 25 = .ok (.aload_n 0, 1) := by decide +kernel
theorem dX11_village_26 : decode cX11_village 26 = .ok (.getfield 31, 3) := by decide +kernel
theorem dX11_village_29 : decode cX11_village 29 = .ok (.aload_n 2, 1) := by decide +kernel
theorem dX11_village_30 : decode cX11_village 30 = .ok (.aload_n 0, 1) := by decide +kernel
theorem dX11_village_31 : decode cX11_village 31 = .ok (.getfield 25, 3) := by decide +kernel
theorem dX11_village_34 : decode cX11_village 34 = .ok (.invokevirtual 157, 3) := by decide +kernel
theorem dX11_village_37 : decode cX11_village 37 = .ok (.bipush (-9), 2) := by decide +kernel
theorem dX11_village_39 : decode cX11_village 39 = .ok (.if_icmp .eq 6, 3) := by decide +kernel
theorem dX11_village_42 : decode cX11_village 42 = .ok (.bipush (-4), 2) := by decide +kernel
theorem dX11_village_44 : decode cX11_village 44 = .ok (.ireturn, 1) := by decide +kernel
theorem dX11_village_45 : decode cX11_village 45 = .ok (.aload_n 0, 1) := by decide +kernel
theorem dX11_village_46 : decode cX11_village 46 = .ok (.getfield 31, 3) := by decide +kernel
theorem dX11_village_49 : decode cX11_village 49 = .ok (.aload_n 2, 1) := by decide +kernel
theorem dX11_village_50 : decode cX11_village 50 = .ok (.aload_n 0, 1) := by decide +kernel
theorem dX11_village_51 : decode cX11_village 51 = .ok (.getfield 21, 3) := by decide +kernel
theorem dX11_village_54 : decode cX11_village 54 = .ok (.invokevirtual 157, 3) := by decide +kernel
theorem dX11_village_57 : decode cX11_village 57 = .ok (.pop, 1) := by decide +kernel
theorem dX11_village_58 : decode cX11_village 58 = .ok (.aload_n 0, 1) := by decide +kernel
theorem dX11_village_59 : decode cX11_village 59 = .ok (.getfield 70, 3) := by decide +kernel
theorem dX11_village_62 : decode cX11_village 62 = .ok (.invokevirtual 161, 3) := by decide +kernel
theorem dX11_village_65 : decode cX11_village 65 = .ok (.aload_n 0, 1) := by decide +kernel
theorem dX11_village_66 : decode cX11_village 66 = .ok (.getfield 79, 3) := by decide +kernel
theorem dX11_village_69 : decode cX11_village 69 = .ok (.iconst 0, 1) := by decide +kernel
theorem dX11_village_70 : decode cX11_village 70 = .ok (.invokevirtual 164, 3) := by decide +kernel
theorem dX11_village_73 : decode cX11_village 73 = .ok (.aload_n 0, 1) := by decide +kernel
theorem dX11_village_74 : decode cX11_village 74 = .ok (.getfield 83, 3) := by decide +kernel
theorem dX11_village_77 : decode cX11_village 77 = .ok (.iconst 0, 1) := by decide +kernel
theorem dX11_village_78 : decode cX11_village 78 = .ok (.invokevirtual 164, 3) := by decide +kernel
theorem dX11_village_81 : decode cX11_village 81 = .ok (.aload_n 0, 1) := by decide +kernel
theorem dX11_village_82 : decode cX11_village 82 = .ok (.getfield 21, 3) := by decide +kernel
theorem dX11_village_85 : decode cX11_village 85 = .ok (.getfield 167, 3) := by decide +kernel
theorem dX11_village_88 : decode cX11_village 88 = .ok (.ireturn, 1) := by decide +kernel
theorem dX11_house_0 : decode cX11_house 0 = .ok (.aload_n 0, 1) := by decide +kernel
theorem dX11_house_1 : decode cX11_house 1 = .ok (.getfield 21, 3) := by decide +kernel
theorem dX11_house_4 : decode cX11_house 4 = .ok (.iload_n 1, 1) := by decide +kernel
theorem dX11_house_5 : decode cX11_house 5 = .ok (.invokevirtual 170, 3) := by decide +kernel
theorem dX11_house_8 : decode cX11_house 8 = .ok (.ifCond .ne 5, 3) := by decide +kernel
theorem dX11_house_11 : decode cX11_house 11 = .ok (.iconst (-1), 1) := by decide +kernel
theorem dX11_house_12 : decode cX11_house 12 = .ok (.ireturn, 1) := by decide +kernel
theorem dX11_house_13 : decode cX11_house 13 = .ok (.aload_n 0, 1) := by decide +kernel
theorem dX11_house_14 : decode cX11_house 14 = .ok (.aload_n 0, 1) := by decide +kernel
theorem dX11_house_15 : decode cX11_house 15 = .ok (.getfield 70, 3) := by decide +kernel
theorem dX11_house_18 : decode cX11_house 18 = .ok (.iload_n 1, 1) := by decide +kernel
theorem dX11_house_19 : decode cX11_house 19 = .ok (.invokevirtual 173, 3) := by decide +kernel
theorem dX11_house_22 : decode cX11_house 22 = .ok (.putfield 98, 3) := by decide +kernel
theorem dX11_house_25 : decode cX11_house 25 = .ok (.aload_n 0, 1) := by decide +kernel
theorem dX11_house_26 : decode cX11_house 26 = .ok (.getfield 21, 3) := by decide +kernel
theorem dX11_house_29 : decode cX11_house 29 = .ok (.iload_n 1, 1) := by decide +kernel
theorem dX11_house_30 : decode cX11_house 30 = .ok (.invokevirtual 176, 3) := by decide +kernel
theorem dX11_house_33 : decode cX11_house 33 = .ok (.ireturn, 1) := by decide +kernel
theorem dX11_chance_0 : decode cX11_chance 0 = .ok (.aload_n 0, 1) := by decide +kernel
theorem dX11_chance_1 : decode cX11_chance 1 = .ok (.getfield 21, 3) := by decide +kernel
theorem dX11_chance_4 : decode cX11_chance 4 = .ok (.iload_n 1, 1) := by decide +kernel
theorem dX11_chance_5 : decode cX11_chance 5 = .ok (.invokevirtual 179, 3) := by decide +kernel
theorem dX11_chance_8 : decode cX11_chance 8 = .ok (.ifCond .eq 13, 3) := by decide +kernel
theorem dX11_chance_11 : decode cX11_chance 11 = .ok (.iload_n 2, 1) := by decide +kernel
theorem dX11_chance_12 : decode cX11_chance 12 = .ok (.ifCond .lt 9, 3) := by decide +kernel
theorem dX11_chance_15 : decode cX11_chance 15 = .ok (.iload_n 2, 1) := by decide +kernel
theorem dX11_chance_16 : decode cX11_chance 16 = .ok (.bipush 12, 2) := by decide +kernel
theorem dX11_chance_18 : decode cX11_chance 18 = .ok (.if_icmp .le 5, 3) := by decide +kernel
theorem dX11_chance_21 : decode cX11_chance 21 = .ok (.iconst (-1), 1) := by decide +kernel
theorem dX11_chance_22 : decode cX11_chance 22 = .ok (.ireturn, 1) := by decide +kernel
theorem dX11_chance_23 : decode cX11_chance 23 = .ok (.aload_n 0, 1) := by decide +kernel
theorem dX11_chance_24 : decode cX11_chance 24 = .ok (.getfield 21, 3) := by decide +kernel
theorem dX11_chance_27 : decode cX11_chance 27 = .ok (.iload_n 1, 1) := by decide +kernel
theorem dX11_chance_28 : decode cX11_chance 28 = .ok (.invokevirtual 182, 3) := by decide +kernel
theorem dX11_chance_31 : decode cX11_chance 31 = .ok (.astore_n 3, 1) := by decide +kernel
theorem dX11_chance_32 : decode cX11_chance 32 = .ok (.aload_n 3, 1) := by decide +kernel
theorem dX11_chance_33 : decode cX11_chance 33 = .ok (.iconst 2, 1) := by decide +kernel
theorem dX11_chance_34 : decode cX11_chance 34 = .ok (.invokevirtual 191, 3) := by decide +kernel
theorem dX11_chance_37 : decode cX11_chance 37 = .ok (.ifCond .ne 9, 3) := by decide +kernel
theorem dX11_chance_40 : decode cX11_chance 40 = .ok (.aload_n 0, 1) := by decide +kernel
theorem dX11_chance_41 : decode cX11_chance 41 = .ok (.iconst 3, 1) := by decide +kernel
theorem dX11_chance_42 : decode cX11_chance 42 = .ok (.invokevirtual 113, 3) := by decide +kernel
theorem dX11_chance_45 : decode cX11_chance 45 = .ok (.ireturn, 1) := by decide +kernel
theorem dX11_chance_46 : decode cX11_chance 46 = .ok (.aload_n 3, 1) := by decide +kernel
theorem dX11_chance_47 : decode cX11_chance 47 = .ok (.getfield 204, 3) := by decide +kernel
theorem dX11_chance_50 : decode cX11_chance 50 = .ok (.istore 4, 2) := by decide +kernel
theorem dX11_chance_52 : decode cX11_chance 52 = .ok (.aload_n 3, 1) := by decide +kernel
theorem dX11_chance_53 : decode cX11_chance 53 = .ok (.iload_n 2, 1) := by decide +kernel
theorem dX11_chance_54 : decode cX11_chance 54 = .ok (.putfield 204, 3) := by decide +kernel
theorem dX11_chance_57 : decode cX11_chance 57 = .ok (.iload 4, 2) := by decide +kernel
theorem dX11_chance_59 : decode cX11_chance 59 = .ok (.ireturn, 1) := by decide +kernel
theorem dX11_order_0 : decode cX11_order 0 = .ok (.aload_n 0, 1) := by decide +kernel
theorem dX11_order_1 : decode cX11_order 1 = .ok (.iload_n 1, 1) := by decide +kernel
theorem dX11_order_2 : decode cX11_order 2 = .ok (.invokevirtual 109, 3) := by decide +kernel
theorem dX11_order_5 : decode cX11_order 5 = .ok (.astore_n 2, 1) := by decide +kernel
theorem dX11_order_6 : decode cX11_order 6 = .ok (.aload_n 2, 1) := by decide +kernel
theorem dX11_order_7 : decode cX11_order 7 = .ok (.ifnonnull 5, 3) := by decide +kernel
theorem dX11_order_10 : decode cX11_order 10 = .ok (.iconst (-1), 1) := by decide +kernel
theorem dX11_order_11 : decode cX11_order 11 = .ok (.ireturn, 1) := by decide +kernel
theorem dX11_order_12 : decode cX11_order 12 = .ok (.aload_n 0, 1) := by decide +kernel
theorem dX11_order_13 : decode cX11_order 13 = .ok (.aload_n 2, 1) := by decide +kernel
theorem dX11_order_14 : decode cX11_order 14 = .ok (.invokevirtual 207, 3) := by decide +kernel
theorem dX11_order_17 : decode cX11_order 17 = .ok (.istore_n 3, 1) := by decide +kernel
theorem dX11_order_18 : decode cX11_order 18 = .ok (.iload_n 3, 1) := by decide +kernel
theorem dX11_order_19 : decode cX11_order 19 = .ok (.ifCond .eq 9, 3) := by decide +kernel
theorem dX11_order_22 : decode cX11_order 22 = .ok (.aload_n 0, 1) := by decide +kernel
theorem dX11_order_23 : decode cX11_order 23 = .ok (.iload_n 3, 1) := by decide +kernel
theorem dX11_order_24 : decode cX11_order 24 = .ok (.invokevirtual 113, 3) := by decide +kernel
theorem dX11_order_27 : decode cX11_order 27 = .ok (.ireturn, 1) := by decide +kernel
theorem dX11_order_28 : decode cX11_order 28 = .ok (.aload_n 0, 1) := by decide +kernel
theorem dX11_order_29 : decode cX11_order 29 = .ok (.aload_n 2, 1) := by decide +kernel
theorem dX11_order_30 : decode cX11_order 30 = .ok (.invokevirtual 211, 3) := by decide +kernel
theorem dX11_order_33 : decode cX11_order 33 = .ok (.aload_n 0, 1) := by decide +kernel
theorem dX11_order_34 : decode cX11_order 34 = .ok (.aload_n 0, 1) := by decide +kernel
theorem dX11_order_35 : decode cX11_order 35 = .ok (.getfield 47, 3) := by decide +kernel
theorem dX11_order_38 : decode cX11_order 38 = .ok (.getfield 215, 3) := by decide +kernel
theorem dX11_order_41 : decode cX11_order 41 = .ok (.putfield 98, 3) := by decide +kernel
theorem dX11_order_44 : decode cX11_order 44 = .ok (.aload_n 0, 1) := by decide +kernel
theorem dX11_order_45 : decode cX11_order 45 = .ok (.getfield 47, 3) := by decide +kernel
theorem dX11_order_48 : decode cX11_order 48 = .ok (.getfield 218, 3) := by decide +kernel
theorem dX11_order_51 : decode cX11_order 51 = .ok (.ireturn, 1) := by decide +kernel
theorem dX11_can_0 : decode cX11_can 0 = .ok (.aload_n 0, 1) := by decide +kernel
theorem dX11_can_1 : decode cX11_can 1 = .ok (.getfield 21, 3) := by decide +kernel
theorem dX11_can_4 : decode cX11_can 4 = .ok (.iload_n 1, 1) := by decide +kernel
theorem dX11_can_5 : decode cX11_can 5 = .ok (.invokevirtual 224, 3) := by decide +kernel
theorem dX11_can_8 : decode cX11_can 8 = .ok (.ifCond .ne 5, 3) := by decide +kernel
theorem dX11_can_11 : decode cX11_can 11 = .ok (.iconst (-1), 1) := by decide +kernel
theorem dX11_can_12 : decode cX11_can 12 = .ok (.ireturn, 1) := by decide +kernel
theorem dX11_can_13 : decode cX11_can 13 = .ok (.aload_n 0, 1) := by decide +kernel
theorem dX11_can_14 : decode cX11_can 14 = .ok (.iload_n 1, 1) := by decide +kernel
theorem dX11_can_15 : decode cX11_can 15 = .ok (.invokevirtual 227, 3) := by decide +kernel
theorem dX11_can_18 : decode cX11_can 18 = .ok (.aload_n 0, 1) := by decide +kernel
theorem dX11_can_19 : decode cX11_can 19 = .ok (.getfield 54, 3) := by decide +kernel
theorem dX11_can_22 : decode cX11_can 22 = .ok (.iload_n 1, 1) := by decide +kernel
theorem dX11_can_23 : decode cX11_can 23 = .ok (.invokevirtual 230, 3) := by decide +kernel
theorem dX11_can_26 : decode cX11_can 26 = .ok (.ireturn, 1) := by decide +kernel
theorem dX11_sets_0 : decode cX11_sets 0 = .ok (.aload_n 0, 1) := by decide +kernel
theorem dX11_sets_1 : decode cX11_sets 1 = .ok (.aload_n 0, 1) := by decide +kernel
theorem dX11_sets_2 : decode cX11_sets 2 = .ok (.getfield 21, 3) := by decide +kernel
theorem dX11_sets_5 : decode cX11_sets 5 = .ok (.invokevirtual 233, 3) := by decide +kernel
theorem dX11_sets_8 : decode cX11_sets 8 = .ok (.invokevirtual 227, 3) := by decide +kernel
theorem dX11_sets_11 : decode cX11_sets 11 = .ok (.iconst 0, 1) := by decide +kernel
theorem dX11_sets_12 : decode cX11_sets 12 = .ok (.istore_n 1, 1) := by decide +kernel
theorem dX11_sets_13 : decode cX11_sets 13 = .ok (.iconst 0, 1) := by decide +kernel
theorem dX11_sets_14 : decode cX11_sets 14 = .ok (.istore_n 2, 1) := by decide +kernel
theorem dX11_sets_15 : decode cX11_sets 15 = .ok (.iconst 0, 1) := by decide +kernel
theorem dX11_sets_16 : decode cX11_sets 16 = .ok (.istore_n 3, 1) := by decide +kernel
theorem dX11_sets_17 : decode cX11_sets 17 = .ok (.iload_n 3, 1) := by decide +kernel
theorem dX11_sets_18 : decode cX11_sets 18 = .ok (.aload_n 0, 1) := by decide +kernel
theorem dX11_sets_19 : decode cX11_sets 19 = .ok (.getfield 21, 3) := by decide +kernel
theorem dX11_sets_22 : decode cX11_sets 22 = .ok (.invokevirtual 233, 3) := by decide +kernel
theorem dX11_sets_25 : decode cX11_sets 25 = .ok (.if_icmp .gt 38, 3) := by decide +kernel
theorem dX11_sets_28 : decode cX11_sets 28 = .ok (.aload_n 0, 1) := by decide +kernel
theorem dX11_sets_29 : decode cX11_sets 29 = .ok (.getfield 54, 3) := by decide +kernel
theorem dX11_sets_32 : decode cX11_sets 32 = .ok (.iload_n 3, 1) := by decide +kernel
theorem dX11_sets_33 : decode cX11_sets 33 = .ok (.invokevirtual 230, 3) := by decide +kernel
theorem dX11_sets_36 : decode cX11_sets 36 = .ok (.bipush (-9), 2) := by decide +kernel
theorem dX11_sets_38 : decode cX11_sets 38 = .ok (.if_icmp .eq 19, 3) := by decide +kernel
theorem dX11_sets_41 : decode cX11_sets 41 = .ok (.iinc 1 1, 3) := by decide +kernel
theorem dX11_sets_44 : decode cX11_sets 44 = .ok (.iload_n 2, 1) := by decide +kernel
theorem dX11_sets_45 : decode cX11_sets 45 = .ok (.aload_n 0, 1) := by decide +kernel
theorem dX11_sets_46 : decode cX11_sets 46 = .ok (.getfield 38, 3) := by decide +kernel
theorem dX11_sets_49 : decode cX11_sets 49 = .ok (.iload_n 3, 1) := by decide +kernel
theorem dX11_sets_50 : decode cX11_sets 50 = .ok (.invokevirtual 236, 3) := by decide +kernel
theorem dX11_sets_53 : decode cX11_sets 53 = .ok (.invokestatic 239, 3) := by decide +kernel
theorem dX11_sets_56 : decode cX11_sets 56 = .ok (.istore_n 2, 1) := by decide +kernel
theorem dX11_sets_57 : decode cX11_sets 57 = .ok (.iinc 3 1, 3) := by decide +kernel
theorem dX11_sets_60 : decode cX11_sets 60 = .ok (.goto (-43), 3) := by decide +kernel
theorem dX11_sets_63 : decode cX11_sets 63 = .ok (.aload_n 0, 1) := by decide +kernel
theorem dX11_sets_64 : decode cX11_sets 64 = .ok (.iload_n 2, 1) := by decide +kernel
theorem dX11_sets_65 : decode cX11_sets 65 = .ok (.putfield 98, 3) := by decide +kernel
theorem dX11_sets_68 : decode cX11_sets 68 = .ok (.iload_n 1, 1) := by decide +kernel
theorem dX11_sets_69 : decode cX11_sets 69 = .ok (.ireturn, 1) := by decide +kernel
theorem dX11_best_0 : decode cX11_best 0 = .ok (.aload_n 0, 1) := by decide +kernel
theorem dX11_best_1 : decode cX11_best 1 = .ok (.aload_n 0, 1) := by decide +kernel
theorem dX11_best_2 : decode cX11_best 2 = .ok (.getfield 21, 3) := by decide +kernel
theorem dX11_best_5 : decode cX11_best 5 = .ok (.invokevirtual 233, 3) := by decide +kernel
theorem dX11_best_8 : decode cX11_best 8 = .ok (.invokevirtual 227, 3) := by decide +kernel
theorem dX11_best_11 : decode cX11_best 11 = .ok (.aload_n 0, 1) := by decide +kernel
theorem dX11_best_12 : decode cX11_best 12 = .ok (.getfield 54, 3) := by decide +kernel
theorem dX11_best_15 : decode cX11_best 15 = .ok (.aload_n 0, 1) := by decide +kernel
theorem dX11_best_16 : decode cX11_best 16 = .ok (.getfield 21, 3) := by decide +kernel
theorem dX11_best_19 : decode cX11_best 19 = .ok (.invokevirtual 233, 3) := by decide +kernel
theorem dX11_best_22 : decode cX11_best 22 = .ok (.aload_n 0, 1) := by decide +kernel
theorem dX11_best_23 : decode cX11_best 23 = .ok (.getfield 21, 3) := by decide +kernel
theorem dX11_best_26 : decode cX11_best 26 = .ok (.invokevirtual 244, 3) := by decide +kernel
theorem dX11_best_29 : decode cX11_best 29 = .ok (.invokevirtual 247, 3) := by decide +kernel
theorem dX11_best_32 : decode cX11_best 32 = .ok (.istore_n 1, 1) := by decide +kernel
theorem dX11_best_33 : decode cX11_best 33 = .ok (.iload_n 1, 1) := by decide +kernel
theorem dX11_best_34 : decode cX11_best 34 = .ok (.bipush (-9), 2) := by decide +kernel
theorem dX11_best_36 : decode cX11_best 36 = .ok (.if_icmp .ne 6, 3) := by decide +kernel
theorem dX11_best_39 : decode cX11_best 39 = .ok (.bipush (-9), 2) := by decide +kernel
theorem dX11_best_41 : decode cX11_best 41 = .ok (.ireturn, 1) := by decide +kernel
theorem dX11_best_42 : decode cX11_best 42 = .ok (.aload_n 0, 1) := by decide +kernel
theorem dX11_best_43 : decode cX11_best 43 = .ok (.aload_n 0, 1) := by decide +kernel
theorem dX11_best_44 : decode cX11_best 44 = .ok (.getfield 38, 3) := by decide +kernel
theorem dX11_best_47 : decode cX11_best 47 = .ok (.iload_n 1, 1) := by decide +kernel
theorem dX11_best_48 : decode cX11_best 48 = .ok (.invokevirtual 236, 3) := by decide +kernel
theorem dX11_best_51 : decode cX11_best 51 = .ok (.putfield 98, 3) := by decide +kernel
theorem dX11_best_54 : decode cX11_best 54 = .ok (.iload_n 1, 1) := by decide +kernel
theorem dX11_best_55 : decode cX11_best 55 = .ok (.ireturn, 1) := by decide +kernel
theorem dX11_first_0 : decode cX11_first 0 = .ok (.aload_n 0, 1) := by decide +kernel
theorem dX11_first_1 : decode cX11_first 1 = .ok (.iload_n 2, 1) := by decide +kernel
theorem dX11_first_2 : decode cX11_first 2 = .ok (.invokevirtual 109, 3) := by decide +kernel
theorem dX11_first_5 : decode cX11_first 5 = .ok (.astore_n 3, 1) := by decide +kernel
theorem dX11_first_6 : decode cX11_first 6 = .ok (.aload_n 3, 1) := by decide +kernel
theorem dX11_first_7 : decode cX11_first 7 = .ok (.ifnull 14, 3) := by decide +kernel
theorem dX11_first_10 : decode cX11_first 10 = .ok (.aload_n 0, 1) := by decide +kernel
theorem dX11_first_11 : decode cX11_first 11 = .ok (.getfield 21, 3) := by decide +kernel
theorem dX11_first_14 : decode cX11_first 14 = .ok (.iload_n 1, 1) := by decide +kernel
theorem dX11_first_15 : decode cX11_first 15 = .ok (.invokevirtual 224, 3) := by decide +kernel
theorem dX11_first_18 : decode cX11_first 18 = .ok (.ifCond .ne 5, 3) := by decide +kernel
theorem dX11_first_21 : decode cX11_first 21 = .ok (.iconst (-1), 1) := by decide +kernel
theorem dX11_first_22 : decode cX11_first 22 = .ok (.ireturn, 1) := by decide +kernel
theorem dX11_first_23 : decode cX11_first 23 = .ok (.aload_n 0, 1) := by decide +kernel
theorem dX11_first_24 : decode cX11_first 24 = .ok (.iload_n 1, 1) := by decide +kernel
theorem dX11_first_25 : decode cX11_first 25 = .ok (.invokevirtual 250, 3) := by decide +kernel
theorem dX11_first_28 : decode cX11_first 28 = .ok (.ifCond .ne 6, 3) := by decide +kernel
theorem dX11_first_31 : decode cX11_first 31 = .ok (.bipush (-9), 2) := by decide +kernel
theorem dX11_first_33 : decode cX11_first 33 = .ok (.ireturn, 1) := by decide +kernel
theorem dX11_first_34 : decode cX11_first 34 = .ok (.aload_n 0, 1) := by decide +kernel
theorem dX11_first_35 : decode cX11_first 35 = .ok (.aload_n 3, 1) := by decide +kernel
theorem dX11_first_36 : decode cX11_first 36 = .ok (.invokevirtual 253, 3) := by decide +kernel
theorem dX11_first_39 : decode cX11_first 39 = .ok (.iconst 1, 1) := by decide +kernel
theorem dX11_first_40 : decode cX11_first 40 = .ok (.ireturn, 1) := by decide +kernel
theorem dX11_orders_0 : decode cX11_orders 0 = .ok (.aload_n 0, 1) := by decide +kernel
theorem dX11_orders_1 : decode cX11_orders 1 = .ok (.getfield 21, 3) := by decide +kernel
theorem dX11_orders_4 : decode cX11_orders 4 = .ok (.iload_n 1, 1) := by decide +kernel
theorem dX11_orders_5 : decode cX11_orders 5 = .ok (.invokevirtual 224, 3) := by decide +kernel
theorem dX11_orders_8 : decode cX11_orders 8 = .ok (.ifCond .ne 5, 3) := by decide +kernel
theorem dX11_orders_11 : decode cX11_orders 11 = .ok (.iconst (-1), 1) := by decide +kernel
theorem dX11_orders_12 : decode cX11_orders 12 = .ok (.ireturn, 1) := by decide +kernel
theorem dX11_orders_13 : decode cX11_orders 13 = .ok (.aload_n 0, 1) := by decide +kernel
theorem dX11_orders_14 : decode cX11_orders 14 = .ok (.getfield 90, 3) := by decide +kernel
theorem dX11_orders_17 : decode cX11_orders 17 = .ok (.ifnonnull 18, 3) := by decide +kernel
theorem dX11_orders_20 : decode cX11_orders 20 = .ok (.aload_n 0, 1) := by decide +kernel
theorem dX11_orders_21 : decode cX11_orders 21 = .ok (.new 256, 3) := by decide +kernel
theorem dX11_orders_24 : decode cX11_orders 24 = .ok (.dup, 1) := by decide +kernel
theorem dX11_orders_25 : decode cX11_orders 25 = .ok (.aload_n 0, 1) := by decide +kernel
theorem dX11_orders_26 : decode cX11_orders 26 = .ok (.getfield 38, 3) := by decide +kernel
theorem dX11_orders_29 : decode cX11_orders 29 = .ok (.invokespecial 258, 3) := by decide +kernel
theorem dX11_orders_32 : decode cX11_orders 32 = .ok (.putfield 90, 3) := by decide +kernel
theorem dX11_orders_35 : decode cX11_orders 35 = .ok (.aload_n 0, 1) := by decide +kernel
theorem dX11_orders_36 : decode cX11_orders 36 = .ok (.getfield 38, 3) := by decide +kernel
theorem dX11_orders_39 : decode cX11_orders 39 = .ok (.aload_n 0, 1) := by decide +kernel
theorem dX11_orders_40 : decode cX11_orders 40 = .ok (.getfield 21, 3) := by decide +kernel
theorem dX11_orders_43 : decode cX11_orders 43 = .ok (.invokevirtual 259, 3) := by decide +kernel
theorem dX11_orders_46 : decode cX11_orders 46 = .ok (.aload_n 0, 1) := by decide +kernel
theorem dX11_orders_47 : decode cX11_orders 47 = .ok (.getfield 90, 3) := by decide +kernel
theorem dX11_orders_50 : decode cX11_orders 50 = .ok (.iload_n 1, 1) := by decide +kernel
theorem dX11_orders_51 : decode cX11_orders 51 = .ok (.aload_n 0, 1) := by decide +kernel
theorem dX11_orders_52 : decode cX11_orders 52 = .ok (.getfield 21, 3) := by decide +kernel
theorem dX11_orders_55 : decode cX11_orders 55 = .ok (.invokevirtual 263, 3) := by decide +kernel
theorem dX11_orders_58 : decode cX11_orders 58 = .ok (.invokevirtual 266, 3) := by decide +kernel
theorem dX11_orders_61 : decode cX11_orders 61 = .ok (.ireturn, 1) := by decide +kernel
theorem dX11_costs_0 : decode cX11_costs 0 = .ok (.aload_n 0, 1) := by decide +kernel
theorem dX11_costs_1 : decode cX11_costs 1 = .ok (.getfield 21, 3) := by decide +kernel
theorem dX11_costs_4 : decode cX11_costs 4 = .ok (.iload_n 1, 1) := by decide +kernel
theorem dX11_costs_5 : decode cX11_costs 5 = .ok (.invokevirtual 179, 3) := by decide +kernel
theorem dX11_costs_8 : decode cX11_costs 8 = .ok (.ifCond .ne 5, 3) := by decide +kernel
theorem dX11_costs_11 : decode cX11_costs 11 = .ok (.iconst (-1), 1) := by decide +kernel
theorem dX11_costs_12 : decode cX11_costs 12 = .ok (.ireturn, 1) := by decide +kernel
theorem dX11_costs_13 : decode cX11_costs 13 = .ok (.aload_n 0, 1) := by decide +kernel
theorem dX11_costs_14 : decode cX11_costs 14 = .ok (.aload_n 0, 1) := by decide +kernel
theorem dX11_costs_15 : decode cX11_costs 15 = .ok (.getfield 21, 3) := by decide +kernel
theorem dX11_costs_18 : decode cX11_costs 18 = .ok (.invokevirtual 233, 3) := by decide +kernel
theorem dX11_costs_21 : decode cX11_costs 21 = .ok (.invokevirtual 227, 3) := by decide +kernel
theorem dX11_costs_24 : decode cX11_costs 24 = .ok (.aload_n 0, 1) := by decide +kernel
theorem dX11_costs_25 : decode cX11_costs 25 = .ok (.getfield 54, 3) := by decide +kernel
theorem dX11_costs_28 : decode cX11_costs 28 = .ok (.aload_n 0, 1) := by decide +kernel
theorem dX11_costs_29 : decode cX11_costs 29 = .ok (.getfield 21, 3) := by decide +kernel
theorem dX11_costs_32 : decode cX11_costs 32 = .ok (.invokevirtual 233, 3) := by decide +kernel
theorem dX11_costs_35 : decode cX11_costs 35 = .ok (.aload_n 0, 1) := by decide +kernel
theorem dX11_costs_36 : decode cX11_costs 36 = .ok (.getfield 21, 3) := by decide +kernel
theorem dX11_costs_39 : decode cX11_costs 39 = .ok (.invokevirtual 244, 3) := by decide +kernel
theorem dX11_costs_42 : decode cX11_costs 42 = .ok (.invokevirtual 247, 3) := by decide +kernel
theorem dX11_costs_45 : decode cX11_costs 45 = .ok (.istore_n 2, 1) := by decide +kernel
theorem dX11_costs_46 : decode cX11_costs 46 = .ok (.aload_n 0, 1) := by decide +kernel
theorem dX11_costs_47 : decode cX11_costs 47 = .ok (.getfield 54, 3) := by decide +kernel
theorem dX11_costs_50 : decode cX11_costs 50 = .ok (.aload_n 0, 1) := by decide +kernel
theorem dX11_costs_51 : decode cX11_costs 51 = .ok (.getfield 21, 3) := by decide +kernel
theorem dX11_costs_54 : decode cX11_costs 54 = .ok (.invokevirtual 233, 3) := by decide +kernel
theorem dX11_costs_57 : decode cX11_costs 57 = .ok (.iload_n 1, 1) := by decide +kernel
theorem dX11_costs_58 : decode cX11_costs 58 = .ok (.invokestatic 269, 3) := by decide +kernel
theorem dX11_costs_61 : decode cX11_costs 61 = .ok (.iconst (-1), 1) := by decide +kernel
theorem dX11_costs_62 : decode cX11_costs 62 = .ok (.ixor, 1) := by decide +kernel
theorem dX11_costs_63 : decode cX11_costs 63 = .ok (.iand, 1) := by decide +kernel
theorem dX11_costs_64 : decode cX11_costs 64 = .ok (.aload_n 0, 1) := by decide +kernel
theorem dX11_costs_65 : decode cX11_costs 65 = .ok (.getfield 21, 3) := by decide +kernel
theorem dX11_costs_68 : decode cX11_costs 68 = .ok (.invokevirtual 244, 3) := by decide +kernel
theorem dX11_costs_71 : decode cX11_costs 71 = .ok (.iload_n 1, 1) := by decide +kernel
theorem dX11_costs_72 : decode cX11_costs 72 = .ok (.invokestatic 269, 3) := by decide +kernel
theorem dX11_costs_75 : decode cX11_costs 75 = .ok (.iconst (-1), 1) := by decide +kernel
theorem dX11_costs_76 : decode cX11_costs 76 = .ok (.ixor, 1) := by decide +kernel
theorem dX11_costs_77 : decode cX11_costs 77 = .ok (.iand, 1) := by decide +kernel
theorem dX11_costs_78 : decode cX11_costs 78 = .ok (.invokevirtual 247, 3) := by decide +kernel
theorem dX11_costs_81 : decode cX11_costs 81 = .ok (.istore_n 3, 1) := by decide +kernel
theorem dX11_costs_82 : decode cX11_costs 82 = .ok (.iload_n 2, 1) := by decide +kernel
theorem dX11_costs_83 : decode cX11_costs 83 = .ok (.bipush (-9), 2) := by decide +kernel
theorem dX11_costs_85 : decode cX11_costs 85 = .ok (.if_icmp .eq 9, 3) := by decide +kernel
theorem dX11_costs_88 : decode cX11_costs 88 = .ok (.iload_n 3, 1) := by decide +kernel
theorem dX11_costs_89 : decode cX11_costs 89 = .ok (.bipush (-9), 2) := by decide +kernel
theorem dX11_costs_91 : decode cX11_costs 91 = .ok (.if_icmp .ne 6, 3) := by decide +kernel
theorem dX11_costs_94 : decode cX11_costs 94 = .ok (.bipush (-9), 2) := by decide +kernel
theorem dX11_costs_96 : decode cX11_costs 96 = .ok (.ireturn, 1) := by decide +kernel
theorem dX11_costs_97 : decode cX11_costs 97 = .ok (.aload_n 0, 1) := by decide +kernel
theorem dX11_costs_98 : decode cX11_costs 98 = .ok (.getfield 38, 3) := by decide +kernel
theorem dX11_costs_101 : decode cX11_costs 101 = .ok (.iload_n 3, 1) := by decide +kernel
theorem dX11_costs_102 : decode cX11_costs 102 = .ok (.invokevirtual 236, 3) := by decide +kernel
theorem dX11_costs_105 : decode cX11_costs 105 = .ok (.aload_n 0, 1) := by decide +kernel
theorem dX11_costs_106 : decode cX11_costs 106 = .ok (.getfield 38, 3) := by decide +kernel
theorem dX11_costs_109 : decode cX11_costs 109 = .ok (.iload_n 2, 1) := by decide +kernel
theorem dX11_costs_110 : decode cX11_costs 110 = .ok (.iload_n 1, 1) := by decide +kernel
theorem dX11_costs_111 : decode cX11_costs 111 = .ok (.invokestatic 269, 3) := by decide +kernel
theorem dX11_costs_114 : decode cX11_costs 114 = .ok (.iconst (-1), 1) := by decide +kernel
theorem dX11_costs_115 : decode cX11_costs 115 = .ok (.ixor, 1) := by decide +kernel
theorem dX11_costs_116 : decode cX11_costs 116 = .ok (.iand, 1) := by decide +kernel
theorem dX11_costs_117 : decode cX11_costs 117 = .ok (.invokevirtual 236, 3) := by decide +kernel
theorem dX11_costs_120 : decode cX11_costs 120 = .ok (.isub, 1) := by decide +kernel
theorem dX11_costs_121 : decode cX11_costs 121 = .ok (.ireturn, 1) := by decide +kernel
theorem dX11_worn_0 : decode cX11_worn 0 = .ok (.aload_n 0, 1) := by decide +kernel
theorem dX11_worn_1 : decode cX11_worn 1 = .ok (.getfield 21, 3) := by decide +kernel
theorem dX11_worn_4 : decode cX11_worn 4 = .ok (.iload_n 1, 1) := by decide +kernel
theorem dX11_worn_5 : decode cX11_worn 5 = .ok (.invokevirtual 224, 3) := by decide +kernel
theorem dX11_worn_8 : decode cX11_worn 8 = .ok (.ifCond .ne 5, 3) := by decide +kernel
theorem dX11_worn_11 : decode cX11_worn 11 = .ok (.iconst (-1), 1) := by decide +kernel
theorem dX11_worn_12 : decode cX11_worn 12 = .ok (.ireturn, 1) := by decide +kernel
theorem dX11_worn_13 : decode cX11_worn 13 = .ok (.aload_n 0, 1) := by decide +kernel
theorem dX11_worn_14 : decode cX11_worn 14 = .ok (.iload_n 1, 1) := by decide +kernel
theorem dX11_worn_15 : decode cX11_worn 15 = .ok (.invokevirtual 250, 3) := by decide +kernel
theorem dX11_worn_18 : decode cX11_worn 18 = .ok (.ifCond .eq 13, 3) := by decide +kernel
theorem dX11_worn_21 : decode cX11_worn 21 = .ok (.aload_n 0, 1) := by decide +kernel
theorem dX11_worn_22 : decode cX11_worn 22 = .ok (.getfield 47, 3) := by decide +kernel
theorem dX11_worn_25 : decode cX11_worn 25 = .ok (.invokevirtual 272, 3) := by decide +kernel
theorem dX11_worn_28 : decode cX11_worn 28 = .ok (.goto 5, 3) := by decide +kernel
theorem dX11_worn_31 : decode cX11_worn 31 = .ok (.bipush (-9), 2) := by decide +kernel
theorem dX11_worn_33 : decode cX11_worn 33 = .ok (.ireturn, 1) := by decide +kernel
theorem dX11_wise_0 : decode cX11_wise 0 = .ok (.aload_n 0, 1) := by decide +kernel
theorem dX11_wise_1 : decode cX11_wise 1 = .ok (.getfield 38, 3) := by decide +kernel
theorem dX11_wise_4 : decode cX11_wise 4 = .ok (.aload_n 0, 1) := by decide +kernel
theorem dX11_wise_5 : decode cX11_wise 5 = .ok (.getfield 21, 3) := by decide +kernel
theorem dX11_wise_8 : decode cX11_wise 8 = .ok (.invokevirtual 259, 3) := by decide +kernel
theorem dX11_wise_11 : decode cX11_wise 11 = .ok (.getstatic 285, 3) := by decide +kernel
theorem dX11_wise_14 : decode cX11_wise 14 = .ok (.arraylength, 1) := by decide +kernel
theorem dX11_wise_15 : decode cX11_wise 15 = .ok (.istore_n 1, 1) := by decide +kernel
theorem dX11_wise_16 : decode cX11_wise 16 = .ok (.iconst 0, 1) := by decide +kernel
theorem dX11_wise_17 : decode cX11_wise 17 = .ok (.istore_n 2, 1) := by decide +kernel
theorem dX11_wise_18 : decode cX11_wise 18 = .ok (.bipush (-9), 2) := by decide +kernel
theorem dX11_wise_20 : decode cX11_wise 20 = .ok (.istore_n 3, 1) := by decide +kernel
theorem dX11_wise_21 : decode cX11_wise 21 = .ok (.iconst 0, 1) := by decide +kernel
theorem dX11_wise_22 : decode cX11_wise 22 = .ok (.istore 4, 2) := by decide +kernel
theorem dX11_wise_24 : decode cX11_wise 24 = .ok (.iload 4, 2) := by decide +kernel
theorem dX11_wise_26 : decode cX11_wise 26 = .ok (.iload_n 1, 1) := by decide +kernel
theorem dX11_wise_27 : decode cX11_wise 27 = .ok (.iload_n 1, 1) := by decide +kernel
theorem dX11_wise_28 : decode cX11_wise 28 = .ok (.iload_n 1, 1) := by decide +kernel
theorem dX11_wise_29 : decode cX11_wise 29 = .ok (.imul, 1) := by decide +kernel
theorem dX11_wise_30 : decode cX11_wise 30 = .ok (.iadd, 1) := by decide +kernel
theorem dX11_wise_31 : decode cX11_wise 31 = .ok (.if_icmp .ge 50, 3) := by decide +kernel
theorem dX11_wise_34 : decode cX11_wise 34 = .ok (.aload_n 0, 1) := by decide +kernel
theorem dX11_wise_35 : decode cX11_wise 35 = .ok (.getfield 63, 3) := by decide +kernel
theorem dX11_wise_38 : decode cX11_wise 38 = .ok (.iload 4, 2) := by decide +kernel
theorem dX11_wise_40 : decode cX11_wise 40 = .ok (.invokevirtual 289, 3) := by decide +kernel
theorem dX11_wise_43 : decode cX11_wise 43 = .ok (.ifCond .eq 32, 3) := by decide +kernel
theorem dX11_wise_46 : decode cX11_wise 46 = .ok (.aload_n 0, 1) := by decide +kernel
theorem dX11_wise_47 : decode cX11_wise 47 = .ok (.getfield 63, 3) := by decide +kernel
theorem dX11_wise_50 : decode cX11_wise 50 = .ok (.invokevirtual 279, 3) := by decide +kernel
theorem dX11_wise_53 : decode cX11_wise 53 = .ok (.aload_n 0, 1) := by decide +kernel
theorem dX11_wise_54 : decode cX11_wise 54 = .ok (.getfield 47, 3) := by decide +kernel
theorem dX11_wise_57 : decode cX11_wise 57 = .ok (.invokevirtual 282, 3) := by decide +kernel
theorem dX11_wise_60 : decode cX11_wise 60 = .ok (.iload_n 3, 1) := by decide +kernel
theorem dX11_wise_61 : decode cX11_wise 61 = .ok (.if_icmp .le 14, 3) := by decide +kernel
theorem dX11_wise_64 : decode cX11_wise 64 = .ok (.aload_n 0, 1) := by decide +kernel
theorem dX11_wise_65 : decode cX11_wise 65 = .ok (.getfield 47, 3) := by decide +kernel
theorem dX11_wise_68 : decode cX11_wise 68 = .ok (.invokevirtual 282, 3) := by decide +kernel
theorem dX11_wise_71 : decode cX11_wise 71 = .ok (.istore_n 3, 1) := by decide +kernel
theorem dX11_wise_72 : decode cX11_wise 72 = .ok (.iload 4, 2) := by decide +kernel
theorem dX11_wise_74 : decode cX11_wise 74 = .ok (.istore_n 2, 1) := by decide +kernel
theorem dX11_wise_75 : decode cX11_wise 75 = .ok (.iinc 4 1, 3) := by decide +kernel
theorem dX11_wise_78 : decode cX11_wise 78 = .ok (.goto (-54), 3) := by decide +kernel
theorem dX11_wise_81 : decode cX11_wise 81 = .ok (.aload_n 0, 1) := by decide +kernel
theorem dX11_wise_82 : decode cX11_wise 82 = .ok (.iload_n 3, 1) := by decide +kernel
theorem dX11_wise_83 : decode cX11_wise 83 = .ok (.putfield 98, 3) := by decide +kernel
theorem dX11_wise_86 : decode cX11_wise 86 = .ok (.iload_n 2, 1) := by decide +kernel
theorem dX11_wise_87 : decode cX11_wise 87 = .ok (.ireturn, 1) := by decide +kernel
theorem dX11_second_0 : decode cX11_second 0 = .ok (.aload_n 0, 1) := by decide +kernel
theorem dX11_second_1 : decode cX11_second 1 = .ok (.getfield 21, 3) := by decide +kernel
theorem dX11_second_4 : decode cX11_second 4 = .ok (.iload_n 1, 1) := by decide +kernel
theorem dX11_second_5 : decode cX11_second 5 = .ok (.invokevirtual 170, 3) := by decide +kernel
theorem dX11_second_8 : decode cX11_second 8 = .ok (.ifCond .ne 5, 3) := by decide +kernel
theorem dX11_second_11 : decode cX11_second 11 = .ok (.iconst (-1), 1) := by decide +kernel
theorem dX11_second_12 : decode cX11_second 12 = .ok (.ireturn, 1) := by decide +kernel
theorem dX11_second_13 : decode cX11_second 13 = .ok (.aload_n 0, 1) := by decide +kernel
theorem dX11_second_14 : decode cX11_second 14 = .ok (.getfield 21, 3) := by decide +kernel
theorem dX11_second_17 : decode cX11_second 17 = .ok (.invokevirtual 233, 3) := by decide +kernel
theorem dX11_second_20 : decode cX11_second 20 = .ok (.istore_n 2, 1) := by decide +kernel
theorem dX11_second_21 : decode cX11_second 21 = .ok (.aload_n 0, 1) := by decide +kernel
theorem dX11_second_22 : decode cX11_second 22 = .ok (.getfield 38, 3) := by decide +kernel
theorem dX11_second_25 : decode cX11_second 25 = .ok (.aload_n 0, 1) := by decide +kernel
theorem dX11_second_26 : decode cX11_second 26 = .ok (.getfield 21, 3) := by decide +kernel
theorem dX11_second_29 : decode cX11_second 29 = .ok (.invokevirtual 259, 3) := by decide +kernel
theorem dX11_second_32 : decode cX11_second 32 = .ok (.aload_n 0, 1) := by decide +kernel
theorem dX11_second_33 : decode cX11_second 33 = .ok (.getfield 54, 3) := by decide +kernel
theorem dX11_second_36 : decode cX11_second 36 = .ok (.iload_n 2, 1) := by decide +kernel
theorem dX11_second_37 : decode cX11_second 37 = .ok (.aload_n 0, 1) := by decide +kernel
theorem dX11_second_38 : decode cX11_second 38 = .ok (.getfield 21, 3) := by decide +kernel
theorem dX11_second_41 : decode cX11_second 41 = .ok (.iload_n 1, 1) := by decide +kernel
theorem dX11_second_42 : decode cX11_second 42 = .ok (.invokevirtual 176, 3) := by decide +kernel
theorem dX11_second_45 : decode cX11_second 45 = .ok (.iconst 0, 1) := by decide +kernel
theorem dX11_second_46 : decode cX11_second 46 = .ok (.invokevirtual 292, 3) := by decide +kernel
theorem dX11_second_49 : decode cX11_second 49 = .ok (.aload_n 0, 1) := by decide +kernel
theorem dX11_second_50 : decode cX11_second 50 = .ok (.getfield 54, 3) := by decide +kernel
theorem dX11_second_53 : decode cX11_second 53 = .ok (.invokevirtual 296, 3) := by decide +kernel
theorem dX11_second_56 : decode cX11_second 56 = .ok (.aload_n 0, 1) := by decide +kernel
theorem dX11_second_57 : decode cX11_second 57 = .ok (.getfield 54, 3) := by decide +kernel
theorem dX11_second_60 : decode cX11_second 60 = .ok (.iload_n 2, 1) := by decide +kernel
theorem dX11_second_61 : decode cX11_second 61 = .ok (.aload_n 0, 1) := by decide +kernel
theorem dX11_second_62 : decode cX11_second 62 = .ok (.getfield 21, 3) := by decide +kernel
theorem dX11_second_65 : decode cX11_second 65 = .ok (.invokevirtual 263, 3) := by decide +kernel
theorem dX11_second_68 : decode cX11_second 68 = .ok (.iconst 0, 1) := by decide +kernel
theorem dX11_second_69 : decode cX11_second 69 = .ok (.invokevirtual 292, 3) := by decide +kernel
theorem dX11_second_72 : decode cX11_second 72 = .ok (.aload_n 0, 1) := by decide +kernel
theorem dX11_second_73 : decode cX11_second 73 = .ok (.getfield 54, 3) := by decide +kernel
theorem dX11_second_76 : decode cX11_second 76 = .ok (.iload_n 2, 1) := by decide +kernel
theorem dX11_second_77 : decode cX11_second 77 = .ok (.aload_n 0, 1) := by decide +kernel
theorem dX11_second_78 : decode cX11_second 78 = .ok (.getfield 21, 3) := by decide +kernel
theorem dX11_second_81 : decode cX11_second 81 = .ok (.invokevirtual 244, 3) := by decide +kernel
theorem dX11_second_84 : decode cX11_second 84 = .ok (.invokevirtual 299, 3) := by decide +kernel
theorem dX11_second_87 : decode cX11_second 87 = .ok (.istore_n 3, 1) := by decide +kernel
theorem dX11_second_88 : decode cX11_second 88 = .ok (.iload_n 3, 1) := by decide +kernel
theorem dX11_second_89 : decode cX11_second 89 = .ok (.bipush (-9), 2) := by decide +kernel
theorem dX11_second_91 : decode cX11_second 91 = .ok (.if_icmp .ne 6, 3) := by decide +kernel
theorem dX11_second_94 : decode cX11_second 94 = .ok (.bipush (-9), 2) := by decide +kernel
theorem dX11_second_96 : decode cX11_second 96 = .ok (.ireturn, 1) := by decide +kernel
theorem dX11_second_97 : decode cX11_second 97 = .ok (.aload_n 0, 1) := by decide +kernel
theorem dX11_second_98 : decode cX11_second 98 = .ok (.getfield 54, 3) := by decide +kernel
theorem dX11_second_101 : decode cX11_second 101 = .ok (.iload_n 2, 1) := by decide +kernel
theorem dX11_second_102 : decode cX11_second 102 = .ok (.aload_n 0, 1) := by decide +kernel
theorem dX11_second_103 : decode cX11_second 103 = .ok (.getfield 21, 3) := by decide +kernel
theorem dX11_second_106 : decode cX11_second 106 = .ok (.invokevirtual 244, 3) := by decide +kernel
theorem dX11_second_109 : decode cX11_second 109 = .ok (.invokevirtual 247, 3) := by decide +kernel
theorem dX11_second_112 : decode cX11_second 112 = .ok (.istore 4, 2) := by decide +kernel
theorem dX11_second_114 : decode cX11_second 114 = .ok (.aload_n 0, 1) := by decide +kernel
theorem dX11_second_115 : decode cX11_second 115 = .ok (.iload 4, 2) := by decide +kernel
theorem dX11_second_117 : decode cX11_second 117 = .ok (.bipush (-9), 2) := by decide +kernel
theorem dX11_second_119 : decode cX11_second 119 = .ok (.if_icmp .ne 7, 3) := by decide +kernel
theorem dX11_second_122 : decode cX11_second 122 = .ok (.iload_n 3, 1) := by decide +kernel
theorem dX11_second_123 : decode cX11_second 123 = .ok (.goto 14, 3) := by decide +kernel
theorem dX11_second_126 : decode cX11_second 126 = .ok (.iload_n 3, 1) := by decide +kernel
theorem dX11_second_127 : decode cX11_second 127 = .ok (.aload_n 0, 1) := by decide +kernel
theorem dX11_second_128 : decode cX11_second 128 = .ok (.getfield 38, 3) := by decide +kernel
theorem dX11_second_131 : decode cX11_second 131 = .ok (.iload 4, 2) := by decide +kernel
theorem dX11_second_133 : decode cX11_second 133 = .ok (.invokevirtual 236, 3) := by decide +kernel
theorem dX11_second_136 : decode cX11_second 136 = .ok (.isub, 1) := by decide +kernel
theorem dX11_second_137 : decode cX11_second 137 = .ok (.putfield 98, 3) := by decide +kernel
theorem dX11_second_140 : decode cX11_second 140 = .ok (.iload_n 3, 1) := by decide +kernel
theorem dX11_second_141 : decode cX11_second 141 = .ok (.ireturn, 1) := by decide +kernel
theorem dX11_mends_0 : decode cX11_mends 0 = .ok (.aload_n 0, 1) := by decide +kernel
theorem dX11_mends_1 : decode cX11_mends 1 = .ok (.getfield 21, 3) := by decide +kernel
theorem dX11_mends_4 : decode cX11_mends 4 = .ok (.iload_n 1, 1) := by decide +kernel
theorem dX11_mends_5 : decode cX11_mends 5 = .ok (.invokevirtual 224, 3) := by decide +kernel
theorem dX11_mends_8 : decode cX11_mends 8 = .ok (.ifCond .eq 14, 3) := by decide +kernel
theorem dX11_mends_11 : decode cX11_mends 11 = .ok (.aload_n 0, 1) := by decide +kernel
theorem dX11_mends_12 : decode cX11_mends 12 = .ok (.getfield 21, 3) := by decide +kernel
theorem dX11_mends_15 : decode cX11_mends 15 = .ok (.iload_n 2, 1) := by decide +kernel
theorem dX11_mends_16 : decode cX11_mends 16 = .ok (.invokevirtual 170, 3) := by decide +kernel
theorem dX11_mends_19 : decode cX11_mends 19 = .ok (.ifCond .ne 5, 3) := by decide +kernel
theorem dX11_mends_22 : decode cX11_mends 22 = .ok (.iconst (-1), 1) := by decide +kernel
theorem dX11_mends_23 : decode cX11_mends 23 = .ok (.ireturn, 1) := by decide +kernel
theorem dX11_mends_24 : decode cX11_mends 24 = .ok (.aload_n 0, 1) := by decide +kernel
theorem dX11_mends_25 : decode cX11_mends 25 = .ok (.getfield 38, 3) := by decide +kernel
theorem dX11_mends_28 : decode cX11_mends 28 = .ok (.aload_n 0, 1) := by decide +kernel
theorem dX11_mends_29 : decode cX11_mends 29 = .ok (.getfield 21, 3) := by decide +kernel
theorem dX11_mends_32 : decode cX11_mends 32 = .ok (.invokevirtual 259, 3) := by decide +kernel
theorem dX11_mends_35 : decode cX11_mends 35 = .ok (.aload_n 0, 1) := by decide +kernel
theorem dX11_mends_36 : decode cX11_mends 36 = .ok (.getfield 54, 3) := by decide +kernel
theorem dX11_mends_39 : decode cX11_mends 39 = .ok (.iload_n 1, 1) := by decide +kernel
theorem dX11_mends_40 : decode cX11_mends 40 = .ok (.aload_n 0, 1) := by decide +kernel
theorem dX11_mends_41 : decode cX11_mends 41 = .ok (.getfield 21, 3) := by decide +kernel
theorem dX11_mends_44 : decode cX11_mends 44 = .ok (.invokevirtual 263, 3) := by decide +kernel
theorem dX11_mends_47 : decode cX11_mends 47 = .ok (.aload_n 0, 1) := by decide +kernel
theorem dX11_mends_48 : decode cX11_mends 48 = .ok (.getfield 21, 3) := by decide +kernel
theorem dX11_mends_51 : decode cX11_mends 51 = .ok (.iload_n 2, 1) := by decide +kernel
theorem dX11_mends_52 : decode cX11_mends 52 = .ok (.invokevirtual 176, 3) := by decide +kernel
theorem dX11_mends_55 : decode cX11_mends 55 = .ok (.invokevirtual 314, 3) := by decide +kernel
theorem dX11_mends_58 : decode cX11_mends 58 = .ok (.ireturn, 1) := by decide +kernel
theorem dX11_odds_0 : decode cX11_odds 0 = .ok (.aload_n 0, 1) := by decide +kernel
theorem dX11_odds_1 : decode cX11_odds 1 = .ok (.getfield 21, 3) := by decide +kernel
theorem dX11_odds_4 : decode cX11_odds 4 = .ok (.invokevirtual 318, 3) := by decide +kernel
theorem dX11_odds_7 : decode cX11_odds 7 = .ok (.istore_n 1, 1) := by decide +kernel
theorem dX11_odds_8 : decode cX11_odds 8 = .ok (.aload_n 0, 1) := by decide +kernel
theorem dX11_odds_9 : decode cX11_odds 9 = .ok (.getfield 21, 3) := by decide +kernel
theorem dX11_odds_12 : decode cX11_odds 12 = .ok (.invokevirtual 244, 3) := by decide +kernel
theorem dX11_odds_15 : decode cX11_odds 15 = .ok (.istore_n 2, 1) := by decide +kernel
theorem dX11_odds_16 : decode cX11_odds 16 = .ok (.aload_n 0, 1) := by decide +kernel
theorem dX11_odds_17 : decode cX11_odds 17 = .ok (.iload_n 1, 1) := by decide +kernel
theorem dX11_odds_18 : decode cX11_odds 18 = .ok (.iload_n 2, 1) := by decide +kernel
theorem dX11_odds_19 : decode cX11_odds 19 = .ok (.ior, 1) := by decide +kernel
theorem dX11_odds_20 : decode cX11_odds 20 = .ok (.invokevirtual 227, 3) := by decide +kernel
theorem dX11_odds_23 : decode cX11_odds 23 = .ok (.lconst 0, 1) := by decide +kernel
theorem dX11_odds_24 : decode cX11_odds 24 = .ok (.lstore_n 3, 1) := by decide +kernel
theorem dX11_odds_25 : decode cX11_odds 25 = .ok (.iconst 0, 1) := by decide +kernel
theorem dX11_odds_26 : decode cX11_odds 26 = .ok (.istore 5, 2) := by decide +kernel
theorem dX11_odds_28 : decode cX11_odds 28 = .ok (.iload 5, 2) := by decide +kernel
theorem dX11_odds_30 : decode cX11_odds 30 = .ok (.iload_n 1, 1) := by decide +kernel
theorem dX11_odds_31 : decode cX11_odds 31 = .ok (.if_icmp .gt 46, 3) := by decide +kernel
theorem dX11_odds_34 : decode cX11_odds 34 = .ok (.iload 5, 2) := by decide +kernel
theorem dX11_odds_36 : decode cX11_odds 36 = .ok (.iload_n 1, 1) := by decide +kernel
theorem dX11_odds_37 : decode cX11_odds 37 = .ok (.iconst (-1), 1) := by decide +kernel
theorem dX11_odds_38 : decode cX11_odds 38 = .ok (.ixor, 1) := by decide +kernel
theorem dX11_odds_39 : decode cX11_odds 39 = .ok (.iand, 1) := by decide +kernel
theorem dX11_odds_40 : decode cX11_odds 40 = .ok (.ifCond .ne 31, 3) := by decide +kernel
theorem dX11_odds_43 : decode cX11_odds 43 = .ok (.aload_n 0, 1) := by decide +kernel
theorem dX11_odds_44 : decode cX11_odds 44 = .ok (.getfield 54, 3) := by decide +kernel
theorem dX11_odds_47 : decode cX11_odds 47 = .ok (.iload 5, 2) := by decide +kernel
theorem dX11_odds_49 : decode cX11_odds 49 = .ok (.iload_n 2, 1) := by decide +kernel
theorem dX11_odds_50 : decode cX11_odds 50 = .ok (.ior, 1) := by decide +kernel
theorem dX11_odds_51 : decode cX11_odds 51 = .ok (.invokevirtual 230, 3) := by decide +kernel
theorem dX11_odds_54 : decode cX11_odds 54 = .ok (.bipush (-9), 2) := by decide +kernel
theorem dX11_odds_56 : decode cX11_odds 56 = .ok (.if_icmp .eq 15, 3) := by decide +kernel
theorem dX11_odds_59 : decode cX11_odds 59 = .ok (.lload_n 3, 1) := by decide +kernel
theorem dX11_odds_60 : decode cX11_odds 60 = .ok (.aload_n 0, 1) := by decide +kernel
theorem dX11_odds_61 : decode cX11_odds 61 = .ok (.getfield 21, 3) := by decide +kernel
theorem dX11_odds_64 : decode cX11_odds 64 = .ok (.iload 5, 2) := by decide +kernel
theorem dX11_odds_66 : decode cX11_odds 66 = .ok (.invokevirtual 321, 3) := by decide +kernel
theorem dX11_odds_69 : decode cX11_odds 69 = .ok (.ladd, 1) := by decide +kernel
theorem dX11_odds_70 : decode cX11_odds 70 = .ok (.lstore_n 3, 1) := by decide +kernel
theorem dX11_odds_71 : decode cX11_odds 71 = .ok (.iinc 5 1, 3) := by decide +kernel
theorem dX11_odds_74 : decode cX11_odds 74 = .ok (.goto (-46), 3) := by decide +kernel
theorem dX11_odds_77 : decode cX11_odds 77 = .ok (.aload_n 0, 1) := by decide +kernel
theorem dX11_odds_78 : decode cX11_odds 78 = .ok (.lload_n 3, 1) := by decide +kernel
theorem dX11_odds_79 : decode cX11_odds 79 = .ok (.aload_n 0, 1) := by decide +kernel
theorem dX11_odds_80 : decode cX11_odds 80 = .ok (.getfield 21, 3) := by decide +kernel
theorem dX11_odds_83 : decode cX11_odds 83 = .ok (.invokevirtual 325, 3) := by decide +kernel
theorem dX11_odds_86 : decode cX11_odds 86 = .ok (.invokevirtual 328, 3) := by decide +kernel
theorem dX11_odds_89 : decode cX11_odds 89 = .ok (.iconst 1, 1) := by decide +kernel
theorem dX11_odds_90 : decode cX11_odds 90 = .ok (.ireturn, 1) := by decide +kernel
theorem dX11_call_0 : decode cX11_call 0 = .ok (.iload_n 1, 1) := by decide +kernel
theorem dX11_call_1 : decode cX11_call 1 = .ok (.iconst 1, 1) := by decide +kernel
theorem dX11_call_2 : decode cX11_call 2 = .ok (.if_icmp .lt 10, 3) := by decide +kernel
theorem dX11_call_5 : decode cX11_call 5 = .ok (.iload_n 1, 1) := by decide +kernel
theorem dX11_call_6 : decode cX11_call 6 = .ok (.ldc_w 332, 3) := by decide +kernel
theorem dX11_call_9 : decode cX11_call 9 = .ok (.if_icmp .le 5, 3) := by decide +kernel
theorem dX11_call_12 : decode cX11_call 12 = .ok (.iconst (-1), 1) := by decide +kernel
theorem dX11_call_13 : decode cX11_call 13 = .ok (.ireturn, 1) := by decide +kernel
theorem dX11_call_14 : decode cX11_call 14 = .ok (.aload_n 0, 1) := by decide +kernel
theorem dX11_call_15 : decode cX11_call 15 = .ok (.getfield 21, 3) := by decide +kernel
theorem dX11_call_18 : decode cX11_call 18 = .ok (.iload_n 1, 1) := by decide +kernel
theorem dX11_call_19 : decode cX11_call 19 = .ok (.invokevirtual 333, 3) := by decide +kernel
theorem dX11_call_22 : decode cX11_call 22 = .ok (.istore_n 2, 1) := by decide +kernel
theorem dX11_call_23 : decode cX11_call 23 = .ok (.aload_n 0, 1) := by decide +kernel
theorem dX11_call_24 : decode cX11_call 24 = .ok (.getfield 21, 3) := by decide +kernel
theorem dX11_call_27 : decode cX11_call 27 = .ok (.invokevirtual 233, 3) := by decide +kernel
theorem dX11_call_30 : decode cX11_call 30 = .ok (.aload_n 0, 1) := by decide +kernel
theorem dX11_call_31 : decode cX11_call 31 = .ok (.getfield 21, 3) := by decide +kernel
theorem dX11_call_34 : decode cX11_call 34 = .ok (.invokevirtual 318, 3) := by decide +kernel
theorem dX11_call_37 : decode cX11_call 37 = .ok (.iconst (-1), 1) := by decide +kernel
theorem dX11_call_38 : decode cX11_call 38 = .ok (.ixor, 1) := by decide +kernel
theorem dX11_call_39 : decode cX11_call 39 = .ok (.iand, 1) := by decide +kernel
theorem dX11_call_40 : decode cX11_call 40 = .ok (.iload_n 2, 1) := by decide +kernel
theorem dX11_call_41 : decode cX11_call 41 = .ok (.ior, 1) := by decide +kernel
theorem dX11_call_42 : decode cX11_call 42 = .ok (.istore_n 3, 1) := by decide +kernel
theorem dX11_call_43 : decode cX11_call 43 = .ok (.aload_n 0, 1) := by decide +kernel
theorem dX11_call_44 : decode cX11_call 44 = .ok (.iload_n 3, 1) := by decide +kernel
theorem dX11_call_45 : decode cX11_call 45 = .ok (.invokevirtual 227, 3) := by decide +kernel
theorem dX11_call_48 : decode cX11_call 48 = .ok (.aload_n 0, 1) := by decide +kernel
theorem dX11_call_49 : decode cX11_call 49 = .ok (.getfield 54, 3) := by decide +kernel
theorem dX11_call_52 : decode cX11_call 52 = .ok (.iload_n 3, 1) := by decide +kernel
theorem dX11_call_53 : decode cX11_call 53 = .ok (.aload_n 0, 1) := by decide +kernel
theorem dX11_call_54 : decode cX11_call 54 = .ok (.getfield 21, 3) := by decide +kernel
theorem dX11_call_57 : decode cX11_call 57 = .ok (.invokevirtual 244, 3) := by decide +kernel
theorem dX11_call_60 : decode cX11_call 60 = .ok (.invokevirtual 247, 3) := by decide +kernel
theorem dX11_call_63 : decode cX11_call 63 = .ok (.istore 4, 2) := by decide +kernel
theorem dX11_call_65 : decode cX11_call 65 = .ok (.aload_n 0, 1) := by decide +kernel
theorem dX11_call_66 : decode cX11_call 66 = .ok (.iload 4, 2) := by decide +kernel
theorem dX11_call_68 : decode cX11_call 68 = .ok (.bipush (-9), 2) := by decide +kernel
theorem dX11_call_70 : decode cX11_call 70 = .ok (.if_icmp .ne 8, 3) := by decide +kernel
theorem dX11_call_73 : decode cX11_call 73 = .ok (.bipush (-9), 2) := by decide +kernel
theorem dX11_call_75 : decode cX11_call 75 = .ok (.goto 12, 3) := by decide +kernel
theorem dX11_call_78 : decode cX11_call 78 = .ok (.aload_n 0, 1) := by decide +kernel
theorem dX11_call_79 : decode cX11_call 79 = .ok (.getfield 38, 3) := by decide +kernel
theorem dX11_call_82 : decode cX11_call 82 = .ok (.iload 4, 2) := by decide +kernel
theorem dX11_call_84 : decode cX11_call 84 = .ok (.invokevirtual 236, 3) := by decide +kernel
theorem dX11_call_87 : decode cX11_call 87 = .ok (.putfield 98, 3) := by decide +kernel
theorem dX11_call_90 : decode cX11_call 90 = .ok (.iload_n 2, 1) := by decide +kernel
theorem dX11_call_91 : decode cX11_call 91 = .ok (.ireturn, 1) := by decide +kernel
theorem dX11_deal_0 : decode cX11_deal 0 = .ok (.iload_n 1, 1) := by decide +kernel
theorem dX11_deal_1 : decode cX11_deal 1 = .ok (.ifCond .lt 32, 3) := by decide +kernel
theorem dX11_deal_4 : decode cX11_deal 4 = .ok (.iload_n 1, 1) := by decide +kernel
theorem dX11_deal_5 : decode cX11_deal 5 = .ok (.iconst 4, 1) := by decide +kernel
theorem dX11_deal_6 : decode cX11_deal 6 = .ok (.if_icmp .gt 27, 3) := by decide +kernel
theorem dX11_deal_9 : decode cX11_deal 9 = .ok (.aload_n 0, 1) := by decide +kernel
theorem dX11_deal_10 : decode cX11_deal 10 = .ok (.getfield 21, 3) := by decide +kernel
theorem dX11_deal_13 : decode cX11_deal 13 = .ok (.iload_n 2, 1) := by decide +kernel
theorem dX11_deal_14 : decode cX11_deal 14 = .ok (.invokevirtual 170, 3) := by decide +kernel
theorem dX11_deal_17 : decode cX11_deal 17 = .ok (.ifCond .eq 16, 3) := by decide +kernel
theorem dX11_deal_20 : decode cX11_deal 20 = .ok (.iload 4, 2) := by decide +kernel
theorem dX11_deal_22 : decode cX11_deal 22 = .ok (.iconst 1, 1) := by decide +kernel
theorem dX11_deal_23 : decode cX11_deal 23 = .ok (.if_icmp .lt 10, 3) := by decide +kernel
theorem dX11_deal_26 : decode cX11_deal 26 = .ok (.iload 4, 2) := by decide +kernel
theorem dX11_deal_28 : decode cX11_deal 28 = .ok (.bipush 99, 2) := by decide +kernel
theorem dX11_deal_30 : decode cX11_deal 30 = .ok (.if_icmp .le 5, 3) := by decide +kernel
theorem dX11_deal_33 : decode cX11_deal 33 = .ok (.iconst (-1), 1) := by decide +kernel
theorem dX11_deal_34 : decode cX11_deal 34 = .ok (.ireturn, 1) := by decide +kernel
theorem dX11_deal_35 : decode cX11_deal 35 = .ok (.iload_n 1, 1) := by decide +kernel
theorem dX11_deal_36 : decode cX11_deal 36 = .ok (.ifCond .ne 7, 3) := by decide +kernel
theorem dX11_deal_39 : decode cX11_deal 39 = .ok (.iload_n 2, 1) := by decide +kernel
theorem dX11_deal_40 : decode cX11_deal 40 = .ok (.goto 4, 3) := by decide +kernel
theorem dX11_deal_43 : decode cX11_deal 43 = .ok (.iload_n 3, 1) := by decide +kernel
theorem dX11_deal_44 : decode cX11_deal 44 = .ok (.istore 5, 2) := by decide +kernel
theorem dX11_deal_46 : decode cX11_deal 46 = .ok (.iload_n 1, 1) := by decide +kernel
theorem dX11_deal_47 : decode cX11_deal 47 = .ok (.ifCond .eq 23, 3) := by decide +kernel
theorem dX11_deal_50 : decode cX11_deal 50 = .ok (.aload_n 0, 1) := by decide +kernel
theorem dX11_deal_51 : decode cX11_deal 51 = .ok (.getfield 21, 3) := by decide +kernel
theorem dX11_deal_54 : decode cX11_deal 54 = .ok (.iload 5, 2) := by decide +kernel
theorem dX11_deal_56 : decode cX11_deal 56 = .ok (.invokevirtual 170, 3) := by decide +kernel
theorem dX11_deal_59 : decode cX11_deal 59 = .ok (.ifCond .eq 9, 3) := by decide +kernel
theorem dX11_deal_62 : decode cX11_deal 62 = .ok (.iload 5, 2) := by decide +kernel
theorem dX11_deal_64 : decode cX11_deal 64 = .ok (.iload_n 2, 1) := by decide +kernel
theorem dX11_deal_65 : decode cX11_deal 65 = .ok (.if_icmp .ne 5, 3) := by decide +kernel
theorem dX11_deal_68 : decode cX11_deal 68 = .ok (.iconst (-1), 1) := by decide +kernel
theorem dX11_deal_69 : decode cX11_deal 69 = .ok (.ireturn, 1) := by decide +kernel
theorem dX11_deal_70 : decode cX11_deal 70 = .ok (.aload_n 0, 1) := by decide +kernel
theorem dX11_deal_71 : decode cX11_deal 71 = .ok (.getfield 70, 3) := by decide +kernel
theorem dX11_deal_74 : decode cX11_deal 74 = .ok (.iload_n 1, 1) := by decide +kernel
theorem dX11_deal_75 : decode cX11_deal 75 = .ok (.iload_n 2, 1) := by decide +kernel
theorem dX11_deal_76 : decode cX11_deal 76 = .ok (.iload 5, 2) := by decide +kernel
theorem dX11_deal_78 : decode cX11_deal 78 = .ok (.iload 4, 2) := by decide +kernel
theorem dX11_deal_80 : decode cX11_deal 80 = .ok (.invokevirtual 343, 3) := by decide +kernel
theorem dX11_deal_83 : decode cX11_deal 83 = .ok (.ifCond .ne 6, 3) := by decide +kernel
theorem dX11_deal_86 : decode cX11_deal 86 = .ok (.bipush (-4), 2) := by decide +kernel
theorem dX11_deal_88 : decode cX11_deal 88 = .ok (.ireturn, 1) := by decide +kernel
theorem dX11_deal_89 : decode cX11_deal 89 = .ok (.aload_n 0, 1) := by decide +kernel
theorem dX11_deal_90 : decode cX11_deal 90 = .ok (.getfield 70, 3) := by decide +kernel
theorem dX11_deal_93 : decode cX11_deal 93 = .ok (.invokevirtual 347, 3) := by decide +kernel
theorem dX11_deal_96 : decode cX11_deal 96 = .ok (.ifCond .eq 6, 3) := by decide +kernel
theorem dX11_deal_99 : decode cX11_deal 99 = .ok (.bipush (-2), 2) := by decide +kernel
theorem dX11_deal_101 : decode cX11_deal 101 = .ok (.ireturn, 1) := by decide +kernel
theorem dX11_deal_102 : decode cX11_deal 102 = .ok (.aload_n 0, 1) := by decide +kernel
theorem dX11_deal_103 : decode cX11_deal 103 = .ok (.getfield 70, 3) := by decide +kernel
theorem dX11_deal_106 : decode cX11_deal 106 = .ok (.iload_n 1, 1) := by decide +kernel
theorem dX11_deal_107 : decode cX11_deal 107 = .ok (.iload_n 2, 1) := by decide +kernel
theorem dX11_deal_108 : decode cX11_deal 108 = .ok (.iload 5, 2) := by decide +kernel
theorem dX11_deal_110 : decode cX11_deal 110 = .ok (.iload 4, 2) := by decide +kernel
theorem dX11_deal_112 : decode cX11_deal 112 = .ok (.invokevirtual 350, 3) := by decide +kernel
theorem dX11_deal_115 : decode cX11_deal 115 = .ok (.ireturn, 1) := by decide +kernel
theorem dX11_undo_0 : decode cX11_undo 0 = .ok (.iload_n 1, 1) := by decide +kernel
theorem dX11_undo_1 : decode cX11_undo 1 = .ok (.ifCond .lt 14, 3) := by decide +kernel
theorem dX11_undo_4 : decode cX11_undo 4 = .ok (.iload_n 1, 1) := by decide +kernel
theorem dX11_undo_5 : decode cX11_undo 5 = .ok (.aload_n 0, 1) := by decide +kernel
theorem dX11_undo_6 : decode cX11_undo 6 = .ok (.getfield 70, 3) := by decide +kernel
theorem dX11_undo_9 : decode cX11_undo 9 = .ok (.getfield 354, 3) := by decide +kernel
theorem dX11_undo_12 : decode cX11_undo 12 = .ok (.if_icmp .le 5, 3) := by decide +kernel
theorem dX11_undo_15 : decode cX11_undo 15 = .ok (.iconst (-1), 1) := by decide +kernel
theorem dX11_undo_16 : decode cX11_undo 16 = .ok (.ireturn, 1) := by decide +kernel
theorem dX11_undo_17 : decode cX11_undo 17 = .ok (.aload_n 0, 1) := by decide +kernel
theorem dX11_undo_18 : decode cX11_undo 18 = .ok (.getfield 70, 3) := by decide +kernel
theorem dX11_undo_21 : decode cX11_undo 21 = .ok (.iload_n 1, 1) := by decide +kernel
theorem dX11_undo_22 : decode cX11_undo 22 = .ok (.invokevirtual 357, 3) := by decide +kernel
theorem dX11_undo_25 : decode cX11_undo 25 = .ok (.ireturn, 1) := by decide +kernel
theorem dX11_owes_0 : decode cX11_owes 0 = .ok (.aload_n 0, 1) := by decide +kernel
theorem dX11_owes_1 : decode cX11_owes 1 = .ok (.getfield 21, 3) := by decide +kernel
theorem dX11_owes_4 : decode cX11_owes 4 = .ok (.iload_n 1, 1) := by decide +kernel
theorem dX11_owes_5 : decode cX11_owes 5 = .ok (.invokevirtual 170, 3) := by decide +kernel
theorem dX11_owes_8 : decode cX11_owes 8 = .ok (.ifCond .eq 19, 3) := by decide +kernel
theorem dX11_owes_11 : decode cX11_owes 11 = .ok (.aload_n 0, 1) := by decide +kernel
theorem dX11_owes_12 : decode cX11_owes 12 = .ok (.getfield 21, 3) := by decide +kernel
theorem dX11_owes_15 : decode cX11_owes 15 = .ok (.iload_n 2, 1) := by decide +kernel
theorem dX11_owes_16 : decode cX11_owes 16 = .ok (.invokevirtual 170, 3) := by decide +kernel
theorem dX11_owes_19 : decode cX11_owes 19 = .ok (.ifCond .eq 8, 3) := by decide +kernel
theorem dX11_owes_22 : decode cX11_owes 22 = .ok (.iload_n 1, 1) := by decide +kernel
theorem dX11_owes_23 : decode cX11_owes 23 = .ok (.iload_n 2, 1) := by decide +kernel
theorem dX11_owes_24 : decode cX11_owes 24 = .ok (.if_icmp .ne 5, 3) := by decide +kernel
theorem dX11_owes_27 : decode cX11_owes 27 = .ok (.iconst (-1), 1) := by decide +kernel
theorem dX11_owes_28 : decode cX11_owes 28 = .ok (.ireturn, 1) := by decide +kernel
theorem dX11_owes_29 : decode cX11_owes 29 = .ok (.aload_n 0, 1) := by decide +kernel
theorem dX11_owes_30 : decode cX11_owes 30 = .ok (.getfield 70, 3) := by decide +kernel
theorem dX11_owes_33 : decode cX11_owes 33 = .ok (.iload_n 1, 1) := by decide +kernel
theorem dX11_owes_34 : decode cX11_owes 34 = .ok (.iload_n 2, 1) := by decide +kernel
theorem dX11_owes_35 : decode cX11_owes 35 = .ok (.invokevirtual 360, 3) := by decide +kernel
theorem dX11_owes_38 : decode cX11_owes 38 = .ok (.ireturn, 1) := by decide +kernel
theorem dX11_rich_0 : decode cX11_rich 0 = .ok (.aload_n 0, 1) := by decide +kernel
theorem dX11_rich_1 : decode cX11_rich 1 = .ok (.getfield 21, 3) := by decide +kernel
theorem dX11_rich_4 : decode cX11_rich 4 = .ok (.getfield 167, 3) := by decide +kernel
theorem dX11_rich_7 : decode cX11_rich 7 = .ok (.ifCond .ne 6, 3) := by decide +kernel
theorem dX11_rich_10 : decode cX11_rich 10 = .ok (.bipush (-4), 2) := by decide +kernel
theorem dX11_rich_12 : decode cX11_rich 12 = .ok (.ireturn, 1) := by decide +kernel
theorem dX11_rich_13 : decode cX11_rich 13 = .ok (.iconst 0, 1) := by decide +kernel
theorem dX11_rich_14 : decode cX11_rich 14 = .ok (.istore_n 1, 1) := by decide +kernel
theorem dX11_rich_15 : decode cX11_rich 15 = .ok (.iconst 1, 1) := by decide +kernel
theorem dX11_rich_16 : decode cX11_rich 16 = .ok (.istore_n 2, 1) := by decide +kernel
theorem dX11_rich_17 : decode cX11_rich 17 = .ok (.iload_n 2, 1) := by decide +kernel
theorem dX11_rich_18 : decode cX11_rich 18 = .ok (.aload_n 0, 1) := by decide +kernel
theorem dX11_rich_19 : decode cX11_rich 19 = .ok (.getfield 21, 3) := by decide +kernel
theorem dX11_rich_22 : decode cX11_rich 22 = .ok (.getfield 167, 3) := by decide +kernel
theorem dX11_rich_25 : decode cX11_rich 25 = .ok (.if_icmp .ge 30, 3) := by decide +kernel
theorem dX11_rich_28 : decode cX11_rich 28 = .ok (.aload_n 0, 1) := by decide +kernel
theorem dX11_rich_29 : decode cX11_rich 29 = .ok (.getfield 70, 3) := by decide +kernel
theorem dX11_rich_32 : decode cX11_rich 32 = .ok (.iload_n 2, 1) := by decide +kernel
theorem dX11_rich_33 : decode cX11_rich 33 = .ok (.invokevirtual 363, 3) := by decide +kernel
theorem dX11_rich_36 : decode cX11_rich 36 = .ok (.aload_n 0, 1) := by decide +kernel
theorem dX11_rich_37 : decode cX11_rich 37 = .ok (.getfield 70, 3) := by decide +kernel
theorem dX11_rich_40 : decode cX11_rich 40 = .ok (.iload_n 1, 1) := by decide +kernel
theorem dX11_rich_41 : decode cX11_rich 41 = .ok (.invokevirtual 363, 3) := by decide +kernel
theorem dX11_rich_44 : decode cX11_rich 44 = .ok (.if_icmp .le 5, 3) := by decide +kernel
theorem dX11_rich_47 : decode cX11_rich 47 = .ok (.iload_n 2, 1) := by decide +kernel
theorem dX11_rich_48 : decode cX11_rich 48 = .ok (.istore_n 1, 1) := by decide +kernel
theorem dX11_rich_49 : decode cX11_rich 49 = .ok (.iinc 2 1, 3) := by decide +kernel
theorem dX11_rich_52 : decode cX11_rich 52 = .ok (.goto (-35), 3) := by decide +kernel
theorem dX11_rich_55 : decode cX11_rich 55 = .ok (.aload_n 0, 1) := by decide +kernel
theorem dX11_rich_56 : decode cX11_rich 56 = .ok (.aload_n 0, 1) := by decide +kernel
theorem dX11_rich_57 : decode cX11_rich 57 = .ok (.getfield 70, 3) := by decide +kernel
theorem dX11_rich_60 : decode cX11_rich 60 = .ok (.iload_n 1, 1) := by decide +kernel
theorem dX11_rich_61 : decode cX11_rich 61 = .ok (.invokevirtual 363, 3) := by decide +kernel
theorem dX11_rich_64 : decode cX11_rich 64 = .ok (.putfield 98, 3) := by decide +kernel
theorem dX11_rich_67 : decode cX11_rich 67 = .ok (.iload_n 1, 1) := by decide +kernel
theorem dX11_rich_68 : decode cX11_rich 68 = .ok (.ireturn, 1) := by decide +kernel
theorem dX11_pocket_0 : decode cX11_pocket 0 = .ok (.aload_n 0, 1) := by decide +kernel
theorem dX11_pocket_1 : decode cX11_pocket 1 = .ok (.getfield 21, 3) := by decide +kernel
theorem dX11_pocket_4 : decode cX11_pocket 4 = .ok (.iload_n 1, 1) := by decide +kernel
theorem dX11_pocket_5 : decode cX11_pocket 5 = .ok (.invokevirtual 170, 3) := by decide +kernel
theorem dX11_pocket_8 : decode cX11_pocket 8 = .ok (.ifCond .eq 13, 3) := by decide +kernel
theorem dX11_pocket_11 : decode cX11_pocket 11 = .ok (.iload_n 2, 1) := by decide +kernel
theorem dX11_pocket_12 : decode cX11_pocket 12 = .ok (.ifCond .lt 9, 3) := by decide +kernel
theorem dX11_pocket_15 : decode cX11_pocket 15 = .ok (.iload_n 2, 1) := by decide +kernel
theorem dX11_pocket_16 : decode cX11_pocket 16 = .ok (.bipush 99, 2) := by decide +kernel
theorem dX11_pocket_18 : decode cX11_pocket 18 = .ok (.if_icmp .le 5, 3) := by decide +kernel
theorem dX11_pocket_21 : decode cX11_pocket 21 = .ok (.iconst (-1), 1) := by decide +kernel
theorem dX11_pocket_22 : decode cX11_pocket 22 = .ok (.ireturn, 1) := by decide +kernel
theorem dX11_pocket_23 : decode cX11_pocket 23 = .ok (.aload_n 0, 1) := by decide +kernel
theorem dX11_pocket_24 : decode cX11_pocket 24 = .ok (.getfield 79, 3) := by decide +kernel
theorem dX11_pocket_27 : decode cX11_pocket 27 = .ok (.invokevirtual 366, 3) := by decide +kernel
theorem dX11_pocket_30 : decode cX11_pocket 30 = .ok (.ifCond .eq 6, 3) := by decide +kernel
theorem dX11_pocket_33 : decode cX11_pocket 33 = .ok (.bipush (-2), 2) := by decide +kernel
theorem dX11_pocket_35 : decode cX11_pocket 35 = .ok (.ireturn, 1) := by decide +kernel
theorem dX11_pocket_36 : decode cX11_pocket 36 = .ok (.aload_n 0, 1) := by decide +kernel
theorem dX11_pocket_37 : decode cX11_pocket 37 = .ok (.getfield 79, 3) := by decide +kernel
theorem dX11_pocket_40 : decode cX11_pocket 40 = .ok (.iload_n 1, 1) := by decide +kernel
theorem dX11_pocket_41 : decode cX11_pocket 41 = .ok (.iload_n 2, 1) := by decide +kernel
theorem dX11_pocket_42 : decode cX11_pocket 42 = .ok (.invokevirtual 367, 3) := by decide +kernel
theorem dX11_pocket_45 : decode cX11_pocket 45 = .ok (.aload_n 0, 1) := by decide +kernel
theorem dX11_pocket_46 : decode cX11_pocket 46 = .ok (.getfield 79, 3) := by decide +kernel
theorem dX11_pocket_49 : decode cX11_pocket 49 = .ok (.getfield 370, 3) := by decide +kernel
theorem dX11_pocket_52 : decode cX11_pocket 52 = .ok (.ireturn, 1) := by decide +kernel
theorem dX11_find_0 : decode cX11_find 0 = .ok (.aload_n 0, 1) := by decide +kernel
theorem dX11_find_1 : decode cX11_find 1 = .ok (.getfield 21, 3) := by decide +kernel
theorem dX11_find_4 : decode cX11_find 4 = .ok (.iload_n 1, 1) := by decide +kernel
theorem dX11_find_5 : decode cX11_find 5 = .ok (.invokevirtual 170, 3) := by decide +kernel
theorem dX11_find_8 : decode cX11_find 8 = .ok (.ifCond .ne 5, 3) := by decide +kernel
theorem dX11_find_11 : decode cX11_find 11 = .ok (.iconst (-1), 1) := by decide +kernel
theorem dX11_find_12 : decode cX11_find 12 = .ok (.ireturn, 1) := by decide +kernel
theorem dX11_find_13 : decode cX11_find 13 = .ok (.aload_n 0, 1) := by decide +kernel
theorem dX11_find_14 : decode cX11_find 14 = .ok (.getfield 79, 3) := by decide +kernel
theorem dX11_find_17 : decode cX11_find 17 = .ok (.iload_n 1, 1) := by decide +kernel
theorem dX11_find_18 : decode cX11_find 18 = .ok (.invokevirtual 371, 3) := by decide +kernel
theorem dX11_find_21 : decode cX11_find 21 = .ok (.istore_n 2, 1) := by decide +kernel
theorem dX11_find_22 : decode cX11_find 22 = .ok (.iload_n 2, 1) := by decide +kernel
theorem dX11_find_23 : decode cX11_find 23 = .ok (.bipush (-9), 2) := by decide +kernel
theorem dX11_find_25 : decode cX11_find 25 = .ok (.if_icmp .ne 9, 3) := by decide +kernel
theorem dX11_find_28 : decode cX11_find 28 = .ok (.aload_n 0, 1) := by decide +kernel
theorem dX11_find_29 : decode cX11_find 29 = .ok (.iconst 1, 1) := by decide +kernel
theorem dX11_find_30 : decode cX11_find 30 = .ok (.invokevirtual 113, 3) := by decide +kernel
theorem dX11_find_33 : decode cX11_find 33 = .ok (.ireturn, 1) := by decide +kernel
theorem dX11_find_34 : decode cX11_find 34 = .ok (.aload_n 0, 1) := by decide +kernel
theorem dX11_find_35 : decode cX11_find 35 = .ok (.aload_n 0, 1) := by decide +kernel
theorem dX11_find_36 : decode cX11_find 36 = .ok (.getfield 79, 3) := by decide +kernel
theorem dX11_find_39 : decode cX11_find 39 = .ok (.iload_n 2, 1) := by decide +kernel
theorem dX11_find_40 : decode cX11_find 40 = .ok (.invokevirtual 374, 3) := by decide +kernel
theorem dX11_find_43 : decode cX11_find 43 = .ok (.putfield 98, 3) := by decide +kernel
theorem dX11_find_46 : decode cX11_find 46 = .ok (.aload_n 0, 1) := by decide +kernel
theorem dX11_find_47 : decode cX11_find 47 = .ok (.getfield 79, 3) := by decide +kernel
theorem dX11_find_50 : decode cX11_find 50 = .ok (.iload_n 2, 1) := by decide +kernel
theorem dX11_find_51 : decode cX11_find 51 = .ok (.invokevirtual 377, 3) := by decide +kernel
theorem dX11_find_54 : decode cX11_find 54 = .ok (.aload_n 0, 1) := by decide +kernel
theorem dX11_find_55 : decode cX11_find 55 = .ok (.getfield 79, 3) := by decide +kernel
theorem dX11_find_58 : decode cX11_find 58 = .ok (.getfield 370, 3) := by decide +kernel
theorem dX11_find_61 : decode cX11_find 61 = .ok (.iload_n 2, 1) := by decide +kernel
theorem dX11_find_62 : decode cX11_find 62 = .ok (.isub, 1) := by decide +kernel
theorem dX11_find_63 : decode cX11_find 63 = .ok (.ireturn, 1) := by decide +kernel
theorem dX11_track_0 : decode cX11_track 0 = .ok (.aload_n 0, 1) := by decide +kernel
theorem dX11_track_1 : decode cX11_track 1 = .ok (.getfield 21, 3) := by decide +kernel
theorem dX11_track_4 : decode cX11_track 4 = .ok (.iload_n 1, 1) := by decide +kernel
theorem dX11_track_5 : decode cX11_track 5 = .ok (.invokevirtual 170, 3) := by decide +kernel
theorem dX11_track_8 : decode cX11_track 8 = .ok (.ifCond .eq 10, 3) := by decide +kernel
theorem dX11_track_11 : decode cX11_track 11 = .ok (.iload_n 2, 1) := by decide +kernel
theorem dX11_track_12 : decode cX11_track 12 = .ok (.invokestatic 380, 3) := by decide +kernel
theorem dX11_track_15 : decode cX11_track 15 = .ok (.ifCond .ne 5, 3) := by decide +kernel
theorem dX11_track_18 : decode cX11_track 18 = .ok (.iconst (-1), 1) := by decide +kernel
theorem dX11_track_19 : decode cX11_track 19 = .ok (.ireturn, 1) := by decide +kernel
theorem dX11_track_20 : decode cX11_track 20 = .ok (.aload_n 0, 1) := by decide +kernel
theorem dX11_track_21 : decode cX11_track 21 = .ok (.getfield 83, 3) := by decide +kernel
theorem dX11_track_24 : decode cX11_track 24 = .ok (.invokevirtual 366, 3) := by decide +kernel
theorem dX11_track_27 : decode cX11_track 27 = .ok (.ifCond .eq 6, 3) := by decide +kernel
theorem dX11_track_30 : decode cX11_track 30 = .ok (.bipush (-2), 2) := by decide +kernel
theorem dX11_track_32 : decode cX11_track 32 = .ok (.ireturn, 1) := by decide +kernel
theorem dX11_track_33 : decode cX11_track 33 = .ok (.aload_n 0, 1) := by decide +kernel
theorem dX11_track_34 : decode cX11_track 34 = .ok (.getfield 83, 3) := by decide +kernel
theorem dX11_track_37 : decode cX11_track 37 = .ok (.iload_n 1, 1) := by decide +kernel
theorem dX11_track_38 : decode cX11_track 38 = .ok (.iload_n 2, 1) := by decide +kernel
theorem dX11_track_39 : decode cX11_track 39 = .ok (.invokevirtual 367, 3) := by decide +kernel
theorem dX11_track_42 : decode cX11_track 42 = .ok (.aload_n 0, 1) := by decide +kernel
theorem dX11_track_43 : decode cX11_track 43 = .ok (.getfield 83, 3) := by decide +kernel
theorem dX11_track_46 : decode cX11_track 46 = .ok (.getfield 370, 3) := by decide +kernel
theorem dX11_track_49 : decode cX11_track 49 = .ok (.iconst 1, 1) := by decide +kernel
theorem dX11_track_50 : decode cX11_track 50 = .ok (.isub, 1) := by decide +kernel
theorem dX11_track_51 : decode cX11_track 51 = .ok (.ireturn, 1) := by decide +kernel
theorem dX11_forget_0 : decode cX11_forget 0 = .ok (.iload_n 1, 1) := by decide +kernel
theorem dX11_forget_1 : decode cX11_forget 1 = .ok (.ifCond .lt 14, 3) := by decide +kernel
theorem dX11_forget_4 : decode cX11_forget 4 = .ok (.iload_n 1, 1) := by decide +kernel
theorem dX11_forget_5 : decode cX11_forget 5 = .ok (.aload_n 0, 1) := by decide +kernel
theorem dX11_forget_6 : decode cX11_forget 6 = .ok (.getfield 83, 3) := by decide +kernel
theorem dX11_forget_9 : decode cX11_forget 9 = .ok (.getfield 370, 3) := by decide +kernel
theorem dX11_forget_12 : decode cX11_forget 12 = .ok (.if_icmp .le 5, 3) := by decide +kernel
theorem dX11_forget_15 : decode cX11_forget 15 = .ok (.iconst (-1), 1) := by decide +kernel
theorem dX11_forget_16 : decode cX11_forget 16 = .ok (.ireturn, 1) := by decide +kernel
theorem dX11_forget_17 : decode cX11_forget 17 = .ok (.aload_n 0, 1) := by decide +kernel
theorem dX11_forget_18 : decode cX11_forget 18 = .ok (.getfield 83, 3) := by decide +kernel
theorem dX11_forget_21 : decode cX11_forget 21 = .ok (.getfield 370, 3) := by decide +kernel
theorem dX11_forget_24 : decode cX11_forget 24 = .ok (.iload_n 1, 1) := by decide +kernel
theorem dX11_forget_25 : decode cX11_forget 25 = .ok (.isub, 1) := by decide +kernel
theorem dX11_forget_26 : decode cX11_forget 26 = .ok (.istore_n 2, 1) := by decide +kernel
theorem dX11_forget_27 : decode cX11_forget 27 = .ok (.aload_n 0, 1) := by decide +kernel
theorem dX11_forget_28 : decode cX11_forget 28 = .ok (.getfield 83, 3) := by decide +kernel
theorem dX11_forget_31 : decode cX11_forget 31 = .ok (.iload_n 1, 1) := by decide +kernel
theorem dX11_forget_32 : decode cX11_forget 32 = .ok (.invokevirtual 164, 3) := by decide +kernel
theorem dX11_forget_35 : decode cX11_forget 35 = .ok (.iload_n 2, 1) := by decide +kernel
theorem dX11_forget_36 : decode cX11_forget 36 = .ok (.ireturn, 1) := by decide +kernel
theorem dX11_could_0 : decode cX11_could 0 = .ok (.iload_n 1, 1) := by decide +kernel
theorem dX11_could_1 : decode cX11_could 1 = .ok (.invokestatic 380, 3) := by decide +kernel
theorem dX11_could_4 : decode cX11_could 4 = .ok (.ifCond .ne 5, 3) := by decide +kernel
theorem dX11_could_7 : decode cX11_could 7 = .ok (.iconst (-1), 1) := by decide +kernel
theorem dX11_could_8 : decode cX11_could 8 = .ok (.ireturn, 1) := by decide +kernel
theorem dX11_could_9 : decode cX11_could 9 = .ok (.iconst 0, 1) := by decide +kernel
theorem dX11_could_10 : decode cX11_could 10 = .ok (.istore_n 2, 1) := by decide +kernel
theorem dX11_could_11 : decode cX11_could 11 = .ok (.iconst 0, 1) := by decide +kernel
theorem dX11_could_12 : decode cX11_could 12 = .ok (.istore_n 3, 1) := by decide +kernel
theorem dX11_could_13 : decode cX11_could 13 = .ok (.iload_n 3, 1) := by decide +kernel
theorem dX11_could_14 : decode cX11_could 14 = .ok (.aload_n 0, 1) := by decide +kernel
theorem dX11_could_15 : decode cX11_could 15 = .ok (.getfield 21, 3) := by decide +kernel
theorem dX11_could_18 : decode cX11_could 18 = .ok (.getfield 167, 3) := by decide +kernel
theorem dX11_could_21 : decode cX11_could 21 = .ok (.if_icmp .ge 32, 3) := by decide +kernel
theorem dX11_could_24 : decode cX11_could 24 = .ok (.aload_n 0, 1) := by decide +kernel
theorem dX11_could_25 : decode cX11_could 25 = .ok (.iload_n 3, 1) := by decide +kernel
theorem dX11_could_26 : decode cX11_could 26 = .ok (.iload_n 1, 1) := by decide +kernel
theorem dX11_could_27 : decode cX11_could 27 = .ok (.aload_n 0, 1) := by decide +kernel
theorem dX11_could_28 : decode cX11_could 28 = .ok (.getfield 83, 3) := by decide +kernel
theorem dX11_could_31 : decode cX11_could 31 = .ok (.getfield 370, 3) := by decide +kernel
theorem dX11_could_34 : decode cX11_could 34 = .ok (.invokevirtual 383, 3) := by decide +kernel
theorem dX11_could_37 : decode cX11_could 37 = .ok (.ifCond .eq 10, 3) := by decide +kernel
theorem dX11_could_40 : decode cX11_could 40 = .ok (.iload_n 2, 1) := by decide +kernel
theorem dX11_could_41 : decode cX11_could 41 = .ok (.iload_n 3, 1) := by decide +kernel
theorem dX11_could_42 : decode cX11_could 42 = .ok (.invokestatic 269, 3) := by decide +kernel
theorem dX11_could_45 : decode cX11_could 45 = .ok (.ior, 1) := by decide +kernel
theorem dX11_could_46 : decode cX11_could 46 = .ok (.istore_n 2, 1) := by decide +kernel
theorem dX11_could_47 : decode cX11_could 47 = .ok (.iinc 3 1, 3) := by decide +kernel
theorem dX11_could_50 : decode cX11_could 50 = .ok (.goto (-37), 3) := by decide +kernel
theorem dX11_could_53 : decode cX11_could 53 = .ok (.iload_n 2, 1) := by decide +kernel
theorem dX11_could_54 : decode cX11_could 54 = .ok (.ireturn, 1) := by decide +kernel
theorem dX11_liar_0 : decode cX11_liar 0 = .ok (.iconst 0, 1) := by decide +kernel
theorem dX11_liar_1 : decode cX11_liar 1 = .ok (.istore_n 1, 1) := by decide +kernel
theorem dX11_liar_2 : decode cX11_liar 2 = .ok (.iload_n 1, 1) := by decide +kernel
theorem dX11_liar_3 : decode cX11_liar 3 = .ok (.aload_n 0, 1) := by decide +kernel
theorem dX11_liar_4 : decode cX11_liar 4 = .ok (.getfield 83, 3) := by decide +kernel
theorem dX11_liar_7 : decode cX11_liar 7 = .ok (.getfield 370, 3) := by decide +kernel
theorem dX11_liar_10 : decode cX11_liar 10 = .ok (.if_icmp .ge 35, 3) := by decide +kernel
theorem dX11_liar_13 : decode cX11_liar 13 = .ok (.aload_n 0, 1) := by decide +kernel
theorem dX11_liar_14 : decode cX11_liar 14 = .ok (.aload_n 0, 1) := by decide +kernel
theorem dX11_liar_15 : decode cX11_liar 15 = .ok (.getfield 83, 3) := by decide +kernel
theorem dX11_liar_18 : decode cX11_liar 18 = .ok (.iload_n 1, 1) := by decide +kernel
theorem dX11_liar_19 : decode cX11_liar 19 = .ok (.invokevirtual 387, 3) := by decide +kernel
theorem dX11_liar_22 : decode cX11_liar 22 = .ok (.aload_n 0, 1) := by decide +kernel
theorem dX11_liar_23 : decode cX11_liar 23 = .ok (.getfield 83, 3) := by decide +kernel
theorem dX11_liar_26 : decode cX11_liar 26 = .ok (.iload_n 1, 1) := by decide +kernel
theorem dX11_liar_27 : decode cX11_liar 27 = .ok (.invokevirtual 374, 3) := by decide +kernel
theorem dX11_liar_30 : decode cX11_liar 30 = .ok (.iload_n 1, 1) := by decide +kernel
theorem dX11_liar_31 : decode cX11_liar 31 = .ok (.invokevirtual 383, 3) := by decide +kernel
theorem dX11_liar_34 : decode cX11_liar 34 = .ok (.ifCond .ne 5, 3) := by decide +kernel
theorem dX11_liar_37 : decode cX11_liar 37 = .ok (.iload_n 1, 1) := by decide +kernel
theorem dX11_liar_38 : decode cX11_liar 38 = .ok (.ireturn, 1) := by decide +kernel
theorem dX11_liar_39 : decode cX11_liar 39 = .ok (.iinc 1 1, 3) := by decide +kernel
theorem dX11_liar_42 : decode cX11_liar 42 = .ok (.goto (-40), 3) := by decide +kernel
theorem dX11_liar_45 : decode cX11_liar 45 = .ok (.bipush (-9), 2) := by decide +kernel
theorem dX11_liar_47 : decode cX11_liar 47 = .ok (.ireturn, 1) := by decide +kernel
theorem dX11_asked_0 : decode cX11_asked 0 = .ok (.aload_n 0, 1) := by decide +kernel
theorem dX11_asked_1 : decode cX11_asked 1 = .ok (.getfield 98, 3) := by decide +kernel
theorem dX11_asked_4 : decode cX11_asked 4 = .ok (.ireturn, 1) := by decide +kernel
theorem dX11_upper_0 : decode cX11_upper 0 = .ok (.aload_n 0, 1) := by decide +kernel
theorem dX11_upper_1 : decode cX11_upper 1 = .ok (.getfield 101, 3) := by decide +kernel
theorem dX11_upper_4 : decode cX11_upper 4 = .ok (.lreturn, 1) := by decide +kernel
theorem dX11_lower_0 : decode cX11_lower 0 = .ok (.aload_n 0, 1) := by decide +kernel
theorem dX11_lower_1 : decode cX11_lower 1 = .ok (.getfield 105, 3) := by decide +kernel
theorem dX11_lower_4 : decode cX11_lower 4 = .ok (.lreturn, 1) := by decide +kernel
theorem dX11_count_0 : decode cX11_count 0 = .ok (.iload_n 1, 1) := by decide +kernel
theorem dX11_count_1 : decode cX11_count 1 = .ok (.tableswitch 114 0 7 #[47, 55, 63, 74, 82, 90, 98, 106], 47) := by decide +kernel
theorem dX11_count_48 : decode cX11_count 48 = .ok (.aload_n 0, 1) := by decide +kernel
theorem dX11_count_49 : decode cX11_count 49 = .ok (.getfield 21, 3) := by decide +kernel
theorem dX11_count_52 : decode cX11_count 52 = .ok (.getfield 167, 3) := by decide +kernel
theorem dX11_count_55 : decode cX11_count 55 = .ok (.ireturn, 1) := by decide +kernel
theorem dX11_count_56 : decode cX11_count 56 = .ok (.aload_n 0, 1) := by decide +kernel
theorem dX11_count_57 : decode cX11_count 57 = .ok (.getfield 21, 3) := by decide +kernel
theorem dX11_count_60 : decode cX11_count 60 = .ok (.getfield 396, 3) := by decide +kernel
theorem dX11_count_63 : decode cX11_count 63 = .ok (.ireturn, 1) := by decide +kernel
theorem dX11_count_64 : decode cX11_count 64 = .ok (.aload_n 0, 1) := by decide +kernel
theorem dX11_count_65 : decode cX11_count 65 = .ok (.getfield 21, 3) := by decide +kernel
theorem dX11_count_68 : decode cX11_count 68 = .ok (.invokevirtual 244, 3) := by decide +kernel
theorem dX11_count_71 : decode cX11_count 71 = .ok (.invokestatic 399, 3) := by decide +kernel
theorem dX11_count_74 : decode cX11_count 74 = .ok (.ireturn, 1) := by decide +kernel
theorem dX11_count_75 : decode cX11_count 75 = .ok (.aload_n 0, 1) := by decide +kernel
theorem dX11_count_76 : decode cX11_count 76 = .ok (.getfield 70, 3) := by decide +kernel
theorem dX11_count_79 : decode cX11_count 79 = .ok (.getfield 354, 3) := by decide +kernel
theorem dX11_count_82 : decode cX11_count 82 = .ok (.ireturn, 1) := by decide +kernel
theorem dX11_count_83 : decode cX11_count 83 = .ok (.aload_n 0, 1) := by decide +kernel
theorem dX11_count_84 : decode cX11_count 84 = .ok (.getfield 79, 3) := by decide +kernel
theorem dX11_count_87 : decode cX11_count 87 = .ok (.getfield 370, 3) := by decide +kernel
theorem dX11_count_90 : decode cX11_count 90 = .ok (.ireturn, 1) := by decide +kernel
theorem dX11_count_91 : decode cX11_count 91 = .ok (.aload_n 0, 1) := by decide +kernel
theorem dX11_count_92 : decode cX11_count 92 = .ok (.getfield 83, 3) := by decide +kernel
theorem dX11_count_95 : decode cX11_count 95 = .ok (.getfield 370, 3) := by decide +kernel
theorem dX11_count_98 : decode cX11_count 98 = .ok (.ireturn, 1) := by decide +kernel
theorem dX11_count_99 : decode cX11_count 99 = .ok (.aload_n 0, 1) := by decide +kernel
theorem dX11_count_100 : decode cX11_count 100 = .ok (.getfield 11, 3) := by decide +kernel
theorem dX11_count_103 : decode cX11_count 103 = .ok (.invokestatic 404, 3) := by decide +kernel
theorem dX11_count_106 : decode cX11_count 106 = .ok (.ireturn, 1) := by decide +kernel
theorem dX11_count_107 : decode cX11_count 107 = .ok (.aload_n 0, 1) := by decide +kernel
theorem dX11_count_108 : decode cX11_count 108 = .ok (.getfield 15, 3) := by decide +kernel
theorem dX11_count_111 : decode cX11_count 111 = .ok (.invokestatic 404, 3) := by decide +kernel
theorem dX11_count_114 : decode cX11_count 114 = .ok (.ireturn, 1) := by decide +kernel
theorem dX11_count_115 : decode cX11_count 115 = .ok (.iconst (-1), 1) := by decide +kernel
theorem dX11_count_116 : decode cX11_count 116 = .ok (.ireturn, 1) := by decide +kernel
theorem dX11_digest_0 : decode cX11_digest 0 = .ok (.ldc2_w 408, 3) := by decide +kernel
theorem dX11_digest_3 : decode cX11_digest 3 = .ok (.lstore_n 1, 1) := by decide +kernel
theorem dX11_digest_4 : decode cX11_digest 4 = .ok (.iconst 0, 1) := by decide +kernel
theorem dX11_digest_5 : decode cX11_digest 5 = .ok (.istore_n 3, 1) := by decide +kernel
theorem dX11_digest_6 : decode cX11_digest 6 = .ok (.iload_n 3, 1) := by decide +kernel
theorem dX11_digest_7 : decode cX11_digest 7 = .ok (.bipush 7, 2) := by decide +kernel
theorem dX11_digest_9 : decode cX11_digest 9 = .ok (.if_icmp .gt 20, 3) := by decide +kernel
theorem dX11_digest_12 : decode cX11_digest 12 = .ok (.lload_n 1, 1) := by decide +kernel
theorem dX11_digest_13 : decode cX11_digest 13 = .ok (.aload_n 0, 1) := by decide +kernel
theorem dX11_digest_14 : decode cX11_digest 14 = .ok (.iload_n 3, 1) := by decide +kernel
theorem dX11_digest_15 : decode cX11_digest 15 = .ok (.invokevirtual 410, 3) := by decide +kernel
theorem dX11_digest_18 : decode cX11_digest 18 = .ok (.i2l, 1) := by decide +kernel
theorem dX11_digest_19 : decode cX11_digest 19 = .ok (.invokestatic 413, 3) := by decide +kernel
theorem dX11_digest_22 : decode cX11_digest 22 = .ok (.lstore_n 1, 1) := by decide +kernel
theorem dX11_digest_23 : decode cX11_digest 23 = .ok (.iinc 3 1, 3) := by decide +kernel
theorem dX11_digest_26 : decode cX11_digest 26 = .ok (.goto (-20), 3) := by decide +kernel
theorem dX11_digest_29 : decode cX11_digest 29 = .ok (.lload_n 1, 1) := by decide +kernel
theorem dX11_digest_30 : decode cX11_digest 30 = .ok (.aload_n 0, 1) := by decide +kernel
theorem dX11_digest_31 : decode cX11_digest 31 = .ok (.getfield 21, 3) := by decide +kernel
theorem dX11_digest_34 : decode cX11_digest 34 = .ok (.getfield 197, 3) := by decide +kernel
theorem dX11_digest_37 : decode cX11_digest 37 = .ok (.i2l, 1) := by decide +kernel
theorem dX11_digest_38 : decode cX11_digest 38 = .ok (.invokestatic 413, 3) := by decide +kernel
theorem dX11_digest_41 : decode cX11_digest 41 = .ok (.lstore_n 1, 1) := by decide +kernel
theorem dX11_digest_42 : decode cX11_digest 42 = .ok (.aload_n 0, 1) := by decide +kernel
theorem dX11_digest_43 : decode cX11_digest 43 = .ok (.lload_n 1, 1) := by decide +kernel
theorem dX11_digest_44 : decode cX11_digest 44 = .ok (.invokevirtual 417, 3) := by decide +kernel
theorem dX11_digest_47 : decode cX11_digest 47 = .ok (.lstore_n 1, 1) := by decide +kernel
theorem dX11_digest_48 : decode cX11_digest 48 = .ok (.aload_n 0, 1) := by decide +kernel
theorem dX11_digest_49 : decode cX11_digest 49 = .ok (.lload_n 1, 1) := by decide +kernel
theorem dX11_digest_50 : decode cX11_digest 50 = .ok (.invokevirtual 421, 3) := by decide +kernel
theorem dX11_digest_53 : decode cX11_digest 53 = .ok (.lstore_n 1, 1) := by decide +kernel
theorem dX11_digest_54 : decode cX11_digest 54 = .ok (.lload_n 1, 1) := by decide +kernel
theorem dX11_digest_55 : decode cX11_digest 55 = .ok (.aload_n 0, 1) := by decide +kernel
theorem dX11_digest_56 : decode cX11_digest 56 = .ok (.getfield 79, 3) := by decide +kernel
theorem dX11_digest_59 : decode cX11_digest 59 = .ok (.invokestatic 424, 3) := by decide +kernel
theorem dX11_digest_62 : decode cX11_digest 62 = .ok (.lstore_n 1, 1) := by decide +kernel
theorem dX11_digest_63 : decode cX11_digest 63 = .ok (.lload_n 1, 1) := by decide +kernel
theorem dX11_digest_64 : decode cX11_digest 64 = .ok (.aload_n 0, 1) := by decide +kernel
theorem dX11_digest_65 : decode cX11_digest 65 = .ok (.getfield 83, 3) := by decide +kernel
theorem dX11_digest_68 : decode cX11_digest 68 = .ok (.invokestatic 424, 3) := by decide +kernel
theorem dX11_digest_71 : decode cX11_digest 71 = .ok (.lstore_n 1, 1) := by decide +kernel
theorem dX11_digest_72 : decode cX11_digest 72 = .ok (.lload_n 1, 1) := by decide +kernel
theorem dX11_digest_73 : decode cX11_digest 73 = .ok (.aload_n 0, 1) := by decide +kernel
theorem dX11_digest_74 : decode cX11_digest 74 = .ok (.getfield 11, 3) := by decide +kernel
theorem dX11_digest_77 : decode cX11_digest 77 = .ok (.invokestatic 428, 3) := by decide +kernel
theorem dX11_digest_80 : decode cX11_digest 80 = .ok (.lstore_n 1, 1) := by decide +kernel
theorem dX11_digest_81 : decode cX11_digest 81 = .ok (.lload_n 1, 1) := by decide +kernel
theorem dX11_digest_82 : decode cX11_digest 82 = .ok (.aload_n 0, 1) := by decide +kernel
theorem dX11_digest_83 : decode cX11_digest 83 = .ok (.getfield 15, 3) := by decide +kernel
theorem dX11_digest_86 : decode cX11_digest 86 = .ok (.invokestatic 428, 3) := by decide +kernel
theorem dX11_digest_89 : decode cX11_digest 89 = .ok (.lreturn, 1) := by decide +kernel
theorem dX11_rowOf_0 : decode cX11_rowOf 0 = .ok (.iload_n 1, 1) := by decide +kernel
theorem dX11_rowOf_1 : decode cX11_rowOf 1 = .ok (.ifCond .lt 21, 3) := by decide +kernel
theorem dX11_rowOf_4 : decode cX11_rowOf 4 = .ok (.iload_n 1, 1) := by decide +kernel
theorem dX11_rowOf_5 : decode cX11_rowOf 5 = .ok (.aload_n 0, 1) := by decide +kernel
theorem dX11_rowOf_6 : decode cX11_rowOf 6 = .ok (.getfield 11, 3) := by decide +kernel
theorem dX11_rowOf_9 : decode cX11_rowOf 9 = .ok (.arraylength, 1) := by decide +kernel
theorem dX11_rowOf_10 : decode cX11_rowOf 10 = .ok (.if_icmp .ge 12, 3) := by decide +kernel
theorem dX11_rowOf_13 : decode cX11_rowOf 13 = .ok (.aload_n 0, 1) := by decide +kernel
theorem dX11_rowOf_14 : decode cX11_rowOf 14 = .ok (.getfield 11, 3) := by decide +kernel
theorem dX11_rowOf_17 : decode cX11_rowOf 17 = .ok (.iload_n 1, 1) := by decide +kernel
theorem dX11_rowOf_18 : decode cX11_rowOf 18 = .ok (.aaload, 1) := by decide +kernel
theorem dX11_rowOf_19 : decode cX11_rowOf 19 = .ok (.goto 4, 3) := by decide +kernel
theorem dX11_rowOf_22 : decode cX11_rowOf 22 = .ok (.aconst_null, 1) := by decide +kernel
theorem dX11_rowOf_23 : decode cX11_rowOf 23 = .ok (.areturn, 1) := by decide +kernel
theorem dX11_textOf_0 : decode cX11_textOf 0 = .ok (.iload_n 1, 1) := by decide +kernel
theorem dX11_textOf_1 : decode cX11_textOf 1 = .ok (.ifCond .lt 21, 3) := by decide +kernel
theorem dX11_textOf_4 : decode cX11_textOf 4 = .ok (.iload_n 1, 1) := by decide +kernel
theorem dX11_textOf_5 : decode cX11_textOf 5 = .ok (.aload_n 0, 1) := by decide +kernel
theorem dX11_textOf_6 : decode cX11_textOf 6 = .ok (.getfield 15, 3) := by decide +kernel
theorem dX11_textOf_9 : decode cX11_textOf 9 = .ok (.arraylength, 1) := by decide +kernel
theorem dX11_textOf_10 : decode cX11_textOf 10 = .ok (.if_icmp .ge 12, 3) := by decide +kernel
theorem dX11_textOf_13 : decode cX11_textOf 13 = .ok (.aload_n 0, 1) := by decide +kernel
theorem dX11_textOf_14 : decode cX11_textOf 14 = .ok (.getfield 15, 3) := by decide +kernel
theorem dX11_textOf_17 : decode cX11_textOf 17 = .ok (.iload_n 1, 1) := by decide +kernel
theorem dX11_textOf_18 : decode cX11_textOf 18 = .ok (.aaload, 1) := by decide +kernel
theorem dX11_textOf_19 : decode cX11_textOf 19 = .ok (.goto 4, 3) := by decide +kernel
theorem dX11_textOf_22 : decode cX11_textOf 22 = .ok (.aconst_null, 1) := by decide +kernel
theorem dX11_textOf_23 : decode cX11_textOf 23 = .ok (.areturn, 1) := by decide +kernel
theorem dX11_found_0 : decode cX11_found 0 = .ok (.aload_n 0, 1) := by decide +kernel
theorem dX11_found_1 : decode cX11_found 1 = .ok (.iload_n 1, 1) := by decide +kernel
theorem dX11_found_2 : decode cX11_found 2 = .ok (.putfield 94, 3) := by decide +kernel
theorem dX11_found_5 : decode cX11_found 5 = .ok (.iload_n 1, 1) := by decide +kernel
theorem dX11_found_6 : decode cX11_found 6 = .ok (.ifCond .lt 22, 3) := by decide +kernel
theorem dX11_found_9 : decode cX11_found 9 = .ok (.iload_n 1, 1) := by decide +kernel
theorem dX11_found_10 : decode cX11_found 10 = .ok (.aload_n 0, 1) := by decide +kernel
theorem dX11_found_11 : decode cX11_found 11 = .ok (.getfield 86, 3) := by decide +kernel
theorem dX11_found_14 : decode cX11_found 14 = .ok (.arraylength, 1) := by decide +kernel
theorem dX11_found_15 : decode cX11_found 15 = .ok (.if_icmp .ge 13, 3) := by decide +kernel
theorem dX11_found_18 : decode cX11_found 18 = .ok (.aload_n 0, 1) := by decide +kernel
theorem dX11_found_19 : decode cX11_found 19 = .ok (.getfield 86, 3) := by decide +kernel
theorem dX11_found_22 : decode cX11_found 22 = .ok (.iload_n 1, 1) := by decide +kernel
theorem dX11_found_23 : decode cX11_found 23 = .ok (.dup2, 1) := by decide +kernel
theorem dX11_found_24 : decode cX11_found 24 = .ok (.iaload, 1) := by decide +kernel
theorem dX11_found_25 : decode cX11_found 25 = .ok (.iconst 1, 1) := by decide +kernel
theorem dX11_found_26 : decode cX11_found 26 = .ok (.iadd, 1) := by decide +kernel
theorem dX11_found_27 : decode cX11_found 27 = .ok (.iastore, 1) := by decide +kernel
theorem dX11_found_28 : decode cX11_found 28 = .ok (.bipush (-3), 2) := by decide +kernel
theorem dX11_found_30 : decode cX11_found 30 = .ok (.ireturn, 1) := by decide +kernel
theorem dX11_tellFraction_0 : decode cX11_tellFraction 0 = .ok (.lload_n 1, 1) := by decide +kernel
theorem dX11_tellFraction_1 : decode cX11_tellFraction 1 = .ok (.lload_n 3, 1) := by decide +kernel
theorem dX11_tellFraction_2 : decode cX11_tellFraction 2 = .ok (.invokestatic 432, 3) := by decide +kernel
theorem dX11_tellFraction_5 : decode cX11_tellFraction 5 = .ok (.lstore 5, 2) := by decide +kernel
theorem dX11_tellFraction_7 : decode cX11_tellFraction 7 = .ok (.lload 5, 2) := by decide +kernel
theorem dX11_tellFraction_9 : decode cX11_tellFraction 9 = .ok (.lconst 0, 1) := by decide +kernel
theorem dX11_tellFraction_10 : decode cX11_tellFraction 10 = .ok (.lcmp, 1) := by decide +kernel
theorem dX11_tellFraction_11 : decode cX11_tellFraction 11 = .ok (.ifCond .le 19, 3) := by decide +kernel
theorem dX11_tellFraction_14 : decode cX11_tellFraction 14 = .ok (.aload_n 0, 1) := by decide +kernel
theorem dX11_tellFraction_15 : decode cX11_tellFraction 15 = .ok (.lload_n 1, 1) := by decide +kernel
theorem dX11_tellFraction_16 : decode cX11_tellFraction 16 = .ok (.lload 5, 2) := by decide +kernel
theorem dX11_tellFraction_18 : decode cX11_tellFraction 18 = .ok (.ldiv, 1) := by decide +kernel
theorem dX11_tellFraction_19 : decode cX11_tellFraction 19 = .ok (.putfield 101, 3) := by decide +kernel
theorem dX11_tellFraction_22 : decode cX11_tellFraction 22 = .ok (.aload_n 0, 1) := by decide +kernel
theorem dX11_tellFraction_23 : decode cX11_tellFraction 23 = .ok (.lload_n 3, 1) := by decide +kernel
theorem dX11_tellFraction_24 : decode cX11_tellFraction 24 = .ok (.lload 5, 2) := by decide +kernel
theorem dX11_tellFraction_26 : decode cX11_tellFraction 26 = .ok (.ldiv, 1) := by decide +kernel
theorem dX11_tellFraction_27 : decode cX11_tellFraction 27 = .ok (.putfield 105, 3) := by decide +kernel
theorem dX11_tellFraction_30 : decode cX11_tellFraction 30 = .ok (.return_, 1) := by decide +kernel
theorem dX11_greatestDivisor_0 : decode cX11_greatestDivisor 0 = .ok (.lload_n 0, 1) := by decide +kernel
theorem dX11_greatestDivisor_1 : decode cX11_greatestDivisor 1 = .ok (.lstore 4, 2) := by decide +kernel
theorem dX11_greatestDivisor_3 : decode cX11_greatestDivisor 3 = .ok (.lload_n 2, 1) := by decide +kernel
theorem dX11_greatestDivisor_4 : decode cX11_greatestDivisor 4 = .ok (.lstore 6, 2) := by decide +kernel
theorem dX11_greatestDivisor_6 : decode cX11_greatestDivisor 6 = .ok (.iconst 0, 1) := by decide +kernel
theorem dX11_greatestDivisor_7 : decode cX11_greatestDivisor 7 = .ok (.istore 8, 2) := by decide +kernel
theorem dX11_greatestDivisor_9 : decode cX11_greatestDivisor 9 = .ok (.iload 8, 2) := by decide +kernel
theorem dX11_greatestDivisor_11 : decode cX11_greatestDivisor 11 = .ok (.sipush 200, 3) := by decide +kernel
theorem dX11_greatestDivisor_14 : decode cX11_greatestDivisor 14 = .ok (.if_icmp .ge 31, 3) := by decide +kernel
theorem dX11_greatestDivisor_17 : decode cX11_greatestDivisor 17 = .ok (.lload 6, 2) := by decide +kernel
theorem dX11_greatestDivisor_19 : decode cX11_greatestDivisor 19 = .ok (.lconst 0, 1) := by decide +kernel
theorem dX11_greatestDivisor_20 : decode cX11_greatestDivisor 20 = .ok (.lcmp, 1) := by decide +kernel
theorem dX11_greatestDivisor_21 : decode cX11_greatestDivisor 21 = .ok (.ifCond .eq 24, 3) := by decide +kernel
theorem dX11_greatestDivisor_24 : decode cX11_greatestDivisor 24 = .ok (.lload 4, 2) := by decide +kernel
theorem dX11_greatestDivisor_26 : decode cX11_greatestDivisor 26 = .ok (.lload 6, 2) := by decide +kernel
theorem dX11_greatestDivisor_28 : decode cX11_greatestDivisor 28 = .ok (.lrem, 1) := by decide +kernel
theorem dX11_greatestDivisor_29 : decode cX11_greatestDivisor 29 = .ok (.lstore 9, 2) := by decide +kernel
theorem dX11_greatestDivisor_31 : decode cX11_greatestDivisor 31 = .ok (.lload 6, 2) := by decide +kernel
theorem dX11_greatestDivisor_33 : decode cX11_greatestDivisor 33 = .ok (.lstore 4, 2) := by decide +kernel
theorem dX11_greatestDivisor_35 : decode cX11_greatestDivisor 35 = .ok (.lload 9, 2) := by decide +kernel
theorem dX11_greatestDivisor_37 : decode cX11_greatestDivisor 37 = .ok (.lstore 6, 2) := by decide +kernel
theorem dX11_greatestDivisor_39 : decode cX11_greatestDivisor 39 = .ok (.iinc 8 1, 3) := by decide +kernel
theorem dX11_greatestDivisor_42 : decode cX11_greatestDivisor 42 = .ok (.goto (-33), 3) := by decide +kernel
theorem dX11_greatestDivisor_45 : decode cX11_greatestDivisor 45 = .ok (.lload 4, 2) := by decide +kernel
theorem dX11_greatestDivisor_47 : decode cX11_greatestDivisor 47 = .ok (.lreturn, 1) := by decide +kernel
theorem dX11_bit_0 : decode cX11_bit 0 = .ok (.iload_n 0, 1) := by decide +kernel
theorem dX11_bit_1 : decode cX11_bit 1 = .ok (.ifCond .lt 15, 3) := by decide +kernel
theorem dX11_bit_4 : decode cX11_bit 4 = .ok (.iload_n 0, 1) := by decide +kernel
theorem dX11_bit_5 : decode cX11_bit 5 = .ok (.bipush 8, 2) := by decide +kernel
theorem dX11_bit_7 : decode cX11_bit 7 = .ok (.if_icmp .ge 9, 3) := by decide +kernel
theorem dX11_bit_10 : decode cX11_bit 10 = .ok (.iconst 1, 1) := by decide +kernel
theorem dX11_bit_11 : decode cX11_bit 11 = .ok (.iload_n 0, 1) := by decide +kernel
theorem dX11_bit_12 : decode cX11_bit 12 = .ok (.ishl, 1) := by decide +kernel
theorem dX11_bit_13 : decode cX11_bit 13 = .ok (.goto 4, 3) := by decide +kernel
theorem dX11_bit_16 : decode cX11_bit 16 = .ok (.iconst 0, 1) := by decide +kernel
theorem dX11_bit_17 : decode cX11_bit 17 = .ok (.ireturn, 1) := by decide +kernel
theorem dX11_isIn_0 : decode cX11_isIn 0 = .ok (.iload_n 1, 1) := by decide +kernel
theorem dX11_isIn_1 : decode cX11_isIn 1 = .ok (.iload_n 0, 1) := by decide +kernel
theorem dX11_isIn_2 : decode cX11_isIn 2 = .ok (.invokestatic 269, 3) := by decide +kernel
theorem dX11_isIn_5 : decode cX11_isIn 5 = .ok (.iand, 1) := by decide +kernel
theorem dX11_isIn_6 : decode cX11_isIn 6 = .ok (.ifCond .eq 7, 3) := by decide +kernel
theorem dX11_isIn_9 : decode cX11_isIn 9 = .ok (.iconst 1, 1) := by decide +kernel
theorem dX11_isIn_10 : decode cX11_isIn 10 = .ok (.goto 4, 3) := by decide +kernel
theorem dX11_isIn_13 : decode cX11_isIn 13 = .ok (.iconst 0, 1) := by decide +kernel
theorem dX11_isIn_14 : decode cX11_isIn 14 = .ok (.ireturn, 1) := by decide +kernel
theorem dX11_isWatch_0 : decode cX11_isWatch 0 = .ok (.iload_n 0, 1) := by decide +kernel
theorem dX11_isWatch_1 : decode cX11_isWatch 1 = .ok (.ifCond .lt 13, 3) := by decide +kernel
theorem dX11_isWatch_4 : decode cX11_isWatch 4 = .ok (.iload_n 0, 1) := by decide +kernel
theorem dX11_isWatch_5 : decode cX11_isWatch 5 = .ok (.bipush 28, 2) := by decide +kernel
theorem dX11_isWatch_7 : decode cX11_isWatch 7 = .ok (.if_icmp .ge 7, 3) := by decide +kernel
theorem dX11_isWatch_10 : decode cX11_isWatch 10 = .ok (.iconst 1, 1) := by decide +kernel
theorem dX11_isWatch_11 : decode cX11_isWatch 11 = .ok (.goto 4, 3) := by decide +kernel
theorem dX11_isWatch_14 : decode cX11_isWatch 14 = .ok (.iconst 0, 1) := by decide +kernel
theorem dX11_isWatch_15 : decode cX11_isWatch 15 = .ok (.ireturn, 1) := by decide +kernel
theorem dX11_watchesApart_0 : decode cX11_watchesApart 0 = .ok (.iload_n 0, 1) := by decide +kernel
theorem dX11_watchesApart_1 : decode cX11_watchesApart 1 = .ok (.iload_n 1, 1) := by decide +kernel
theorem dX11_watchesApart_2 : decode cX11_watchesApart 2 = .ok (.if_icmp .ge 9, 3) := by decide +kernel
theorem dX11_watchesApart_5 : decode cX11_watchesApart 5 = .ok (.iload_n 1, 1) := by decide +kernel
theorem dX11_watchesApart_6 : decode cX11_watchesApart 6 = .ok (.iload_n 0, 1) := by decide +kernel
theorem dX11_watchesApart_7 : decode cX11_watchesApart 7 = .ok (.isub, 1) := by decide +kernel
theorem dX11_watchesApart_8 : decode cX11_watchesApart 8 = .ok (.goto 6, 3) := by decide +kernel
theorem dX11_watchesApart_11 : decode cX11_watchesApart 11 = .ok (.iload_n 0, 1) := by decide +kernel
theorem dX11_watchesApart_12 : decode cX11_watchesApart 12 = .ok (.iload_n 1, 1) := by decide +kernel
theorem dX11_watchesApart_13 : decode cX11_watchesApart 13 = .ok (.isub, 1) := by decide +kernel
theorem dX11_watchesApart_14 : decode cX11_watchesApart 14 = .ok (.iconst 4, 1) := by decide +kernel
theorem dX11_watchesApart_15 : decode cX11_watchesApart 15 = .ok (.idiv, 1) := by decide +kernel
theorem dX11_watchesApart_16 : decode cX11_watchesApart 16 = .ok (.ireturn, 1) := by decide +kernel
theorem dX11_wrongInOrder_0 : decode cX11_wrongInOrder 0 = .ok (.aload_n 1, 1) := by decide +kernel
theorem dX11_wrongInOrder_1 : decode cX11_wrongInOrder 1 = .ok (.invokevirtual 121, 3) := by decide +kernel
theorem dX11_wrongInOrder_4 : decode cX11_wrongInOrder 4 = .ok (.ifCond .eq 5, 3) := by decide +kernel
theorem dX11_wrongInOrder_7 : decode cX11_wrongInOrder 7 = .ok (.iconst 1, 1) := by decide +kernel
theorem dX11_wrongInOrder_8 : decode cX11_wrongInOrder 8 = .ok (.ireturn, 1) := by decide +kernel
theorem dX11_wrongInOrder_9 : decode cX11_wrongInOrder 9 = .ok (.aload_n 1, 1) := by decide +kernel
theorem dX11_wrongInOrder_10 : decode cX11_wrongInOrder 10 = .ok (.invokevirtual 146, 3) := by decide +kernel
theorem dX11_wrongInOrder_13 : decode cX11_wrongInOrder 13 = .ok (.aload_n 0, 1) := by decide +kernel
theorem dX11_wrongInOrder_14 : decode cX11_wrongInOrder 14 = .ok (.getfield 21, 3) := by decide +kernel
theorem dX11_wrongInOrder_17 : decode cX11_wrongInOrder 17 = .ok (.getfield 396, 3) := by decide +kernel
theorem dX11_wrongInOrder_20 : decode cX11_wrongInOrder 20 = .ok (.if_icmp .le 5, 3) := by decide +kernel
theorem dX11_wrongInOrder_23 : decode cX11_wrongInOrder 23 = .ok (.iconst 5, 1) := by decide +kernel
theorem dX11_wrongInOrder_24 : decode cX11_wrongInOrder 24 = .ok (.ireturn, 1) := by decide +kernel
theorem dX11_wrongInOrder_25 : decode cX11_wrongInOrder 25 = .ok (.iconst 0, 1) := by decide +kernel
theorem dX11_wrongInOrder_26 : decode cX11_wrongInOrder 26 = .ok (.istore_n 2, 1) := by decide +kernel
theorem dX11_wrongInOrder_27 : decode cX11_wrongInOrder 27 = .ok (.iconst 0, 1) := by decide +kernel
theorem dX11_wrongInOrder_28 : decode cX11_wrongInOrder 28 = .ok (.istore_n 3, 1) := by decide +kernel
theorem dX11_wrongInOrder_29 : decode cX11_wrongInOrder 29 = .ok (.iload_n 3, 1) := by decide +kernel
theorem dX11_wrongInOrder_30 : decode cX11_wrongInOrder 30 = .ok (.aload_n 1, 1) := by decide +kernel
theorem dX11_wrongInOrder_31 : decode cX11_wrongInOrder 31 = .ok (.invokevirtual 146, 3) := by decide +kernel
theorem dX11_wrongInOrder_34 : decode cX11_wrongInOrder 34 = .ok (.if_icmp .ge 47, 3) := by decide +kernel
theorem dX11_wrongInOrder_37 : decode cX11_wrongInOrder 37 = .ok (.aload_n 1, 1) := by decide +kernel
theorem dX11_wrongInOrder_38 : decode cX11_wrongInOrder 38 = .ok (.iload_n 3, 1) := by decide +kernel
theorem dX11_wrongInOrder_39 : decode cX11_wrongInOrder 39 = .ok (.invokevirtual 129, 3) := by decide +kernel
theorem dX11_wrongInOrder_42 : decode cX11_wrongInOrder 42 = .ok (.istore 4, 2) := by decide +kernel
theorem dX11_wrongInOrder_44 : decode cX11_wrongInOrder 44 = .ok (.aload_n 0, 1) := by decide +kernel
theorem dX11_wrongInOrder_45 : decode cX11_wrongInOrder 45 = .ok (.getfield 21, 3) := by decide +kernel
theorem dX11_wrongInOrder_48 : decode cX11_wrongInOrder 48 = .ok (.iload 4, 2) := by decide +kernel
theorem dX11_wrongInOrder_50 : decode cX11_wrongInOrder 50 = .ok (.invokevirtual 179, 3) := by decide +kernel
theorem dX11_wrongInOrder_53 : decode cX11_wrongInOrder 53 = .ok (.ifCond .eq 12, 3) := by decide +kernel
theorem dX11_wrongInOrder_56 : decode cX11_wrongInOrder 56 = .ok (.iload 4, 2) := by decide +kernel
theorem dX11_wrongInOrder_58 : decode cX11_wrongInOrder 58 = .ok (.iload_n 2, 1) := by decide +kernel
theorem dX11_wrongInOrder_59 : decode cX11_wrongInOrder 59 = .ok (.invokestatic 435, 3) := by decide +kernel
theorem dX11_wrongInOrder_62 : decode cX11_wrongInOrder 62 = .ok (.ifCond .eq 5, 3) := by decide +kernel
theorem dX11_wrongInOrder_65 : decode cX11_wrongInOrder 65 = .ok (.iconst 3, 1) := by decide +kernel
theorem dX11_wrongInOrder_66 : decode cX11_wrongInOrder 66 = .ok (.ireturn, 1) := by decide +kernel
theorem dX11_wrongInOrder_67 : decode cX11_wrongInOrder 67 = .ok (.iload_n 2, 1) := by decide +kernel
theorem dX11_wrongInOrder_68 : decode cX11_wrongInOrder 68 = .ok (.iload 4, 2) := by decide +kernel
theorem dX11_wrongInOrder_70 : decode cX11_wrongInOrder 70 = .ok (.invokestatic 269, 3) := by decide +kernel
theorem dX11_wrongInOrder_73 : decode cX11_wrongInOrder 73 = .ok (.ior, 1) := by decide +kernel
theorem dX11_wrongInOrder_74 : decode cX11_wrongInOrder 74 = .ok (.istore_n 2, 1) := by decide +kernel
theorem dX11_wrongInOrder_75 : decode cX11_wrongInOrder 75 = .ok (.iinc 3 1, 3) := by decide +kernel
theorem dX11_wrongInOrder_78 : decode cX11_wrongInOrder 78 = .ok (.goto (-49), 3) := by decide +kernel
theorem dX11_wrongInOrder_81 : decode cX11_wrongInOrder 81 = .ok (.iconst 0, 1) := by decide +kernel
theorem dX11_wrongInOrder_82 : decode cX11_wrongInOrder 82 = .ok (.ireturn, 1) := by decide +kernel
theorem dX11_goAlong_0 : decode cX11_goAlong 0 = .ok (.aload_n 0, 1) := by decide +kernel
theorem dX11_goAlong_1 : decode cX11_goAlong 1 = .ok (.getfield 38, 3) := by decide +kernel
theorem dX11_goAlong_4 : decode cX11_goAlong 4 = .ok (.aload_n 0, 1) := by decide +kernel
theorem dX11_goAlong_5 : decode cX11_goAlong 5 = .ok (.getfield 21, 3) := by decide +kernel
theorem dX11_goAlong_8 : decode cX11_goAlong 8 = .ok (.invokevirtual 259, 3) := by decide +kernel
theorem dX11_goAlong_11 : decode cX11_goAlong 11 = .ok (.aload_n 0, 1) := by decide +kernel
theorem dX11_goAlong_12 : decode cX11_goAlong 12 = .ok (.getfield 47, 3) := by decide +kernel
theorem dX11_goAlong_15 : decode cX11_goAlong 15 = .ok (.aload_n 0, 1) := by decide +kernel
theorem dX11_goAlong_16 : decode cX11_goAlong 16 = .ok (.getfield 21, 3) := by decide +kernel
theorem dX11_goAlong_19 : decode cX11_goAlong 19 = .ok (.invokevirtual 263, 3) := by decide +kernel
theorem dX11_goAlong_22 : decode cX11_goAlong 22 = .ok (.invokevirtual 438, 3) := by decide +kernel
theorem dX11_goAlong_25 : decode cX11_goAlong 25 = .ok (.iconst 1, 1) := by decide +kernel
theorem dX11_goAlong_26 : decode cX11_goAlong 26 = .ok (.istore_n 2, 1) := by decide +kernel
theorem dX11_goAlong_27 : decode cX11_goAlong 27 = .ok (.iconst 0, 1) := by decide +kernel
theorem dX11_goAlong_28 : decode cX11_goAlong 28 = .ok (.istore_n 3, 1) := by decide +kernel
theorem dX11_goAlong_29 : decode cX11_goAlong 29 = .ok (.iload_n 3, 1) := by decide +kernel
theorem dX11_goAlong_30 : decode cX11_goAlong 30 = .ok (.aload_n 1, 1) := by decide +kernel
theorem dX11_goAlong_31 : decode cX11_goAlong 31 = .ok (.invokevirtual 146, 3) := by decide +kernel
theorem dX11_goAlong_34 : decode cX11_goAlong 34 = .ok (.if_icmp .ge 26, 3) := by decide +kernel
theorem dX11_goAlong_37 : decode cX11_goAlong 37 = .ok (.iload_n 2, 1) := by decide +kernel
theorem dX11_goAlong_38 : decode cX11_goAlong 38 = .ok (.ifCond .eq 22, 3) := by decide +kernel
theorem dX11_goAlong_41 : decode cX11_goAlong 41 = .ok (.aload_n 0, 1) := by decide +kernel
theorem dX11_goAlong_42 : decode cX11_goAlong 42 = .ok (.getfield 47, 3) := by decide +kernel
theorem dX11_goAlong_45 : decode cX11_goAlong 45 = .ok (.aload_n 1, 1) := by decide +kernel
theorem dX11_goAlong_46 : decode cX11_goAlong 46 = .ok (.iload_n 3, 1) := by decide +kernel
theorem dX11_goAlong_47 : decode cX11_goAlong 47 = .ok (.invokevirtual 129, 3) := by decide +kernel
theorem dX11_goAlong_50 : decode cX11_goAlong 50 = .ok (.invokevirtual 441, 3) := by decide +kernel
theorem dX11_goAlong_53 : decode cX11_goAlong 53 = .ok (.istore_n 2, 1) := by decide +kernel
theorem dX11_goAlong_54 : decode cX11_goAlong 54 = .ok (.iinc 3 1, 3) := by decide +kernel
theorem dX11_goAlong_57 : decode cX11_goAlong 57 = .ok (.goto (-28), 3) := by decide +kernel
theorem dX11_goAlong_60 : decode cX11_goAlong 60 = .ok (.return_, 1) := by decide +kernel
theorem dX11_goFirstOrder_0 : decode cX11_goFirstOrder 0 = .ok (.aload_n 0, 1) := by decide +kernel
theorem dX11_goFirstOrder_1 : decode cX11_goFirstOrder 1 = .ok (.getfield 38, 3) := by decide +kernel
theorem dX11_goFirstOrder_4 : decode cX11_goFirstOrder 4 = .ok (.aload_n 0, 1) := by decide +kernel
theorem dX11_goFirstOrder_5 : decode cX11_goFirstOrder 5 = .ok (.getfield 21, 3) := by decide +kernel
theorem dX11_goFirstOrder_8 : decode cX11_goFirstOrder 8 = .ok (.invokevirtual 259, 3) := by decide +kernel
theorem dX11_goFirstOrder_11 : decode cX11_goFirstOrder 11 = .ok (.aload_n 0, 1) := by decide +kernel
theorem dX11_goFirstOrder_12 : decode cX11_goFirstOrder 12 = .ok (.getfield 54, 3) := by decide +kernel
theorem dX11_goFirstOrder_15 : decode cX11_goFirstOrder 15 = .ok (.iload_n 1, 1) := by decide +kernel
theorem dX11_goFirstOrder_16 : decode cX11_goFirstOrder 16 = .ok (.aload_n 0, 1) := by decide +kernel
theorem dX11_goFirstOrder_17 : decode cX11_goFirstOrder 17 = .ok (.getfield 21, 3) := by decide +kernel
theorem dX11_goFirstOrder_20 : decode cX11_goFirstOrder 20 = .ok (.invokevirtual 263, 3) := by decide +kernel
theorem dX11_goFirstOrder_23 : decode cX11_goFirstOrder 23 = .ok (.iconst 0, 1) := by decide +kernel
theorem dX11_goFirstOrder_24 : decode cX11_goFirstOrder 24 = .ok (.invokevirtual 292, 3) := by decide +kernel
theorem dX11_goFirstOrder_27 : decode cX11_goFirstOrder 27 = .ok (.aload_n 0, 1) := by decide +kernel
theorem dX11_goFirstOrder_28 : decode cX11_goFirstOrder 28 = .ok (.getfield 54, 3) := by decide +kernel
theorem dX11_goFirstOrder_31 : decode cX11_goFirstOrder 31 = .ok (.iload_n 1, 1) := by decide +kernel
theorem dX11_goFirstOrder_32 : decode cX11_goFirstOrder 32 = .ok (.invokevirtual 230, 3) := by decide +kernel
theorem dX11_goFirstOrder_35 : decode cX11_goFirstOrder 35 = .ok (.bipush (-9), 2) := by decide +kernel
theorem dX11_goFirstOrder_37 : decode cX11_goFirstOrder 37 = .ok (.if_icmp .ne 5, 3) := by decide +kernel
theorem dX11_goFirstOrder_40 : decode cX11_goFirstOrder 40 = .ok (.iconst 0, 1) := by decide +kernel
theorem dX11_goFirstOrder_41 : decode cX11_goFirstOrder 41 = .ok (.ireturn, 1) := by decide +kernel
theorem dX11_goFirstOrder_42 : decode cX11_goFirstOrder 42 = .ok (.aload_n 0, 1) := by decide +kernel
theorem dX11_goFirstOrder_43 : decode cX11_goFirstOrder 43 = .ok (.getfield 47, 3) := by decide +kernel
theorem dX11_goFirstOrder_46 : decode cX11_goFirstOrder 46 = .ok (.aload_n 0, 1) := by decide +kernel
theorem dX11_goFirstOrder_47 : decode cX11_goFirstOrder 47 = .ok (.getfield 21, 3) := by decide +kernel
theorem dX11_goFirstOrder_50 : decode cX11_goFirstOrder 50 = .ok (.invokevirtual 263, 3) := by decide +kernel
theorem dX11_goFirstOrder_53 : decode cX11_goFirstOrder 53 = .ok (.invokevirtual 438, 3) := by decide +kernel
theorem dX11_goFirstOrder_56 : decode cX11_goFirstOrder 56 = .ok (.iload_n 1, 1) := by decide +kernel
theorem dX11_goFirstOrder_57 : decode cX11_goFirstOrder 57 = .ok (.istore_n 2, 1) := by decide +kernel
theorem dX11_goFirstOrder_58 : decode cX11_goFirstOrder 58 = .ok (.iconst 0, 1) := by decide +kernel
theorem dX11_goFirstOrder_59 : decode cX11_goFirstOrder 59 = .ok (.istore_n 3, 1) := by decide +kernel
theorem dX11_goFirstOrder_60 : decode cX11_goFirstOrder 60 = .ok (.iload_n 3, 1) := by decide +kernel
theorem dX11_goFirstOrder_61 : decode cX11_goFirstOrder 61 = .ok (.bipush 8, 2) := by decide +kernel
theorem dX11_goFirstOrder_63 : decode cX11_goFirstOrder 63 = .ok (.if_icmp .ge 148, 3) := by decide +kernel
theorem dX11_goFirstOrder_66 : decode cX11_goFirstOrder 66 = .ok (.iload_n 2, 1) := by decide +kernel
theorem dX11_goFirstOrder_67 : decode cX11_goFirstOrder 67 = .ok (.ifCond .eq 144, 3) := by decide +kernel
theorem dX11_goFirstOrder_70 : decode cX11_goFirstOrder 70 = .ok (.iload_n 2, 1) := by decide +kernel
theorem dX11_goFirstOrder_71 : decode cX11_goFirstOrder 71 = .ok (.istore 4, 2) := by decide +kernel
theorem dX11_goFirstOrder_73 : decode cX11_goFirstOrder 73 = .ok (.iconst 0, 1) := by decide +kernel
theorem dX11_goFirstOrder_74 : decode cX11_goFirstOrder 74 = .ok (.istore 5, 2) := by decide +kernel
theorem dX11_goFirstOrder_76 : decode cX11_goFirstOrder 76 = .ok (.iload 5, 2) := by decide +kernel
theorem dX11_goFirstOrder_78 : decode cX11_goFirstOrder 78 = .ok (.bipush 8, 2) := by decide +kernel
theorem dX11_goFirstOrder_80 : decode cX11_goFirstOrder 80 = .ok (.if_icmp .ge 125, 3) := by decide +kernel
theorem dX11_goFirstOrder_83 : decode cX11_goFirstOrder 83 = .ok (.iload_n 2, 1) := by decide +kernel
theorem dX11_goFirstOrder_84 : decode cX11_goFirstOrder 84 = .ok (.iload 4, 2) := by decide +kernel
theorem dX11_goFirstOrder_86 : decode cX11_goFirstOrder 86 = .ok (.if_icmp .ne 119, 3) := by decide +kernel
theorem dX11_goFirstOrder_89 : decode cX11_goFirstOrder 89 = .ok (.iload_n 2, 1) := by decide +kernel
theorem dX11_goFirstOrder_90 : decode cX11_goFirstOrder 90 = .ok (.iload 5, 2) := by decide +kernel
theorem dX11_goFirstOrder_92 : decode cX11_goFirstOrder 92 = .ok (.invokestatic 269, 3) := by decide +kernel
theorem dX11_goFirstOrder_95 : decode cX11_goFirstOrder 95 = .ok (.iconst (-1), 1) := by decide +kernel
theorem dX11_goFirstOrder_96 : decode cX11_goFirstOrder 96 = .ok (.ixor, 1) := by decide +kernel
theorem dX11_goFirstOrder_97 : decode cX11_goFirstOrder 97 = .ok (.iand, 1) := by decide +kernel
theorem dX11_goFirstOrder_98 : decode cX11_goFirstOrder 98 = .ok (.istore 6, 2) := by decide +kernel
theorem dX11_goFirstOrder_100 : decode cX11_goFirstOrder 100 = .ok (.iload 6, 2) := by decide +kernel
theorem dX11_goFirstOrder_102 : decode cX11_goFirstOrder 102 = .ok (.iload_n 2, 1) := by decide +kernel
theorem dX11_goFirstOrder_103 : decode cX11_goFirstOrder 103 = .ok (.if_icmp .ne 8, 3) := by decide +kernel
theorem dX11_goFirstOrder_106 : decode cX11_goFirstOrder 106 = .ok (.bipush (-9), 2) := by decide +kernel
theorem dX11_goFirstOrder_108 : decode cX11_goFirstOrder 108 = .ok (.goto 26, 3) := by decide +kernel
theorem dX11_goFirstOrder_111 : decode cX11_goFirstOrder 111 = .ok (.aload_n 0, 1) := by decide +kernel
theorem dX11_goFirstOrder_112 : decode cX11_goFirstOrder 112 = .ok (.getfield 38, 3) := by decide +kernel
theorem dX11_goFirstOrder_115 : decode cX11_goFirstOrder 115 = .ok (.iload 5, 2) := by decide +kernel
theorem dX11_goFirstOrder_117 : decode cX11_goFirstOrder 117 = .ok (.aload_n 0, 1) := by decide +kernel
theorem dX11_goFirstOrder_118 : decode cX11_goFirstOrder 118 = .ok (.getfield 47, 3) := by decide +kernel
theorem dX11_goFirstOrder_121 : decode cX11_goFirstOrder 121 = .ok (.getfield 444, 3) := by decide +kernel
theorem dX11_goFirstOrder_124 : decode cX11_goFirstOrder 124 = .ok (.aload_n 0, 1) := by decide +kernel
theorem dX11_goFirstOrder_125 : decode cX11_goFirstOrder 125 = .ok (.getfield 47, 3) := by decide +kernel
theorem dX11_goFirstOrder_128 : decode cX11_goFirstOrder 128 = .ok (.getfield 215, 3) := by decide +kernel
theorem dX11_goFirstOrder_131 : decode cX11_goFirstOrder 131 = .ok (.invokevirtual 447, 3) := by decide +kernel
theorem dX11_goFirstOrder_134 : decode cX11_goFirstOrder 134 = .ok (.istore 7, 2) := by decide +kernel
theorem dX11_goFirstOrder_136 : decode cX11_goFirstOrder 136 = .ok (.iload 7, 2) := by decide +kernel
theorem dX11_goFirstOrder_138 : decode cX11_goFirstOrder 138 = .ok (.bipush (-9), 2) := by decide +kernel
theorem dX11_goFirstOrder_140 : decode cX11_goFirstOrder 140 = .ok (.if_icmp .eq 23, 3) := by decide +kernel
theorem dX11_goFirstOrder_143 : decode cX11_goFirstOrder 143 = .ok (.aload_n 0, 1) := by decide +kernel
theorem dX11_goFirstOrder_144 : decode cX11_goFirstOrder 144 = .ok (.getfield 54, 3) := by decide +kernel
theorem dX11_goFirstOrder_147 : decode cX11_goFirstOrder 147 = .ok (.iload 6, 2) := by decide +kernel
theorem dX11_goFirstOrder_149 : decode cX11_goFirstOrder 149 = .ok (.aload_n 0, 1) := by decide +kernel
theorem dX11_goFirstOrder_150 : decode cX11_goFirstOrder 150 = .ok (.getfield 38, 3) := by decide +kernel
theorem dX11_goFirstOrder_153 : decode cX11_goFirstOrder 153 = .ok (.iload 5, 2) := by decide +kernel
theorem dX11_goFirstOrder_155 : decode cX11_goFirstOrder 155 = .ok (.invokevirtual 450, 3) := by decide +kernel
theorem dX11_goFirstOrder_158 : decode cX11_goFirstOrder 158 = .ok (.iload 7, 2) := by decide +kernel
theorem dX11_goFirstOrder_160 : decode cX11_goFirstOrder 160 = .ok (.invokevirtual 292, 3) := by decide +kernel
theorem dX11_goFirstOrder_163 : decode cX11_goFirstOrder 163 = .ok (.iload 7, 2) := by decide +kernel
theorem dX11_goFirstOrder_165 : decode cX11_goFirstOrder 165 = .ok (.bipush (-9), 2) := by decide +kernel
theorem dX11_goFirstOrder_167 : decode cX11_goFirstOrder 167 = .ok (.if_icmp .eq 32, 3) := by decide +kernel
theorem dX11_goFirstOrder_170 : decode cX11_goFirstOrder 170 = .ok (.aload_n 0, 1) := by decide +kernel
theorem dX11_goFirstOrder_171 : decode cX11_goFirstOrder 171 = .ok (.getfield 54, 3) := by decide +kernel
theorem dX11_goFirstOrder_174 : decode cX11_goFirstOrder 174 = .ok (.iload 6, 2) := by decide +kernel
theorem dX11_goFirstOrder_176 : decode cX11_goFirstOrder 176 = .ok (.invokevirtual 230, 3) := by decide +kernel
theorem dX11_goFirstOrder_179 : decode cX11_goFirstOrder 179 = .ok (.bipush (-9), 2) := by decide +kernel
theorem dX11_goFirstOrder_181 : decode cX11_goFirstOrder 181 = .ok (.if_icmp .eq 18, 3) := by decide +kernel
theorem dX11_goFirstOrder_184 : decode cX11_goFirstOrder 184 = .ok (.aload_n 0, 1) := by decide +kernel
theorem dX11_goFirstOrder_185 : decode cX11_goFirstOrder 185 = .ok (.getfield 47, 3) := by decide +kernel
theorem dX11_goFirstOrder_188 : decode cX11_goFirstOrder 188 = .ok (.iload 5, 2) := by decide +kernel
theorem dX11_goFirstOrder_190 : decode cX11_goFirstOrder 190 = .ok (.invokevirtual 441, 3) := by decide +kernel
theorem dX11_goFirstOrder_193 : decode cX11_goFirstOrder 193 = .ok (.ifCond .eq 6, 3) := by decide +kernel
theorem dX11_goFirstOrder_196 : decode cX11_goFirstOrder 196 = .ok (.iload 6, 2) := by decide +kernel
theorem dX11_goFirstOrder_198 : decode cX11_goFirstOrder 198 = .ok (.istore_n 2, 1) := by decide +kernel
theorem dX11_goFirstOrder_199 : decode cX11_goFirstOrder 199 = .ok (.iinc 5 1, 3) := by decide +kernel
theorem dX11_goFirstOrder_202 : decode cX11_goFirstOrder 202 = .ok (.goto (-126), 3) := by decide +kernel
theorem dX11_goFirstOrder_205 : decode cX11_goFirstOrder 205 = .ok (.iinc 3 1, 3) := by decide +kernel
theorem dX11_goFirstOrder_208 : decode cX11_goFirstOrder 208 = .ok (.goto (-148), 3) := by decide +kernel
theorem dX11_goFirstOrder_211 : decode cX11_goFirstOrder 211 = .ok (.iload_n 2, 1) := by decide +kernel
theorem dX11_goFirstOrder_212 : decode cX11_goFirstOrder 212 = .ok (.ifCond .ne 7, 3) := by decide +kernel
theorem dX11_goFirstOrder_215 : decode cX11_goFirstOrder 215 = .ok (.iconst 1, 1) := by decide +kernel
theorem dX11_goFirstOrder_216 : decode cX11_goFirstOrder 216 = .ok (.goto 4, 3) := by decide +kernel
theorem dX11_goFirstOrder_219 : decode cX11_goFirstOrder 219 = .ok (.iconst 0, 1) := by decide +kernel
theorem dX11_goFirstOrder_220 : decode cX11_goFirstOrder 220 = .ok (.ireturn, 1) := by decide +kernel
theorem dX11_tellWay_0 : decode cX11_tellWay 0 = .ok (.aload_n 1, 1) := by decide +kernel
theorem dX11_tellWay_1 : decode cX11_tellWay 1 = .ok (.aload_n 0, 1) := by decide +kernel
theorem dX11_tellWay_2 : decode cX11_tellWay 2 = .ok (.getfield 47, 3) := by decide +kernel
theorem dX11_tellWay_5 : decode cX11_tellWay 5 = .ok (.getfield 218, 3) := by decide +kernel
theorem dX11_tellWay_8 : decode cX11_tellWay 8 = .ok (.iconst 0, 1) := by decide +kernel
theorem dX11_tellWay_9 : decode cX11_tellWay 9 = .ok (.invokevirtual 117, 3) := by decide +kernel
theorem dX11_tellWay_12 : decode cX11_tellWay 12 = .ok (.iconst 0, 1) := by decide +kernel
theorem dX11_tellWay_13 : decode cX11_tellWay 13 = .ok (.istore_n 2, 1) := by decide +kernel
theorem dX11_tellWay_14 : decode cX11_tellWay 14 = .ok (.iload_n 2, 1) := by decide +kernel
theorem dX11_tellWay_15 : decode cX11_tellWay 15 = .ok (.aload_n 0, 1) := by decide +kernel
theorem dX11_tellWay_16 : decode cX11_tellWay 16 = .ok (.getfield 47, 3) := by decide +kernel
theorem dX11_tellWay_19 : decode cX11_tellWay 19 = .ok (.getfield 218, 3) := by decide +kernel
theorem dX11_tellWay_22 : decode cX11_tellWay 22 = .ok (.if_icmp .ge 22, 3) := by decide +kernel
theorem dX11_tellWay_25 : decode cX11_tellWay 25 = .ok (.aload_n 1, 1) := by decide +kernel
theorem dX11_tellWay_26 : decode cX11_tellWay 26 = .ok (.iload_n 2, 1) := by decide +kernel
theorem dX11_tellWay_27 : decode cX11_tellWay 27 = .ok (.aload_n 0, 1) := by decide +kernel
theorem dX11_tellWay_28 : decode cX11_tellWay 28 = .ok (.getfield 47, 3) := by decide +kernel
theorem dX11_tellWay_31 : decode cX11_tellWay 31 = .ok (.iload_n 2, 1) := by decide +kernel
theorem dX11_tellWay_32 : decode cX11_tellWay 32 = .ok (.invokevirtual 451, 3) := by decide +kernel
theorem dX11_tellWay_35 : decode cX11_tellWay 35 = .ok (.invokevirtual 132, 3) := by decide +kernel
theorem dX11_tellWay_38 : decode cX11_tellWay 38 = .ok (.iinc 2 1, 3) := by decide +kernel
theorem dX11_tellWay_41 : decode cX11_tellWay 41 = .ok (.goto (-27), 3) := by decide +kernel
theorem dX11_tellWay_44 : decode cX11_tellWay 44 = .ok (.return_, 1) := by decide +kernel
theorem dX11_reachFromStart_0 : decode cX11_reachFromStart 0 = .ok (.aload_n 0, 1) := by decide +kernel
theorem dX11_reachFromStart_1 : decode cX11_reachFromStart 1 = .ok (.getfield 38, 3) := by decide +kernel
theorem dX11_reachFromStart_4 : decode cX11_reachFromStart 4 = .ok (.aload_n 0, 1) := by decide +kernel
theorem dX11_reachFromStart_5 : decode cX11_reachFromStart 5 = .ok (.getfield 21, 3) := by decide +kernel
theorem dX11_reachFromStart_8 : decode cX11_reachFromStart 8 = .ok (.invokevirtual 259, 3) := by decide +kernel
theorem dX11_reachFromStart_11 : decode cX11_reachFromStart 11 = .ok (.aload_n 0, 1) := by decide +kernel
theorem dX11_reachFromStart_12 : decode cX11_reachFromStart 12 = .ok (.getfield 54, 3) := by decide +kernel
theorem dX11_reachFromStart_15 : decode cX11_reachFromStart 15 = .ok (.iload_n 1, 1) := by decide +kernel
theorem dX11_reachFromStart_16 : decode cX11_reachFromStart 16 = .ok (.aload_n 0, 1) := by decide +kernel
theorem dX11_reachFromStart_17 : decode cX11_reachFromStart 17 = .ok (.getfield 21, 3) := by decide +kernel
theorem dX11_reachFromStart_20 : decode cX11_reachFromStart 20 = .ok (.invokevirtual 263, 3) := by decide +kernel
theorem dX11_reachFromStart_23 : decode cX11_reachFromStart 23 = .ok (.iconst 0, 1) := by decide +kernel
theorem dX11_reachFromStart_24 : decode cX11_reachFromStart 24 = .ok (.invokevirtual 292, 3) := by decide +kernel
theorem dX11_reachFromStart_27 : decode cX11_reachFromStart 27 = .ok (.return_, 1) := by decide +kernel
theorem dX11_agreesWithTracks_0 : decode cX11_agreesWithTracks 0 = .ok (.iconst 0, 1) := by decide +kernel
theorem dX11_agreesWithTracks_1 : decode cX11_agreesWithTracks 1 = .ok (.istore 4, 2) := by decide +kernel
theorem dX11_agreesWithTracks_3 : decode cX11_agreesWithTracks 3 = .ok (.iload 4, 2) := by decide +kernel
theorem dX11_agreesWithTracks_5 : decode cX11_agreesWithTracks 5 = .ok (.iload_n 3, 1) := by decide +kernel
theorem dX11_agreesWithTracks_6 : decode cX11_agreesWithTracks 6 = .ok (.if_icmp .ge 38, 3) := by decide +kernel
theorem dX11_agreesWithTracks_9 : decode cX11_agreesWithTracks 9 = .ok (.aload_n 0, 1) := by decide +kernel
theorem dX11_agreesWithTracks_10 : decode cX11_agreesWithTracks 10 = .ok (.iload_n 1, 1) := by decide +kernel
theorem dX11_agreesWithTracks_11 : decode cX11_agreesWithTracks 11 = .ok (.iload_n 2, 1) := by decide +kernel
theorem dX11_agreesWithTracks_12 : decode cX11_agreesWithTracks 12 = .ok (.aload_n 0, 1) := by decide +kernel
theorem dX11_agreesWithTracks_13 : decode cX11_agreesWithTracks 13 = .ok (.getfield 83, 3) := by decide +kernel
theorem dX11_agreesWithTracks_16 : decode cX11_agreesWithTracks 16 = .ok (.iload 4, 2) := by decide +kernel
theorem dX11_agreesWithTracks_18 : decode cX11_agreesWithTracks 18 = .ok (.invokevirtual 387, 3) := by decide +kernel
theorem dX11_agreesWithTracks_21 : decode cX11_agreesWithTracks 21 = .ok (.aload_n 0, 1) := by decide +kernel
theorem dX11_agreesWithTracks_22 : decode cX11_agreesWithTracks 22 = .ok (.getfield 83, 3) := by decide +kernel
theorem dX11_agreesWithTracks_25 : decode cX11_agreesWithTracks 25 = .ok (.iload 4, 2) := by decide +kernel
theorem dX11_agreesWithTracks_27 : decode cX11_agreesWithTracks 27 = .ok (.invokevirtual 374, 3) := by decide +kernel
theorem dX11_agreesWithTracks_30 : decode cX11_agreesWithTracks 30 = .ok (.invokevirtual 453, 3) := by decide +kernel
theorem dX11_agreesWithTracks_33 : decode cX11_agreesWithTracks 33 = .ok (.ifCond .ne 5, 3) := by decide +kernel
theorem dX11_agreesWithTracks_36 : decode cX11_agreesWithTracks 36 = .ok (.iconst 0, 1) := by decide +kernel
theorem dX11_agreesWithTracks_37 : decode cX11_agreesWithTracks 37 = .ok (.ireturn, 1) := by decide +kernel
theorem dX11_agreesWithTracks_38 : decode cX11_agreesWithTracks 38 = .ok (.iinc 4 1, 3) := by decide +kernel
theorem dX11_agreesWithTracks_41 : decode cX11_agreesWithTracks 41 = .ok (.goto (-38), 3) := by decide +kernel
theorem dX11_agreesWithTracks_44 : decode cX11_agreesWithTracks 44 = .ok (.aload_n 0, 1) := by decide +kernel
theorem dX11_agreesWithTracks_45 : decode cX11_agreesWithTracks 45 = .ok (.getfield 83, 3) := by decide +kernel
theorem dX11_agreesWithTracks_48 : decode cX11_agreesWithTracks 48 = .ok (.iconst 0, 1) := by decide +kernel
theorem dX11_agreesWithTracks_49 : decode cX11_agreesWithTracks 49 = .ok (.invokevirtual 456, 3) := by decide +kernel
theorem dX11_agreesWithTracks_52 : decode cX11_agreesWithTracks 52 = .ok (.ifCond .ne 20, 3) := by decide +kernel
theorem dX11_agreesWithTracks_55 : decode cX11_agreesWithTracks 55 = .ok (.aload_n 0, 1) := by decide +kernel
theorem dX11_agreesWithTracks_56 : decode cX11_agreesWithTracks 56 = .ok (.iload_n 1, 1) := by decide +kernel
theorem dX11_agreesWithTracks_57 : decode cX11_agreesWithTracks 57 = .ok (.iload_n 2, 1) := by decide +kernel
theorem dX11_agreesWithTracks_58 : decode cX11_agreesWithTracks 58 = .ok (.aload_n 0, 1) := by decide +kernel
theorem dX11_agreesWithTracks_59 : decode cX11_agreesWithTracks 59 = .ok (.getfield 21, 3) := by decide +kernel
theorem dX11_agreesWithTracks_62 : decode cX11_agreesWithTracks 62 = .ok (.getfield 197, 3) := by decide +kernel
theorem dX11_agreesWithTracks_65 : decode cX11_agreesWithTracks 65 = .ok (.iconst 0, 1) := by decide +kernel
theorem dX11_agreesWithTracks_66 : decode cX11_agreesWithTracks 66 = .ok (.invokevirtual 453, 3) := by decide +kernel
theorem dX11_agreesWithTracks_69 : decode cX11_agreesWithTracks 69 = .ok (.ifCond .eq 7, 3) := by decide +kernel
theorem dX11_agreesWithTracks_72 : decode cX11_agreesWithTracks 72 = .ok (.iconst 1, 1) := by decide +kernel
theorem dX11_agreesWithTracks_73 : decode cX11_agreesWithTracks 73 = .ok (.goto 4, 3) := by decide +kernel
theorem dX11_agreesWithTracks_76 : decode cX11_agreesWithTracks 76 = .ok (.iconst 0, 1) := by decide +kernel
theorem dX11_agreesWithTracks_77 : decode cX11_agreesWithTracks 77 = .ok (.ireturn, 1) := by decide +kernel
theorem dX11_canGo_0 : decode cX11_canGo 0 = .ok (.iload_n 1, 1) := by decide +kernel
theorem dX11_canGo_1 : decode cX11_canGo 1 = .ok (.iload_n 3, 1) := by decide +kernel
theorem dX11_canGo_2 : decode cX11_canGo 2 = .ok (.if_icmp .eq 26, 3) := by decide +kernel
theorem dX11_canGo_5 : decode cX11_canGo 5 = .ok (.iload_n 2, 1) := by decide +kernel
theorem dX11_canGo_6 : decode cX11_canGo 6 = .ok (.iload 4, 2) := by decide +kernel
theorem dX11_canGo_8 : decode cX11_canGo 8 = .ok (.isub, 1) := by decide +kernel
theorem dX11_canGo_9 : decode cX11_canGo 9 = .ok (.invokestatic 459, 3) := by decide +kernel
theorem dX11_canGo_12 : decode cX11_canGo 12 = .ok (.iconst 1, 1) := by decide +kernel
theorem dX11_canGo_13 : decode cX11_canGo 13 = .ok (.aload_n 0, 1) := by decide +kernel
theorem dX11_canGo_14 : decode cX11_canGo 14 = .ok (.getfield 21, 3) := by decide +kernel
theorem dX11_canGo_17 : decode cX11_canGo 17 = .ok (.iload_n 1, 1) := by decide +kernel
theorem dX11_canGo_18 : decode cX11_canGo 18 = .ok (.iload_n 3, 1) := by decide +kernel
theorem dX11_canGo_19 : decode cX11_canGo 19 = .ok (.invokevirtual 200, 3) := by decide +kernel
theorem dX11_canGo_22 : decode cX11_canGo 22 = .ok (.invokestatic 239, 3) := by decide +kernel
theorem dX11_canGo_25 : decode cX11_canGo 25 = .ok (.if_icmp .lt 7, 3) := by decide +kernel
theorem dX11_canGo_28 : decode cX11_canGo 28 = .ok (.iconst 1, 1) := by decide +kernel
theorem dX11_canGo_29 : decode cX11_canGo 29 = .ok (.goto 4, 3) := by decide +kernel
theorem dX11_canGo_32 : decode cX11_canGo 32 = .ok (.iconst 0, 1) := by decide +kernel
theorem dX11_canGo_33 : decode cX11_canGo 33 = .ok (.ireturn, 1) := by decide +kernel
theorem dX11_numberThere_0 : decode cX11_numberThere 0 = .ok (.iconst 0, 1) := by decide +kernel
theorem dX11_numberThere_1 : decode cX11_numberThere 1 = .ok (.istore_n 1, 1) := by decide +kernel
theorem dX11_numberThere_2 : decode cX11_numberThere 2 = .ok (.aload_n 0, 1) := by decide +kernel
theorem dX11_numberThere_3 : decode cX11_numberThere 3 = .ok (.astore_n 2, 1) := by decide +kernel
theorem dX11_numberThere_4 : decode cX11_numberThere 4 = .ok (.aload_n 2, 1) := by decide +kernel
theorem dX11_numberThere_5 : decode cX11_numberThere 5 = .ok (.arraylength, 1) := by decide +kernel
theorem dX11_numberThere_6 : decode cX11_numberThere 6 = .ok (.istore_n 3, 1) := by decide +kernel
theorem dX11_numberThere_7 : decode cX11_numberThere 7 = .ok (.iconst 0, 1) := by decide +kernel
theorem dX11_numberThere_8 : decode cX11_numberThere 8 = .ok (.istore 4, 2) := by decide +kernel
theorem dX11_numberThere_10 : decode cX11_numberThere 10 = .ok (.iload 4, 2) := by decide +kernel
theorem dX11_numberThere_12 : decode cX11_numberThere 12 = .ok (.iload_n 3, 1) := by decide +kernel
theorem dX11_numberThere_13 : decode cX11_numberThere 13 = .ok (.if_icmp .ge 31, 3) := by decide +kernel
theorem dX11_numberThere_16 : decode cX11_numberThere 16 = .ok (.aload_n 2, 1) := by decide +kernel
theorem dX11_numberThere_17 : decode cX11_numberThere 17 = .ok (.iload 4, 2) := by decide +kernel
theorem dX11_numberThere_19 : decode cX11_numberThere 19 = .ok (.aaload, 1) := by decide +kernel
theorem dX11_numberThere_20 : decode cX11_numberThere 20 = .ok (.astore 5, 2) := by decide +kernel
theorem dX11_numberThere_22 : decode cX11_numberThere 22 = .ok (.aload 5, 2) := by decide +kernel
theorem dX11_numberThere_24 : decode cX11_numberThere 24 = .ok (.ifnull 14, 3) := by decide +kernel
theorem dX11_numberThere_27 : decode cX11_numberThere 27 = .ok (.aload 5, 2) := by decide +kernel
theorem dX11_numberThere_29 : decode cX11_numberThere 29 = .ok (.invokevirtual 121, 3) := by decide +kernel
theorem dX11_numberThere_32 : decode cX11_numberThere 32 = .ok (.ifCond .ne 6, 3) := by decide +kernel
theorem dX11_numberThere_35 : decode cX11_numberThere 35 = .ok (.iinc 1 1, 3) := by decide +kernel
theorem dX11_numberThere_38 : decode cX11_numberThere 38 = .ok (.iinc 4 1, 3) := by decide +kernel
theorem dX11_numberThere_41 : decode cX11_numberThere 41 = .ok (.goto (-31), 3) := by decide +kernel
theorem dX11_numberThere_44 : decode cX11_numberThere 44 = .ok (.iload_n 1, 1) := by decide +kernel
theorem dX11_numberThere_45 : decode cX11_numberThere 45 = .ok (.ireturn, 1) := by decide +kernel
theorem dX11_mix_0 : decode cX11_mix 0 = .ok (.ldc2_w 462, 3) := by decide +kernel
theorem dX11_mix_3 : decode cX11_mix 3 = .ok (.lload_n 0, 1) := by decide +kernel
theorem dX11_mix_4 : decode cX11_mix 4 = .ok (.lmul, 1) := by decide +kernel
theorem dX11_mix_5 : decode cX11_mix 5 = .ok (.lload_n 2, 1) := by decide +kernel
theorem dX11_mix_6 : decode cX11_mix 6 = .ok (.ladd, 1) := by decide +kernel
theorem dX11_mix_7 : decode cX11_mix 7 = .ok (.lreturn, 1) := by decide +kernel
theorem dX11_mixHouses_0 : decode cX11_mixHouses 0 = .ok (.lload_n 1, 1) := by decide +kernel
theorem dX11_mixHouses_1 : decode cX11_mixHouses 1 = .ok (.lstore_n 3, 1) := by decide +kernel
theorem dX11_mixHouses_2 : decode cX11_mixHouses 2 = .ok (.iconst 0, 1) := by decide +kernel
theorem dX11_mixHouses_3 : decode cX11_mixHouses 3 = .ok (.istore 5, 2) := by decide +kernel
theorem dX11_mixHouses_5 : decode cX11_mixHouses 5 = .ok (.iload 5, 2) := by decide +kernel
theorem dX11_mixHouses_7 : decode cX11_mixHouses 7 = .ok (.aload_n 0, 1) := by decide +kernel
theorem dX11_mixHouses_8 : decode cX11_mixHouses 8 = .ok (.getfield 21, 3) := by decide +kernel
theorem dX11_mixHouses_11 : decode cX11_mixHouses 11 = .ok (.getfield 167, 3) := by decide +kernel
theorem dX11_mixHouses_14 : decode cX11_mixHouses 14 = .ok (.if_icmp .ge 84, 3) := by decide +kernel
theorem dX11_mixHouses_17 : decode cX11_mixHouses 17 = .ok (.lload_n 3, 1) := by decide +kernel
theorem dX11_mixHouses_18 : decode cX11_mixHouses 18 = .ok (.aload_n 0, 1) := by decide +kernel
theorem dX11_mixHouses_19 : decode cX11_mixHouses 19 = .ok (.getfield 21, 3) := by decide +kernel
theorem dX11_mixHouses_22 : decode cX11_mixHouses 22 = .ok (.iload 5, 2) := by decide +kernel
theorem dX11_mixHouses_24 : decode cX11_mixHouses 24 = .ok (.invokevirtual 176, 3) := by decide +kernel
theorem dX11_mixHouses_27 : decode cX11_mixHouses 27 = .ok (.i2l, 1) := by decide +kernel
theorem dX11_mixHouses_28 : decode cX11_mixHouses 28 = .ok (.invokestatic 413, 3) := by decide +kernel
theorem dX11_mixHouses_31 : decode cX11_mixHouses 31 = .ok (.lstore_n 3, 1) := by decide +kernel
theorem dX11_mixHouses_32 : decode cX11_mixHouses 32 = .ok (.lload_n 3, 1) := by decide +kernel
theorem dX11_mixHouses_33 : decode cX11_mixHouses 33 = .ok (.aload_n 0, 1) := by decide +kernel
theorem dX11_mixHouses_34 : decode cX11_mixHouses 34 = .ok (.getfield 70, 3) := by decide +kernel
theorem dX11_mixHouses_37 : decode cX11_mixHouses 37 = .ok (.iload 5, 2) := by decide +kernel
theorem dX11_mixHouses_39 : decode cX11_mixHouses 39 = .ok (.invokevirtual 173, 3) := by decide +kernel
theorem dX11_mixHouses_42 : decode cX11_mixHouses 42 = .ok (.i2l, 1) := by decide +kernel
theorem dX11_mixHouses_43 : decode cX11_mixHouses 43 = .ok (.invokestatic 413, 3) := by decide +kernel
theorem dX11_mixHouses_46 : decode cX11_mixHouses 46 = .ok (.lstore_n 3, 1) := by decide +kernel
theorem dX11_mixHouses_47 : decode cX11_mixHouses 47 = .ok (.iconst 0, 1) := by decide +kernel
theorem dX11_mixHouses_48 : decode cX11_mixHouses 48 = .ok (.istore 6, 2) := by decide +kernel
theorem dX11_mixHouses_50 : decode cX11_mixHouses 50 = .ok (.iload 6, 2) := by decide +kernel
theorem dX11_mixHouses_52 : decode cX11_mixHouses 52 = .ok (.aload_n 0, 1) := by decide +kernel
theorem dX11_mixHouses_53 : decode cX11_mixHouses 53 = .ok (.getfield 21, 3) := by decide +kernel
theorem dX11_mixHouses_56 : decode cX11_mixHouses 56 = .ok (.getfield 167, 3) := by decide +kernel
theorem dX11_mixHouses_59 : decode cX11_mixHouses 59 = .ok (.if_icmp .ge 33, 3) := by decide +kernel
theorem dX11_mixHouses_62 : decode cX11_mixHouses 62 = .ok (.iload 6, 2) := by decide +kernel
theorem dX11_mixHouses_64 : decode cX11_mixHouses 64 = .ok (.iload 5, 2) := by decide +kernel
theorem dX11_mixHouses_66 : decode cX11_mixHouses 66 = .ok (.if_icmp .eq 20, 3) := by decide +kernel
theorem dX11_mixHouses_69 : decode cX11_mixHouses 69 = .ok (.lload_n 3, 1) := by decide +kernel
theorem dX11_mixHouses_70 : decode cX11_mixHouses 70 = .ok (.aload_n 0, 1) := by decide +kernel
theorem dX11_mixHouses_71 : decode cX11_mixHouses 71 = .ok (.getfield 70, 3) := by decide +kernel
theorem dX11_mixHouses_74 : decode cX11_mixHouses 74 = .ok (.iload 5, 2) := by decide +kernel
theorem dX11_mixHouses_76 : decode cX11_mixHouses 76 = .ok (.iload 6, 2) := by decide +kernel
theorem dX11_mixHouses_78 : decode cX11_mixHouses 78 = .ok (.invokevirtual 360, 3) := by decide +kernel
theorem dX11_mixHouses_81 : decode cX11_mixHouses 81 = .ok (.i2l, 1) := by decide +kernel
theorem dX11_mixHouses_82 : decode cX11_mixHouses 82 = .ok (.invokestatic 413, 3) := by decide +kernel
theorem dX11_mixHouses_85 : decode cX11_mixHouses 85 = .ok (.lstore_n 3, 1) := by decide +kernel
theorem dX11_mixHouses_86 : decode cX11_mixHouses 86 = .ok (.iinc 6 1, 3) := by decide +kernel
theorem dX11_mixHouses_89 : decode cX11_mixHouses 89 = .ok (.goto (-39), 3) := by decide +kernel
theorem dX11_mixHouses_92 : decode cX11_mixHouses 92 = .ok (.iinc 5 1, 3) := by decide +kernel
theorem dX11_mixHouses_95 : decode cX11_mixHouses 95 = .ok (.goto (-90), 3) := by decide +kernel
theorem dX11_mixHouses_98 : decode cX11_mixHouses 98 = .ok (.lload_n 3, 1) := by decide +kernel
theorem dX11_mixHouses_99 : decode cX11_mixHouses 99 = .ok (.lreturn, 1) := by decide +kernel
theorem dX11_mixNeeds_0 : decode cX11_mixNeeds 0 = .ok (.lload_n 1, 1) := by decide +kernel
theorem dX11_mixNeeds_1 : decode cX11_mixNeeds 1 = .ok (.lstore_n 3, 1) := by decide +kernel
theorem dX11_mixNeeds_2 : decode cX11_mixNeeds 2 = .ok (.iconst 0, 1) := by decide +kernel
theorem dX11_mixNeeds_3 : decode cX11_mixNeeds 3 = .ok (.istore 5, 2) := by decide +kernel
theorem dX11_mixNeeds_5 : decode cX11_mixNeeds 5 = .ok (.iload 5, 2) := by decide +kernel
theorem dX11_mixNeeds_7 : decode cX11_mixNeeds 7 = .ok (.aload_n 0, 1) := by decide +kernel
theorem dX11_mixNeeds_8 : decode cX11_mixNeeds 8 = .ok (.getfield 21, 3) := by decide +kernel
theorem dX11_mixNeeds_11 : decode cX11_mixNeeds 11 = .ok (.getfield 396, 3) := by decide +kernel
theorem dX11_mixNeeds_14 : decode cX11_mixNeeds 14 = .ok (.if_icmp .ge 59, 3) := by decide +kernel
theorem dX11_mixNeeds_17 : decode cX11_mixNeeds 17 = .ok (.aload_n 0, 1) := by decide +kernel
theorem dX11_mixNeeds_18 : decode cX11_mixNeeds 18 = .ok (.getfield 21, 3) := by decide +kernel
theorem dX11_mixNeeds_21 : decode cX11_mixNeeds 21 = .ok (.iload 5, 2) := by decide +kernel
theorem dX11_mixNeeds_23 : decode cX11_mixNeeds 23 = .ok (.invokevirtual 182, 3) := by decide +kernel
theorem dX11_mixNeeds_26 : decode cX11_mixNeeds 26 = .ok (.astore 6, 2) := by decide +kernel
theorem dX11_mixNeeds_28 : decode cX11_mixNeeds 28 = .ok (.iconst 0, 1) := by decide +kernel
theorem dX11_mixNeeds_29 : decode cX11_mixNeeds 29 = .ok (.istore 7, 2) := by decide +kernel
theorem dX11_mixNeeds_31 : decode cX11_mixNeeds 31 = .ok (.iload 7, 2) := by decide +kernel
theorem dX11_mixNeeds_33 : decode cX11_mixNeeds 33 = .ok (.iconst 5, 1) := by decide +kernel
theorem dX11_mixNeeds_34 : decode cX11_mixNeeds 34 = .ok (.if_icmp .gt 22, 3) := by decide +kernel
theorem dX11_mixNeeds_37 : decode cX11_mixNeeds 37 = .ok (.lload_n 3, 1) := by decide +kernel
theorem dX11_mixNeeds_38 : decode cX11_mixNeeds 38 = .ok (.aload 6, 2) := by decide +kernel
theorem dX11_mixNeeds_40 : decode cX11_mixNeeds 40 = .ok (.iload 7, 2) := by decide +kernel
theorem dX11_mixNeeds_42 : decode cX11_mixNeeds 42 = .ok (.invokevirtual 186, 3) := by decide +kernel
theorem dX11_mixNeeds_45 : decode cX11_mixNeeds 45 = .ok (.i2l, 1) := by decide +kernel
theorem dX11_mixNeeds_46 : decode cX11_mixNeeds 46 = .ok (.invokestatic 413, 3) := by decide +kernel
theorem dX11_mixNeeds_49 : decode cX11_mixNeeds 49 = .ok (.lstore_n 3, 1) := by decide +kernel
theorem dX11_mixNeeds_50 : decode cX11_mixNeeds 50 = .ok (.iinc 7 1, 3) := by decide +kernel
theorem dX11_mixNeeds_53 : decode cX11_mixNeeds 53 = .ok (.goto (-22), 3) := by decide +kernel
theorem dX11_mixNeeds_56 : decode cX11_mixNeeds 56 = .ok (.lload_n 3, 1) := by decide +kernel
theorem dX11_mixNeeds_57 : decode cX11_mixNeeds 57 = .ok (.aload 6, 2) := by decide +kernel
theorem dX11_mixNeeds_59 : decode cX11_mixNeeds 59 = .ok (.getfield 204, 3) := by decide +kernel
theorem dX11_mixNeeds_62 : decode cX11_mixNeeds 62 = .ok (.i2l, 1) := by decide +kernel
theorem dX11_mixNeeds_63 : decode cX11_mixNeeds 63 = .ok (.invokestatic 413, 3) := by decide +kernel
theorem dX11_mixNeeds_66 : decode cX11_mixNeeds 66 = .ok (.lstore_n 3, 1) := by decide +kernel
theorem dX11_mixNeeds_67 : decode cX11_mixNeeds 67 = .ok (.iinc 5 1, 3) := by decide +kernel
theorem dX11_mixNeeds_70 : decode cX11_mixNeeds 70 = .ok (.goto (-65), 3) := by decide +kernel
theorem dX11_mixNeeds_73 : decode cX11_mixNeeds 73 = .ok (.lload_n 3, 1) := by decide +kernel
theorem dX11_mixNeeds_74 : decode cX11_mixNeeds 74 = .ok (.lreturn, 1) := by decide +kernel
theorem dX11_mixPairs_0 : decode cX11_mixPairs 0 = .ok (.lload_n 0, 1) := by decide +kernel
theorem dX11_mixPairs_1 : decode cX11_mixPairs 1 = .ok (.lstore_n 3, 1) := by decide +kernel
theorem dX11_mixPairs_2 : decode cX11_mixPairs 2 = .ok (.iconst 0, 1) := by decide +kernel
theorem dX11_mixPairs_3 : decode cX11_mixPairs 3 = .ok (.istore 5, 2) := by decide +kernel
theorem dX11_mixPairs_5 : decode cX11_mixPairs 5 = .ok (.iload 5, 2) := by decide +kernel
theorem dX11_mixPairs_7 : decode cX11_mixPairs 7 = .ok (.aload_n 2, 1) := by decide +kernel
theorem dX11_mixPairs_8 : decode cX11_mixPairs 8 = .ok (.getfield 370, 3) := by decide +kernel
theorem dX11_mixPairs_11 : decode cX11_mixPairs 11 = .ok (.if_icmp .ge 33, 3) := by decide +kernel
theorem dX11_mixPairs_14 : decode cX11_mixPairs 14 = .ok (.lload_n 3, 1) := by decide +kernel
theorem dX11_mixPairs_15 : decode cX11_mixPairs 15 = .ok (.aload_n 2, 1) := by decide +kernel
theorem dX11_mixPairs_16 : decode cX11_mixPairs 16 = .ok (.iload 5, 2) := by decide +kernel
theorem dX11_mixPairs_18 : decode cX11_mixPairs 18 = .ok (.invokevirtual 387, 3) := by decide +kernel
theorem dX11_mixPairs_21 : decode cX11_mixPairs 21 = .ok (.i2l, 1) := by decide +kernel
theorem dX11_mixPairs_22 : decode cX11_mixPairs 22 = .ok (.invokestatic 413, 3) := by decide +kernel
theorem dX11_mixPairs_25 : decode cX11_mixPairs 25 = .ok (.lstore_n 3, 1) := by decide +kernel
theorem dX11_mixPairs_26 : decode cX11_mixPairs 26 = .ok (.lload_n 3, 1) := by decide +kernel
theorem dX11_mixPairs_27 : decode cX11_mixPairs 27 = .ok (.aload_n 2, 1) := by decide +kernel
theorem dX11_mixPairs_28 : decode cX11_mixPairs 28 = .ok (.iload 5, 2) := by decide +kernel
theorem dX11_mixPairs_30 : decode cX11_mixPairs 30 = .ok (.invokevirtual 374, 3) := by decide +kernel
theorem dX11_mixPairs_33 : decode cX11_mixPairs 33 = .ok (.i2l, 1) := by decide +kernel
theorem dX11_mixPairs_34 : decode cX11_mixPairs 34 = .ok (.invokestatic 413, 3) := by decide +kernel
theorem dX11_mixPairs_37 : decode cX11_mixPairs 37 = .ok (.lstore_n 3, 1) := by decide +kernel
theorem dX11_mixPairs_38 : decode cX11_mixPairs 38 = .ok (.iinc 5 1, 3) := by decide +kernel
theorem dX11_mixPairs_41 : decode cX11_mixPairs 41 = .ok (.goto (-36), 3) := by decide +kernel
theorem dX11_mixPairs_44 : decode cX11_mixPairs 44 = .ok (.lload_n 3, 1) := by decide +kernel
theorem dX11_mixPairs_45 : decode cX11_mixPairs 45 = .ok (.lreturn, 1) := by decide +kernel
theorem dX11_mixRows_0 : decode cX11_mixRows 0 = .ok (.lload_n 0, 1) := by decide +kernel
theorem dX11_mixRows_1 : decode cX11_mixRows 1 = .ok (.lstore_n 3, 1) := by decide +kernel
theorem dX11_mixRows_2 : decode cX11_mixRows 2 = .ok (.aload_n 2, 1) := by decide +kernel
theorem dX11_mixRows_3 : decode cX11_mixRows 3 = .ok (.astore 5, 2) := by decide +kernel
theorem dX11_mixRows_5 : decode cX11_mixRows 5 = .ok (.aload 5, 2) := by decide +kernel
theorem dX11_mixRows_7 : decode cX11_mixRows 7 = .ok (.arraylength, 1) := by decide +kernel
theorem dX11_mixRows_8 : decode cX11_mixRows 8 = .ok (.istore 6, 2) := by decide +kernel
theorem dX11_mixRows_10 : decode cX11_mixRows 10 = .ok (.iconst 0, 1) := by decide +kernel
theorem dX11_mixRows_11 : decode cX11_mixRows 11 = .ok (.istore 7, 2) := by decide +kernel
theorem dX11_mixRows_13 : decode cX11_mixRows 13 = .ok (.iload 7, 2) := by decide +kernel
theorem dX11_mixRows_15 : decode cX11_mixRows 15 = .ok (.iload 6, 2) := by decide +kernel
theorem dX11_mixRows_17 : decode cX11_mixRows 17 = .ok (.if_icmp .ge 64, 3) := by decide +kernel
theorem dX11_mixRows_20 : decode cX11_mixRows 20 = .ok (.aload 5, 2) := by decide +kernel
theorem dX11_mixRows_22 : decode cX11_mixRows 22 = .ok (.iload 7, 2) := by decide +kernel
theorem dX11_mixRows_24 : decode cX11_mixRows 24 = .ok (.aaload, 1) := by decide +kernel
theorem dX11_mixRows_25 : decode cX11_mixRows 25 = .ok (.astore 8, 2) := by decide +kernel
theorem dX11_mixRows_27 : decode cX11_mixRows 27 = .ok (.aload 8, 2) := by decide +kernel
theorem dX11_mixRows_29 : decode cX11_mixRows 29 = .ok (.ifnull 46, 3) := by decide +kernel
theorem dX11_mixRows_32 : decode cX11_mixRows 32 = .ok (.lload_n 3, 1) := by decide +kernel
theorem dX11_mixRows_33 : decode cX11_mixRows 33 = .ok (.aload 8, 2) := by decide +kernel
theorem dX11_mixRows_35 : decode cX11_mixRows 35 = .ok (.invokevirtual 146, 3) := by decide +kernel
theorem dX11_mixRows_38 : decode cX11_mixRows 38 = .ok (.i2l, 1) := by decide +kernel
theorem dX11_mixRows_39 : decode cX11_mixRows 39 = .ok (.invokestatic 413, 3) := by decide +kernel
theorem dX11_mixRows_42 : decode cX11_mixRows 42 = .ok (.lstore_n 3, 1) := by decide +kernel
theorem dX11_mixRows_43 : decode cX11_mixRows 43 = .ok (.iconst 0, 1) := by decide +kernel
theorem dX11_mixRows_44 : decode cX11_mixRows 44 = .ok (.istore 9, 2) := by decide +kernel
theorem dX11_mixRows_46 : decode cX11_mixRows 46 = .ok (.iload 9, 2) := by decide +kernel
theorem dX11_mixRows_48 : decode cX11_mixRows 48 = .ok (.aload 8, 2) := by decide +kernel
theorem dX11_mixRows_50 : decode cX11_mixRows 50 = .ok (.invokevirtual 146, 3) := by decide +kernel
theorem dX11_mixRows_53 : decode cX11_mixRows 53 = .ok (.if_icmp .ge 22, 3) := by decide +kernel
theorem dX11_mixRows_56 : decode cX11_mixRows 56 = .ok (.lload_n 3, 1) := by decide +kernel
theorem dX11_mixRows_57 : decode cX11_mixRows 57 = .ok (.aload 8, 2) := by decide +kernel
theorem dX11_mixRows_59 : decode cX11_mixRows 59 = .ok (.iload 9, 2) := by decide +kernel
theorem dX11_mixRows_61 : decode cX11_mixRows 61 = .ok (.invokevirtual 129, 3) := by decide +kernel
theorem dX11_mixRows_64 : decode cX11_mixRows 64 = .ok (.i2l, 1) := by decide +kernel
theorem dX11_mixRows_65 : decode cX11_mixRows 65 = .ok (.invokestatic 413, 3) := by decide +kernel
theorem dX11_mixRows_68 : decode cX11_mixRows 68 = .ok (.lstore_n 3, 1) := by decide +kernel
theorem dX11_mixRows_69 : decode cX11_mixRows 69 = .ok (.iinc 9 1, 3) := by decide +kernel
theorem dX11_mixRows_72 : decode cX11_mixRows 72 = .ok (.goto (-26), 3) := by decide +kernel
theorem dX11_mixRows_75 : decode cX11_mixRows 75 = .ok (.iinc 7 1, 3) := by decide +kernel
theorem dX11_mixRows_78 : decode cX11_mixRows 78 = .ok (.goto (-65), 3) := by decide +kernel
theorem dX11_mixRows_81 : decode cX11_mixRows 81 = .ok (.lload_n 3, 1) := by decide +kernel
theorem dX11_mixRows_82 : decode cX11_mixRows 82 = .ok (.lreturn, 1) := by decide +kernel
theorem dL_cell_0 : decode cL_cell 0 = .ok (.iload_n 1, 1) := by decide +kernel
theorem dL_cell_1 : decode cL_cell 1 = .ok (.aload_n 0, 1) := by decide +kernel
theorem dL_cell_2 : decode cL_cell 2 = .ok (.arraylength, 1) := by decide +kernel
theorem dL_cell_3 : decode cL_cell 3 = .ok (.if_icmp .ge 12, 3) := by decide +kernel
theorem dL_cell_6 : decode cL_cell 6 = .ok (.aload_n 0, 1) := by decide +kernel
theorem dL_cell_7 : decode cL_cell 7 = .ok (.iload_n 1, 1) := by decide +kernel
theorem dL_cell_8 : decode cL_cell 8 = .ok (.iaload, 1) := by decide +kernel
theorem dL_cell_9 : decode cL_cell 9 = .ok (.ldc 7, 2) := by decide +kernel
theorem dL_cell_11 : decode cL_cell 11 = .ok (.iand, 1) := by decide +kernel
theorem dL_cell_12 : decode cL_cell 12 = .ok (.goto 14, 3) := by decide +kernel
theorem dL_cell_15 : decode cL_cell 15 = .ok (.bipush 61, 2) := by decide +kernel
theorem dL_cell_17 : decode cL_cell 17 = .ok (.iload_n 1, 1) := by decide +kernel
theorem dL_cell_18 : decode cL_cell 18 = .ok (.imul, 1) := by decide +kernel
theorem dL_cell_19 : decode cL_cell 19 = .ok (.bipush 7, 2) := by decide +kernel
theorem dL_cell_21 : decode cL_cell 21 = .ok (.iadd, 1) := by decide +kernel
theorem dL_cell_22 : decode cL_cell 22 = .ok (.iload_n 1, 1) := by decide +kernel
theorem dL_cell_23 : decode cL_cell 23 = .ok (.iconst 3, 1) := by decide +kernel
theorem dL_cell_24 : decode cL_cell 24 = .ok (.iadd, 1) := by decide +kernel
theorem dL_cell_25 : decode cL_cell 25 = .ok (.imul, 1) := by decide +kernel
theorem dL_cell_26 : decode cL_cell 26 = .ok (.ireturn, 1) := by decide +kernel
theorem dL_put_0 : decode cL_put 0 = .ok (.iload_n 1, 1) := by decide +kernel
theorem dL_put_1 : decode cL_put 1 = .ok (.ifCond .lt 22, 3) := by decide +kernel
theorem dL_put_4 : decode cL_put 4 = .ok (.aload_n 0, 1) := by decide +kernel
theorem dL_put_5 : decode cL_put 5 = .ok (.iconst 3, 1) := by decide +kernel
theorem dL_put_6 : decode cL_put 6 = .ok (.iload_n 1, 1) := by decide +kernel
theorem dL_put_7 : decode cL_put 7 = .ok (.iload_n 2, 1) := by decide +kernel
theorem dL_put_8 : decode cL_put 8 = .ok (.invokevirtual 8, 3) := by decide +kernel
theorem dL_put_11 : decode cL_put 11 = .ok (.sipush 1032, 3) := by decide +kernel
theorem dL_put_14 : decode cL_put 14 = .ok (.if_icmp .ne 9, 3) := by decide +kernel
theorem dL_put_17 : decode cL_put 17 = .ok (.iload_n 1, 1) := by decide +kernel
theorem dL_put_18 : decode cL_put 18 = .ok (.iconst 1, 1) := by decide +kernel
theorem dL_put_19 : decode cL_put 19 = .ok (.iadd, 1) := by decide +kernel
theorem dL_put_20 : decode cL_put 20 = .ok (.goto 6, 3) := by decide +kernel
theorem dL_put_23 : decode cL_put 23 = .ok (.sipush (-1000), 3) := by decide +kernel
theorem dL_put_26 : decode cL_put 26 = .ok (.ireturn, 1) := by decide +kernel
theorem dL_number_0 : decode cL_number 0 = .ok (.iload_n 2, 1) := by decide +kernel
theorem dL_number_1 : decode cL_number 1 = .ok (.bipush 10, 2) := by decide +kernel
theorem dL_number_3 : decode cL_number 3 = .ok (.if_icmp .ge 15, 3) := by decide +kernel
theorem dL_number_6 : decode cL_number 6 = .ok (.aload_n 0, 1) := by decide +kernel
theorem dL_number_7 : decode cL_number 7 = .ok (.iload_n 1, 1) := by decide +kernel
theorem dL_number_8 : decode cL_number 8 = .ok (.bipush 48, 2) := by decide +kernel
theorem dL_number_10 : decode cL_number 10 = .ok (.iload_n 2, 1) := by decide +kernel
theorem dL_number_11 : decode cL_number 11 = .ok (.iadd, 1) := by decide +kernel
theorem dL_number_12 : decode cL_number 12 = .ok (.invokestatic 14, 3) := by decide +kernel
theorem dL_number_15 : decode cL_number 15 = .ok (.goto 26, 3) := by decide +kernel
theorem dL_number_18 : decode cL_number 18 = .ok (.aload_n 0, 1) := by decide +kernel
theorem dL_number_19 : decode cL_number 19 = .ok (.aload_n 0, 1) := by decide +kernel
theorem dL_number_20 : decode cL_number 20 = .ok (.iload_n 1, 1) := by decide +kernel
theorem dL_number_21 : decode cL_number 21 = .ok (.bipush 48, 2) := by decide +kernel
theorem dL_number_23 : decode cL_number 23 = .ok (.iload_n 2, 1) := by decide +kernel
theorem dL_number_24 : decode cL_number 24 = .ok (.bipush 10, 2) := by decide +kernel
theorem dL_number_26 : decode cL_number 26 = .ok (.idiv, 1) := by decide +kernel
theorem dL_number_27 : decode cL_number 27 = .ok (.iadd, 1) := by decide +kernel
theorem dL_number_28 : decode cL_number 28 = .ok (.invokestatic 14, 3) := by decide +kernel
theorem dL_number_31 : decode cL_number 31 = .ok (.bipush 48, 2) := by decide +kernel
theorem dL_number_33 : decode cL_number 33 = .ok (.iload_n 2, 1) := by decide +kernel
theorem dL_number_34 : decode cL_number 34 = .ok (.bipush 10, 2) := by decide +kernel
theorem dL_number_36 : decode cL_number 36 = .ok (.irem, 1) := by decide +kernel
theorem dL_number_37 : decode cL_number 37 = .ok (.iadd, 1) := by decide +kernel
theorem dL_number_38 : decode cL_number 38 = .ok (.invokestatic 14, 3) := by decide +kernel
theorem dL_number_41 : decode cL_number 41 = .ok (.ireturn, 1) := by decide +kernel
theorem dL_numbers_0 : decode cL_numbers 0 = .ok (.aload 4, 2) := by decide +kernel
theorem dL_numbers_2 : decode cL_numbers 2 = .ok (.iconst 0, 1) := by decide +kernel
theorem dL_numbers_3 : decode cL_numbers 3 = .ok (.iconst 1, 1) := by decide +kernel
theorem dL_numbers_4 : decode cL_numbers 4 = .ok (.aload_n 0, 1) := by decide +kernel
theorem dL_numbers_5 : decode cL_numbers 5 = .ok (.iload_n 1, 1) := by decide +kernel
theorem dL_numbers_6 : decode cL_numbers 6 = .ok (.invokestatic 19, 3) := by decide +kernel
theorem dL_numbers_9 : decode cL_numbers 9 = .ok (.iload_n 2, 1) := by decide +kernel
theorem dL_numbers_10 : decode cL_numbers 10 = .ok (.irem, 1) := by decide +kernel
theorem dL_numbers_11 : decode cL_numbers 11 = .ok (.iadd, 1) := by decide +kernel
theorem dL_numbers_12 : decode cL_numbers 12 = .ok (.iastore, 1) := by decide +kernel
theorem dL_numbers_13 : decode cL_numbers 13 = .ok (.iconst 0, 1) := by decide +kernel
theorem dL_numbers_14 : decode cL_numbers 14 = .ok (.istore 5, 2) := by decide +kernel
theorem dL_numbers_16 : decode cL_numbers 16 = .ok (.iload 5, 2) := by decide +kernel
theorem dL_numbers_18 : decode cL_numbers 18 = .ok (.aload 4, 2) := by decide +kernel
theorem dL_numbers_20 : decode cL_numbers 20 = .ok (.iconst 0, 1) := by decide +kernel
theorem dL_numbers_21 : decode cL_numbers 21 = .ok (.iaload, 1) := by decide +kernel
theorem dL_numbers_22 : decode cL_numbers 22 = .ok (.if_icmp .ge 29, 3) := by decide +kernel
theorem dL_numbers_25 : decode cL_numbers 25 = .ok (.aload 4, 2) := by decide +kernel
theorem dL_numbers_27 : decode cL_numbers 27 = .ok (.iconst 1, 1) := by decide +kernel
theorem dL_numbers_28 : decode cL_numbers 28 = .ok (.iload 5, 2) := by decide +kernel
theorem dL_numbers_30 : decode cL_numbers 30 = .ok (.iadd, 1) := by decide +kernel
theorem dL_numbers_31 : decode cL_numbers 31 = .ok (.aload_n 0, 1) := by decide +kernel
theorem dL_numbers_32 : decode cL_numbers 32 = .ok (.iload_n 1, 1) := by decide +kernel
theorem dL_numbers_33 : decode cL_numbers 33 = .ok (.iconst 1, 1) := by decide +kernel
theorem dL_numbers_34 : decode cL_numbers 34 = .ok (.iadd, 1) := by decide +kernel
theorem dL_numbers_35 : decode cL_numbers 35 = .ok (.iload 5, 2) := by decide +kernel
theorem dL_numbers_37 : decode cL_numbers 37 = .ok (.iadd, 1) := by decide +kernel
theorem dL_numbers_38 : decode cL_numbers 38 = .ok (.invokestatic 19, 3) := by decide +kernel
theorem dL_numbers_41 : decode cL_numbers 41 = .ok (.bipush 16, 2) := by decide +kernel
theorem dL_numbers_43 : decode cL_numbers 43 = .ok (.irem, 1) := by decide +kernel
theorem dL_numbers_44 : decode cL_numbers 44 = .ok (.iastore, 1) := by decide +kernel
theorem dL_numbers_45 : decode cL_numbers 45 = .ok (.iinc 5 1, 3) := by decide +kernel
theorem dL_numbers_48 : decode cL_numbers 48 = .ok (.goto (-32), 3) := by decide +kernel
theorem dL_numbers_51 : decode cL_numbers 51 = .ok (.aload 4, 2) := by decide +kernel
theorem dL_numbers_53 : decode cL_numbers 53 = .ok (.bipush 9, 2) := by decide +kernel
theorem dL_numbers_55 : decode cL_numbers 55 = .ok (.aload_n 0, 1) := by decide +kernel
theorem dL_numbers_56 : decode cL_numbers 56 = .ok (.iload_n 1, 1) := by decide +kernel
theorem dL_numbers_57 : decode cL_numbers 57 = .ok (.bipush 9, 2) := by decide +kernel
theorem dL_numbers_59 : decode cL_numbers 59 = .ok (.iadd, 1) := by decide +kernel
theorem dL_numbers_60 : decode cL_numbers 60 = .ok (.invokestatic 19, 3) := by decide +kernel
theorem dL_numbers_63 : decode cL_numbers 63 = .ok (.iload_n 3, 1) := by decide +kernel
theorem dL_numbers_64 : decode cL_numbers 64 = .ok (.iconst 1, 1) := by decide +kernel
theorem dL_numbers_65 : decode cL_numbers 65 = .ok (.iadd, 1) := by decide +kernel
theorem dL_numbers_66 : decode cL_numbers 66 = .ok (.irem, 1) := by decide +kernel
theorem dL_numbers_67 : decode cL_numbers 67 = .ok (.iastore, 1) := by decide +kernel
theorem dL_numbers_68 : decode cL_numbers 68 = .ok (.iconst 0, 1) := by decide +kernel
theorem dL_numbers_69 : decode cL_numbers 69 = .ok (.istore 5, 2) := by decide +kernel
theorem dL_numbers_71 : decode cL_numbers 71 = .ok (.iload 5, 2) := by decide +kernel
theorem dL_numbers_73 : decode cL_numbers 73 = .ok (.aload 4, 2) := by decide +kernel
theorem dL_numbers_75 : decode cL_numbers 75 = .ok (.bipush 9, 2) := by decide +kernel
theorem dL_numbers_77 : decode cL_numbers 77 = .ok (.iaload, 1) := by decide +kernel
theorem dL_numbers_78 : decode cL_numbers 78 = .ok (.if_icmp .ge 223, 3) := by decide +kernel
theorem dL_numbers_81 : decode cL_numbers 81 = .ok (.aload_n 0, 1) := by decide +kernel
theorem dL_numbers_82 : decode cL_numbers 82 = .ok (.iload_n 1, 1) := by decide +kernel
theorem dL_numbers_83 : decode cL_numbers 83 = .ok (.bipush 10, 2) := by decide +kernel
theorem dL_numbers_85 : decode cL_numbers 85 = .ok (.iadd, 1) := by decide +kernel
theorem dL_numbers_86 : decode cL_numbers 86 = .ok (.iload 5, 2) := by decide +kernel
theorem dL_numbers_88 : decode cL_numbers 88 = .ok (.iadd, 1) := by decide +kernel
theorem dL_numbers_89 : decode cL_numbers 89 = .ok (.invokestatic 19, 3) := by decide +kernel
theorem dL_numbers_92 : decode cL_numbers 92 = .ok (.istore 6, 2) := by decide +kernel
theorem dL_numbers_94 : decode cL_numbers 94 = .ok (.bipush 10, 2) := by decide +kernel
theorem dL_numbers_96 : decode cL_numbers 96 = .ok (.bipush 6, 2) := by decide +kernel
theorem dL_numbers_98 : decode cL_numbers 98 = .ok (.iload 5, 2) := by decide +kernel
theorem dL_numbers_100 : decode cL_numbers 100 = .ok (.imul, 1) := by decide +kernel
theorem dL_numbers_101 : decode cL_numbers 101 = .ok (.iadd, 1) := by decide +kernel
theorem dL_numbers_102 : decode cL_numbers 102 = .ok (.istore 7, 2) := by decide +kernel
theorem dL_numbers_104 : decode cL_numbers 104 = .ok (.iload 6, 2) := by decide +kernel
theorem dL_numbers_106 : decode cL_numbers 106 = .ok (.bipush 16, 2) := by decide +kernel
theorem dL_numbers_108 : decode cL_numbers 108 = .ok (.irem, 1) := by decide +kernel
theorem dL_numbers_109 : decode cL_numbers 109 = .ok (.istore 8, 2) := by decide +kernel
theorem dL_numbers_111 : decode cL_numbers 111 = .ok (.aload 4, 2) := by decide +kernel
theorem dL_numbers_113 : decode cL_numbers 113 = .ok (.iload 7, 2) := by decide +kernel
theorem dL_numbers_115 : decode cL_numbers 115 = .ok (.iload 8, 2) := by decide +kernel
theorem dL_numbers_117 : decode cL_numbers 117 = .ok (.bipush 6, 2) := by decide +kernel
theorem dL_numbers_119 : decode cL_numbers 119 = .ok (.if_icmp .ge 7, 3) := by decide +kernel
theorem dL_numbers_122 : decode cL_numbers 122 = .ok (.iconst 0, 1) := by decide +kernel
theorem dL_numbers_123 : decode cL_numbers 123 = .ok (.goto 48, 3) := by decide +kernel
theorem dL_numbers_126 : decode cL_numbers 126 = .ok (.iload 8, 2) := by decide +kernel
theorem dL_numbers_128 : decode cL_numbers 128 = .ok (.bipush 9, 2) := by decide +kernel
theorem dL_numbers_130 : decode cL_numbers 130 = .ok (.if_icmp .ge 7, 3) := by decide +kernel
theorem dL_numbers_133 : decode cL_numbers 133 = .ok (.iconst 2, 1) := by decide +kernel
theorem dL_numbers_134 : decode cL_numbers 134 = .ok (.goto 37, 3) := by decide +kernel
theorem dL_numbers_137 : decode cL_numbers 137 = .ok (.iload 8, 2) := by decide +kernel
theorem dL_numbers_139 : decode cL_numbers 139 = .ok (.bipush 11, 2) := by decide +kernel
theorem dL_numbers_141 : decode cL_numbers 141 = .ok (.if_icmp .ge 7, 3) := by decide +kernel
theorem dL_numbers_144 : decode cL_numbers 144 = .ok (.iconst 5, 1) := by decide +kernel
theorem dL_numbers_145 : decode cL_numbers 145 = .ok (.goto 26, 3) := by decide +kernel
theorem dL_numbers_148 : decode cL_numbers 148 = .ok (.iload 8, 2) := by decide +kernel
theorem dL_numbers_150 : decode cL_numbers 150 = .ok (.bipush 13, 2) := by decide +kernel
theorem dL_numbers_152 : decode cL_numbers 152 = .ok (.if_icmp .ge 7, 3) := by decide +kernel
theorem dL_numbers_155 : decode cL_numbers 155 = .ok (.iconst 4, 1) := by decide +kernel
theorem dL_numbers_156 : decode cL_numbers 156 = .ok (.goto 15, 3) := by decide +kernel
theorem dL_numbers_159 : decode cL_numbers 159 = .ok (.iload 8, 2) := by decide +kernel
theorem dL_numbers_161 : decode cL_numbers 161 = .ok (.bipush 15, 2) := by decide +kernel
theorem dL_numbers_163 : decode cL_numbers 163 = .ok (.if_icmp .ge 7, 3) := by decide +kernel
theorem dL_numbers_166 : decode cL_numbers 166 = .ok (.iconst 1, 1) := by decide +kernel
theorem dL_numbers_167 : decode cL_numbers 167 = .ok (.goto 4, 3) := by decide +kernel
theorem dL_numbers_170 : decode cL_numbers 170 = .ok (.iconst 3, 1) := by decide +kernel
theorem dL_numbers_171 : decode cL_numbers 171 = .ok (.iastore, 1) := by decide +kernel
theorem dL_numbers_172 : decode cL_numbers 172 = .ok (.aload 4, 2) := by decide +kernel
theorem dL_numbers_174 : decode cL_numbers 174 = .ok (.iload 7, 2) := by decide +kernel
theorem dL_numbers_176 : decode cL_numbers 176 = .ok (.iconst 1, 1) := by decide +kernel
theorem dL_numbers_177 : decode cL_numbers 177 = .ok (.iadd, 1) := by decide +kernel
theorem dL_numbers_178 : decode cL_numbers 178 = .ok (.iload 6, 2) := by decide +kernel
theorem dL_numbers_180 : decode cL_numbers 180 = .ok (.bipush 16, 2) := by decide +kernel
theorem dL_numbers_182 : decode cL_numbers 182 = .ok (.idiv, 1) := by decide +kernel
theorem dL_numbers_183 : decode cL_numbers 183 = .ok (.aload 4, 2) := by decide +kernel
theorem dL_numbers_185 : decode cL_numbers 185 = .ok (.iconst 0, 1) := by decide +kernel
theorem dL_numbers_186 : decode cL_numbers 186 = .ok (.iaload, 1) := by decide +kernel
theorem dL_numbers_187 : decode cL_numbers 187 = .ok (.irem, 1) := by decide +kernel
theorem dL_numbers_188 : decode cL_numbers 188 = .ok (.iastore, 1) := by decide +kernel
theorem dL_numbers_189 : decode cL_numbers 189 = .ok (.aload 4, 2) := by decide +kernel
theorem dL_numbers_191 : decode cL_numbers 191 = .ok (.iload 7, 2) := by decide +kernel
theorem dL_numbers_193 : decode cL_numbers 193 = .ok (.iconst 2, 1) := by decide +kernel
theorem dL_numbers_194 : decode cL_numbers 194 = .ok (.iadd, 1) := by decide +kernel
theorem dL_numbers_195 : decode cL_numbers 195 = .ok (.iload 6, 2) := by decide +kernel
theorem dL_numbers_197 : decode cL_numbers 197 = .ok (.sipush 128, 3) := by decide +kernel
theorem dL_numbers_200 : decode cL_numbers 200 = .ok (.idiv, 1) := by decide +kernel
theorem dL_numbers_201 : decode cL_numbers 201 = .ok (.bipush 20, 2) := by decide +kernel
theorem dL_numbers_203 : decode cL_numbers 203 = .ok (.irem, 1) := by decide +kernel
theorem dL_numbers_204 : decode cL_numbers 204 = .ok (.iastore, 1) := by decide +kernel
theorem dL_numbers_205 : decode cL_numbers 205 = .ok (.aload 4, 2) := by decide +kernel
theorem dL_numbers_207 : decode cL_numbers 207 = .ok (.iload 7, 2) := by decide +kernel
theorem dL_numbers_209 : decode cL_numbers 209 = .ok (.iconst 3, 1) := by decide +kernel
theorem dL_numbers_210 : decode cL_numbers 210 = .ok (.iadd, 1) := by decide +kernel
theorem dL_numbers_211 : decode cL_numbers 211 = .ok (.aload 4, 2) := by decide +kernel
theorem dL_numbers_213 : decode cL_numbers 213 = .ok (.iload 7, 2) := by decide +kernel
theorem dL_numbers_215 : decode cL_numbers 215 = .ok (.iconst 2, 1) := by decide +kernel
theorem dL_numbers_216 : decode cL_numbers 216 = .ok (.iadd, 1) := by decide +kernel
theorem dL_numbers_217 : decode cL_numbers 217 = .ok (.iaload, 1) := by decide +kernel
theorem dL_numbers_218 : decode cL_numbers 218 = .ok (.iconst 1, 1) := by decide +kernel
theorem dL_numbers_219 : decode cL_numbers 219 = .ok (.iadd, 1) := by decide +kernel
theorem dL_numbers_220 : decode cL_numbers 220 = .ok (.iload 6, 2) := by decide +kernel
theorem dL_numbers_222 : decode cL_numbers 222 = .ok (.sipush 4096, 3) := by decide +kernel
theorem dL_numbers_225 : decode cL_numbers 225 = .ok (.idiv, 1) := by decide +kernel
theorem dL_numbers_226 : decode cL_numbers 226 = .ok (.bipush 8, 2) := by decide +kernel
theorem dL_numbers_228 : decode cL_numbers 228 = .ok (.irem, 1) := by decide +kernel
theorem dL_numbers_229 : decode cL_numbers 229 = .ok (.iadd, 1) := by decide +kernel
theorem dL_numbers_230 : decode cL_numbers 230 = .ok (.iastore, 1) := by decide +kernel
theorem dL_numbers_231 : decode cL_numbers 231 = .ok (.aload 4, 2) := by decide +kernel
theorem dL_numbers_233 : decode cL_numbers 233 = .ok (.iload 7, 2) := by decide +kernel
theorem dL_numbers_235 : decode cL_numbers 235 = .ok (.iconst 3, 1) := by decide +kernel
theorem dL_numbers_236 : decode cL_numbers 236 = .ok (.iadd, 1) := by decide +kernel
theorem dL_numbers_237 : decode cL_numbers 237 = .ok (.aload 4, 2) := by decide +kernel
theorem dL_numbers_239 : decode cL_numbers 239 = .ok (.iload 7, 2) := by decide +kernel
theorem dL_numbers_241 : decode cL_numbers 241 = .ok (.iconst 3, 1) := by decide +kernel
theorem dL_numbers_242 : decode cL_numbers 242 = .ok (.iadd, 1) := by decide +kernel
theorem dL_numbers_243 : decode cL_numbers 243 = .ok (.iaload, 1) := by decide +kernel
theorem dL_numbers_244 : decode cL_numbers 244 = .ok (.bipush 27, 2) := by decide +kernel
theorem dL_numbers_246 : decode cL_numbers 246 = .ok (.if_icmp .le 8, 3) := by decide +kernel
theorem dL_numbers_249 : decode cL_numbers 249 = .ok (.bipush 27, 2) := by decide +kernel
theorem dL_numbers_251 : decode cL_numbers 251 = .ok (.goto 10, 3) := by decide +kernel
theorem dL_numbers_254 : decode cL_numbers 254 = .ok (.aload 4, 2) := by decide +kernel
theorem dL_numbers_256 : decode cL_numbers 256 = .ok (.iload 7, 2) := by decide +kernel
theorem dL_numbers_258 : decode cL_numbers 258 = .ok (.iconst 3, 1) := by decide +kernel
theorem dL_numbers_259 : decode cL_numbers 259 = .ok (.iadd, 1) := by decide +kernel
theorem dL_numbers_260 : decode cL_numbers 260 = .ok (.iaload, 1) := by decide +kernel
theorem dL_numbers_261 : decode cL_numbers 261 = .ok (.iastore, 1) := by decide +kernel
theorem dL_numbers_262 : decode cL_numbers 262 = .ok (.aload 4, 2) := by decide +kernel
theorem dL_numbers_264 : decode cL_numbers 264 = .ok (.iload 7, 2) := by decide +kernel
theorem dL_numbers_266 : decode cL_numbers 266 = .ok (.iconst 4, 1) := by decide +kernel
theorem dL_numbers_267 : decode cL_numbers 267 = .ok (.iadd, 1) := by decide +kernel
theorem dL_numbers_268 : decode cL_numbers 268 = .ok (.iconst 1, 1) := by decide +kernel
theorem dL_numbers_269 : decode cL_numbers 269 = .ok (.iload 6, 2) := by decide +kernel
theorem dL_numbers_271 : decode cL_numbers 271 = .ok (.ldc 23, 2) := by decide +kernel
theorem dL_numbers_273 : decode cL_numbers 273 = .ok (.idiv, 1) := by decide +kernel
theorem dL_numbers_274 : decode cL_numbers 274 = .ok (.iconst 4, 1) := by decide +kernel
theorem dL_numbers_275 : decode cL_numbers 275 = .ok (.irem, 1) := by decide +kernel
theorem dL_numbers_276 : decode cL_numbers 276 = .ok (.iadd, 1) := by decide +kernel
theorem dL_numbers_277 : decode cL_numbers 277 = .ok (.iastore, 1) := by decide +kernel
theorem dL_numbers_278 : decode cL_numbers 278 = .ok (.aload 4, 2) := by decide +kernel
theorem dL_numbers_280 : decode cL_numbers 280 = .ok (.iload 7, 2) := by decide +kernel
theorem dL_numbers_282 : decode cL_numbers 282 = .ok (.iconst 5, 1) := by decide +kernel
theorem dL_numbers_283 : decode cL_numbers 283 = .ok (.iadd, 1) := by decide +kernel
theorem dL_numbers_284 : decode cL_numbers 284 = .ok (.iconst 1, 1) := by decide +kernel
theorem dL_numbers_285 : decode cL_numbers 285 = .ok (.iload 6, 2) := by decide +kernel
theorem dL_numbers_287 : decode cL_numbers 287 = .ok (.ldc 24, 2) := by decide +kernel
theorem dL_numbers_289 : decode cL_numbers 289 = .ok (.idiv, 1) := by decide +kernel
theorem dL_numbers_290 : decode cL_numbers 290 = .ok (.bipush 9, 2) := by decide +kernel
theorem dL_numbers_292 : decode cL_numbers 292 = .ok (.irem, 1) := by decide +kernel
theorem dL_numbers_293 : decode cL_numbers 293 = .ok (.iadd, 1) := by decide +kernel
theorem dL_numbers_294 : decode cL_numbers 294 = .ok (.iastore, 1) := by decide +kernel
theorem dL_numbers_295 : decode cL_numbers 295 = .ok (.iinc 5 1, 3) := by decide +kernel
theorem dL_numbers_298 : decode cL_numbers 298 = .ok (.goto (-227), 3) := by decide +kernel
theorem dL_numbers_301 : decode cL_numbers 301 = .ok (.return_, 1) := by decide +kernel
theorem dL_village_0 : decode cL_village 0 = .ok (.aload_n 0, 1) := by decide +kernel
theorem dL_village_1 : decode cL_village 1 = .ok (.iconst 3, 1) := by decide +kernel
theorem dL_village_2 : decode cL_village 2 = .ok (.bipush 120, 2) := by decide +kernel
theorem dL_village_4 : decode cL_village 4 = .ok (.invokevirtual 25, 3) := by decide +kernel
theorem dL_village_7 : decode cL_village 7 = .ok (.bipush 120, 2) := by decide +kernel
theorem dL_village_9 : decode cL_village 9 = .ok (.if_icmp .eq 5, 3) := by decide +kernel
theorem dL_village_12 : decode cL_village 12 = .ok (.iconst 0, 1) := by decide +kernel
theorem dL_village_13 : decode cL_village 13 = .ok (.ireturn, 1) := by decide +kernel
theorem dL_village_14 : decode cL_village 14 = .ok (.iconst 0, 1) := by decide +kernel
theorem dL_village_15 : decode cL_village 15 = .ok (.istore_n 2, 1) := by decide +kernel
theorem dL_village_16 : decode cL_village 16 = .ok (.iconst 0, 1) := by decide +kernel
theorem dL_village_17 : decode cL_village 17 = .ok (.istore_n 3, 1) := by decide +kernel
theorem dL_village_18 : decode cL_village 18 = .ok (.iload_n 3, 1) := by decide +kernel
theorem dL_village_19 : decode cL_village 19 = .ok (.aload_n 1, 1) := by decide +kernel
theorem dL_village_20 : decode cL_village 20 = .ok (.iconst 0, 1) := by decide +kernel
theorem dL_village_21 : decode cL_village 21 = .ok (.iaload, 1) := by decide +kernel
theorem dL_village_22 : decode cL_village 22 = .ok (.if_icmp .ge 26, 3) := by decide +kernel
theorem dL_village_25 : decode cL_village 25 = .ok (.aload_n 0, 1) := by decide +kernel
theorem dL_village_26 : decode cL_village 26 = .ok (.aload_n 0, 1) := by decide +kernel
theorem dL_village_27 : decode cL_village 27 = .ok (.iload_n 2, 1) := by decide +kernel
theorem dL_village_28 : decode cL_village 28 = .ok (.bipush 104, 2) := by decide +kernel
theorem dL_village_30 : decode cL_village 30 = .ok (.invokestatic 14, 3) := by decide +kernel
theorem dL_village_33 : decode cL_village 33 = .ok (.aload_n 1, 1) := by decide +kernel
theorem dL_village_34 : decode cL_village 34 = .ok (.iconst 1, 1) := by decide +kernel
theorem dL_village_35 : decode cL_village 35 = .ok (.iload_n 3, 1) := by decide +kernel
theorem dL_village_36 : decode cL_village 36 = .ok (.iadd, 1) := by decide +kernel
theorem dL_village_37 : decode cL_village 37 = .ok (.iaload, 1) := by decide +kernel
theorem dL_village_38 : decode cL_village 38 = .ok (.invokestatic 29, 3) := by decide +kernel
theorem dL_village_41 : decode cL_village 41 = .ok (.istore_n 2, 1) := by decide +kernel
theorem dL_village_42 : decode cL_village 42 = .ok (.iinc 3 1, 3) := by decide +kernel
theorem dL_village_45 : decode cL_village 45 = .ok (.goto (-27), 3) := by decide +kernel
theorem dL_village_48 : decode cL_village 48 = .ok (.iconst 0, 1) := by decide +kernel
theorem dL_village_49 : decode cL_village 49 = .ok (.istore_n 3, 1) := by decide +kernel
theorem dL_village_50 : decode cL_village 50 = .ok (.iload_n 3, 1) := by decide +kernel
theorem dL_village_51 : decode cL_village 51 = .ok (.aload_n 1, 1) := by decide +kernel
theorem dL_village_52 : decode cL_village 52 = .ok (.bipush 9, 2) := by decide +kernel
theorem dL_village_54 : decode cL_village 54 = .ok (.iaload, 1) := by decide +kernel
theorem dL_village_55 : decode cL_village 55 = .ok (.if_icmp .ge 177, 3) := by decide +kernel
theorem dL_village_58 : decode cL_village 58 = .ok (.bipush 10, 2) := by decide +kernel
theorem dL_village_60 : decode cL_village 60 = .ok (.bipush 6, 2) := by decide +kernel
theorem dL_village_62 : decode cL_village 62 = .ok (.iload_n 3, 1) := by decide +kernel
theorem dL_village_63 : decode cL_village 63 = .ok (.imul, 1) := by decide +kernel
theorem dL_village_64 : decode cL_village 64 = .ok (.iadd, 1) := by decide +kernel
theorem dL_village_65 : decode cL_village 65 = .ok (.istore 4, 2) := by decide +kernel
theorem dL_village_67 : decode cL_village 67 = .ok (.aload_n 1, 1) := by decide +kernel
theorem dL_village_68 : decode cL_village 68 = .ok (.iload 4, 2) := by decide +kernel
theorem dL_village_70 : decode cL_village 70 = .ok (.iaload, 1) := by decide +kernel
theorem dL_village_71 : decode cL_village 71 = .ok (.istore 5, 2) := by decide +kernel
theorem dL_village_73 : decode cL_village 73 = .ok (.aload_n 0, 1) := by decide +kernel
theorem dL_village_74 : decode cL_village 74 = .ok (.iload_n 2, 1) := by decide +kernel
theorem dL_village_75 : decode cL_village 75 = .ok (.iload 5, 2) := by decide +kernel
theorem dL_village_77 : decode cL_village 77 = .ok (.ifCond .ne 8, 3) := by decide +kernel
theorem dL_village_80 : decode cL_village 80 = .ok (.bipush 110, 2) := by decide +kernel
theorem dL_village_82 : decode cL_village 82 = .ok (.goto 49, 3) := by decide +kernel
theorem dL_village_85 : decode cL_village 85 = .ok (.iload 5, 2) := by decide +kernel
theorem dL_village_87 : decode cL_village 87 = .ok (.iconst 1, 1) := by decide +kernel
theorem dL_village_88 : decode cL_village 88 = .ok (.if_icmp .ne 8, 3) := by decide +kernel
theorem dL_village_91 : decode cL_village 91 = .ok (.bipush 109, 2) := by decide +kernel
theorem dL_village_93 : decode cL_village 93 = .ok (.goto 38, 3) := by decide +kernel
theorem dL_village_96 : decode cL_village 96 = .ok (.iload 5, 2) := by decide +kernel
theorem dL_village_98 : decode cL_village 98 = .ok (.iconst 2, 1) := by decide +kernel
theorem dL_village_99 : decode cL_village 99 = .ok (.if_icmp .ne 8, 3) := by decide +kernel
theorem dL_village_102 : decode cL_village 102 = .ok (.bipush 108, 2) := by decide +kernel
theorem dL_village_104 : decode cL_village 104 = .ok (.goto 27, 3) := by decide +kernel
theorem dL_village_107 : decode cL_village 107 = .ok (.iload 5, 2) := by decide +kernel
theorem dL_village_109 : decode cL_village 109 = .ok (.iconst 3, 1) := by decide +kernel
theorem dL_village_110 : decode cL_village 110 = .ok (.if_icmp .ne 8, 3) := by decide +kernel
theorem dL_village_113 : decode cL_village 113 = .ok (.bipush 119, 2) := by decide +kernel
theorem dL_village_115 : decode cL_village 115 = .ok (.goto 16, 3) := by decide +kernel
theorem dL_village_118 : decode cL_village 118 = .ok (.iload 5, 2) := by decide +kernel
theorem dL_village_120 : decode cL_village 120 = .ok (.iconst 4, 1) := by decide +kernel
theorem dL_village_121 : decode cL_village 121 = .ok (.if_icmp .ne 8, 3) := by decide +kernel
theorem dL_village_124 : decode cL_village 124 = .ok (.bipush 102, 2) := by decide +kernel
theorem dL_village_126 : decode cL_village 126 = .ok (.goto 5, 3) := by decide +kernel
theorem dL_village_129 : decode cL_village 129 = .ok (.bipush 116, 2) := by decide +kernel
theorem dL_village_131 : decode cL_village 131 = .ok (.invokestatic 14, 3) := by decide +kernel
theorem dL_village_134 : decode cL_village 134 = .ok (.istore_n 2, 1) := by decide +kernel
theorem dL_village_135 : decode cL_village 135 = .ok (.aload_n 0, 1) := by decide +kernel
theorem dL_village_136 : decode cL_village 136 = .ok (.aload_n 0, 1) := by decide +kernel
theorem dL_village_137 : decode cL_village 137 = .ok (.iload_n 2, 1) := by decide +kernel
theorem dL_village_138 : decode cL_village 138 = .ok (.bipush 65, 2) := by decide +kernel
theorem dL_village_140 : decode cL_village 140 = .ok (.aload_n 1, 1) := by decide +kernel
theorem dL_village_141 : decode cL_village 141 = .ok (.iload 4, 2) := by decide +kernel
theorem dL_village_143 : decode cL_village 143 = .ok (.iconst 1, 1) := by decide +kernel
theorem dL_village_144 : decode cL_village 144 = .ok (.iadd, 1) := by decide +kernel
theorem dL_village_145 : decode cL_village 145 = .ok (.iaload, 1) := by decide +kernel
theorem dL_village_146 : decode cL_village 146 = .ok (.iadd, 1) := by decide +kernel
theorem dL_village_147 : decode cL_village 147 = .ok (.invokestatic 14, 3) := by decide +kernel
theorem dL_village_150 : decode cL_village 150 = .ok (.bipush 58, 2) := by decide +kernel
theorem dL_village_152 : decode cL_village 152 = .ok (.invokestatic 14, 3) := by decide +kernel
theorem dL_village_155 : decode cL_village 155 = .ok (.istore_n 2, 1) := by decide +kernel
theorem dL_village_156 : decode cL_village 156 = .ok (.aload_n 0, 1) := by decide +kernel
theorem dL_village_157 : decode cL_village 157 = .ok (.aload_n 0, 1) := by decide +kernel
theorem dL_village_158 : decode cL_village 158 = .ok (.iload_n 2, 1) := by decide +kernel
theorem dL_village_159 : decode cL_village 159 = .ok (.aload_n 1, 1) := by decide +kernel
theorem dL_village_160 : decode cL_village 160 = .ok (.iload 4, 2) := by decide +kernel
theorem dL_village_162 : decode cL_village 162 = .ok (.iconst 2, 1) := by decide +kernel
theorem dL_village_163 : decode cL_village 163 = .ok (.iadd, 1) := by decide +kernel
theorem dL_village_164 : decode cL_village 164 = .ok (.iaload, 1) := by decide +kernel
theorem dL_village_165 : decode cL_village 165 = .ok (.invokestatic 29, 3) := by decide +kernel
theorem dL_village_168 : decode cL_village 168 = .ok (.bipush 45, 2) := by decide +kernel
theorem dL_village_170 : decode cL_village 170 = .ok (.invokestatic 14, 3) := by decide +kernel
theorem dL_village_173 : decode cL_village 173 = .ok (.istore_n 2, 1) := by decide +kernel
theorem dL_village_174 : decode cL_village 174 = .ok (.aload_n 0, 1) := by decide +kernel
theorem dL_village_175 : decode cL_village 175 = .ok (.aload_n 0, 1) := by decide +kernel
theorem dL_village_176 : decode cL_village 176 = .ok (.iload_n 2, 1) := by decide +kernel
theorem dL_village_177 : decode cL_village 177 = .ok (.aload_n 1, 1) := by decide +kernel
theorem dL_village_178 : decode cL_village 178 = .ok (.iload 4, 2) := by decide +kernel
theorem dL_village_180 : decode cL_village 180 = .ok (.iconst 3, 1) := by decide +kernel
theorem dL_village_181 : decode cL_village 181 = .ok (.iadd, 1) := by decide +kernel
theorem dL_village_182 : decode cL_village 182 = .ok (.iaload, 1) := by decide +kernel
theorem dL_village_183 : decode cL_village 183 = .ok (.invokestatic 29, 3) := by decide +kernel
theorem dL_village_186 : decode cL_village 186 = .ok (.bipush 58, 2) := by decide +kernel
theorem dL_village_188 : decode cL_village 188 = .ok (.invokestatic 14, 3) := by decide +kernel
theorem dL_village_191 : decode cL_village 191 = .ok (.istore_n 2, 1) := by decide +kernel
theorem dL_village_192 : decode cL_village 192 = .ok (.aload_n 0, 1) := by decide +kernel
theorem dL_village_193 : decode cL_village 193 = .ok (.aload_n 0, 1) := by decide +kernel
theorem dL_village_194 : decode cL_village 194 = .ok (.aload_n 0, 1) := by decide +kernel
theorem dL_village_195 : decode cL_village 195 = .ok (.iload_n 2, 1) := by decide +kernel
theorem dL_village_196 : decode cL_village 196 = .ok (.bipush 48, 2) := by decide +kernel
theorem dL_village_198 : decode cL_village 198 = .ok (.aload_n 1, 1) := by decide +kernel
theorem dL_village_199 : decode cL_village 199 = .ok (.iload 4, 2) := by decide +kernel
theorem dL_village_201 : decode cL_village 201 = .ok (.iconst 4, 1) := by decide +kernel
theorem dL_village_202 : decode cL_village 202 = .ok (.iadd, 1) := by decide +kernel
theorem dL_village_203 : decode cL_village 203 = .ok (.iaload, 1) := by decide +kernel
theorem dL_village_204 : decode cL_village 204 = .ok (.iadd, 1) := by decide +kernel
theorem dL_village_205 : decode cL_village 205 = .ok (.invokestatic 14, 3) := by decide +kernel
theorem dL_village_208 : decode cL_village 208 = .ok (.bipush 58, 2) := by decide +kernel
theorem dL_village_210 : decode cL_village 210 = .ok (.invokestatic 14, 3) := by decide +kernel
theorem dL_village_213 : decode cL_village 213 = .ok (.bipush 48, 2) := by decide +kernel
theorem dL_village_215 : decode cL_village 215 = .ok (.aload_n 1, 1) := by decide +kernel
theorem dL_village_216 : decode cL_village 216 = .ok (.iload 4, 2) := by decide +kernel
theorem dL_village_218 : decode cL_village 218 = .ok (.iconst 5, 1) := by decide +kernel
theorem dL_village_219 : decode cL_village 219 = .ok (.iadd, 1) := by decide +kernel
theorem dL_village_220 : decode cL_village 220 = .ok (.iaload, 1) := by decide +kernel
theorem dL_village_221 : decode cL_village 221 = .ok (.iadd, 1) := by decide +kernel
theorem dL_village_222 : decode cL_village 222 = .ok (.invokestatic 14, 3) := by decide +kernel
theorem dL_village_225 : decode cL_village 225 = .ok (.istore_n 2, 1) := by decide +kernel
theorem dL_village_226 : decode cL_village 226 = .ok (.iinc 3 1, 3) := by decide +kernel
theorem dL_village_229 : decode cL_village 229 = .ok (.goto (-179), 3) := by decide +kernel
theorem dL_village_232 : decode cL_village 232 = .ok (.iload_n 2, 1) := by decide +kernel
theorem dL_village_233 : decode cL_village 233 = .ok (.ifCond .lt 28, 3) := by decide +kernel
theorem dL_village_236 : decode cL_village 236 = .ok (.aload_n 0, 1) := by decide +kernel
theorem dL_village_237 : decode cL_village 237 = .ok (.iconst 3, 1) := by decide +kernel
theorem dL_village_238 : decode cL_village 238 = .ok (.invokevirtual 32, 3) := by decide +kernel
theorem dL_village_241 : decode cL_village 241 = .ok (.bipush (-9), 2) := by decide +kernel
theorem dL_village_243 : decode cL_village 243 = .ok (.if_icmp .ne 18, 3) := by decide +kernel
theorem dL_village_246 : decode cL_village 246 = .ok (.aload_n 0, 1) := by decide +kernel
theorem dL_village_247 : decode cL_village 247 = .ok (.iconst 3, 1) := by decide +kernel
theorem dL_village_248 : decode cL_village 248 = .ok (.invokevirtual 36, 3) := by decide +kernel
theorem dL_village_251 : decode cL_village 251 = .ok (.aload_n 1, 1) := by decide +kernel
theorem dL_village_252 : decode cL_village 252 = .ok (.iconst 0, 1) := by decide +kernel
theorem dL_village_253 : decode cL_village 253 = .ok (.iaload, 1) := by decide +kernel
theorem dL_village_254 : decode cL_village 254 = .ok (.if_icmp .ne 7, 3) := by decide +kernel
theorem dL_village_257 : decode cL_village 257 = .ok (.iconst 1, 1) := by decide +kernel
theorem dL_village_258 : decode cL_village 258 = .ok (.goto 4, 3) := by decide +kernel
theorem dL_village_261 : decode cL_village 261 = .ok (.iconst 0, 1) := by decide +kernel
theorem dL_village_262 : decode cL_village 262 = .ok (.ireturn, 1) := by decide +kernel
theorem dL_must_0 : decode cL_must 0 = .ok (.aload_n 0, 1) := by decide +kernel
theorem dL_must_1 : decode cL_must 1 = .ok (.bipush 10, 2) := by decide +kernel
theorem dL_must_3 : decode cL_must 3 = .ok (.bipush 6, 2) := by decide +kernel
theorem dL_must_5 : decode cL_must 5 = .ok (.iload_n 1, 1) := by decide +kernel
theorem dL_must_6 : decode cL_must 6 = .ok (.imul, 1) := by decide +kernel
theorem dL_must_7 : decode cL_must 7 = .ok (.iadd, 1) := by decide +kernel
theorem dL_must_8 : decode cL_must 8 = .ok (.iaload, 1) := by decide +kernel
theorem dL_must_9 : decode cL_must 9 = .ok (.istore_n 2, 1) := by decide +kernel
theorem dL_must_10 : decode cL_must 10 = .ok (.iload_n 2, 1) := by decide +kernel
theorem dL_must_11 : decode cL_must 11 = .ok (.iconst 1, 1) := by decide +kernel
theorem dL_must_12 : decode cL_must 12 = .ok (.if_icmp .eq 13, 3) := by decide +kernel
theorem dL_must_15 : decode cL_must 15 = .ok (.iload_n 2, 1) := by decide +kernel
theorem dL_must_16 : decode cL_must 16 = .ok (.iconst 3, 1) := by decide +kernel
theorem dL_must_17 : decode cL_must 17 = .ok (.if_icmp .eq 8, 3) := by decide +kernel
theorem dL_must_20 : decode cL_must 20 = .ok (.iload_n 2, 1) := by decide +kernel
theorem dL_must_21 : decode cL_must 21 = .ok (.iconst 4, 1) := by decide +kernel
theorem dL_must_22 : decode cL_must 22 = .ok (.if_icmp .ne 7, 3) := by decide +kernel
theorem dL_must_25 : decode cL_must 25 = .ok (.iconst 1, 1) := by decide +kernel
theorem dL_must_26 : decode cL_must 26 = .ok (.goto 4, 3) := by decide +kernel
theorem dL_must_29 : decode cL_must 29 = .ok (.iconst 0, 1) := by decide +kernel
theorem dL_must_30 : decode cL_must 30 = .ok (.ireturn, 1) := by decide +kernel
theorem dL_worth_0 : decode cL_worth 0 = .ok (.iconst 0, 1) := by decide +kernel
theorem dL_worth_1 : decode cL_worth 1 = .ok (.istore_n 2, 1) := by decide +kernel
theorem dL_worth_2 : decode cL_worth 2 = .ok (.iconst 0, 1) := by decide +kernel
theorem dL_worth_3 : decode cL_worth 3 = .ok (.istore_n 3, 1) := by decide +kernel
theorem dL_worth_4 : decode cL_worth 4 = .ok (.iload_n 3, 1) := by decide +kernel
theorem dL_worth_5 : decode cL_worth 5 = .ok (.aload_n 0, 1) := by decide +kernel
theorem dL_worth_6 : decode cL_worth 6 = .ok (.bipush 9, 2) := by decide +kernel
theorem dL_worth_8 : decode cL_worth 8 = .ok (.iaload, 1) := by decide +kernel
theorem dL_worth_9 : decode cL_worth 9 = .ok (.if_icmp .ge 27, 3) := by decide +kernel
theorem dL_worth_12 : decode cL_worth 12 = .ok (.iload_n 2, 1) := by decide +kernel
theorem dL_worth_13 : decode cL_worth 13 = .ok (.iload_n 1, 1) := by decide +kernel
theorem dL_worth_14 : decode cL_worth 14 = .ok (.iload_n 3, 1) := by decide +kernel
theorem dL_worth_15 : decode cL_worth 15 = .ok (.ishr, 1) := by decide +kernel
theorem dL_worth_16 : decode cL_worth 16 = .ok (.iconst 1, 1) := by decide +kernel
theorem dL_worth_17 : decode cL_worth 17 = .ok (.iand, 1) := by decide +kernel
theorem dL_worth_18 : decode cL_worth 18 = .ok (.aload_n 0, 1) := by decide +kernel
theorem dL_worth_19 : decode cL_worth 19 = .ok (.bipush 15, 2) := by decide +kernel
theorem dL_worth_21 : decode cL_worth 21 = .ok (.bipush 6, 2) := by decide +kernel
theorem dL_worth_23 : decode cL_worth 23 = .ok (.iload_n 3, 1) := by decide +kernel
theorem dL_worth_24 : decode cL_worth 24 = .ok (.imul, 1) := by decide +kernel
theorem dL_worth_25 : decode cL_worth 25 = .ok (.iadd, 1) := by decide +kernel
theorem dL_worth_26 : decode cL_worth 26 = .ok (.iaload, 1) := by decide +kernel
theorem dL_worth_27 : decode cL_worth 27 = .ok (.imul, 1) := by decide +kernel
theorem dL_worth_28 : decode cL_worth 28 = .ok (.iadd, 1) := by decide +kernel
theorem dL_worth_29 : decode cL_worth 29 = .ok (.istore_n 2, 1) := by decide +kernel
theorem dL_worth_30 : decode cL_worth 30 = .ok (.iinc 3 1, 3) := by decide +kernel
theorem dL_worth_33 : decode cL_worth 33 = .ok (.goto (-29), 3) := by decide +kernel
theorem dL_worth_36 : decode cL_worth 36 = .ok (.iload_n 2, 1) := by decide +kernel
theorem dL_worth_37 : decode cL_worth 37 = .ok (.ireturn, 1) := by decide +kernel
theorem dL_musts_0 : decode cL_musts 0 = .ok (.iconst 0, 1) := by decide +kernel
theorem dL_musts_1 : decode cL_musts 1 = .ok (.istore_n 1, 1) := by decide +kernel
theorem dL_musts_2 : decode cL_musts 2 = .ok (.iconst 0, 1) := by decide +kernel
theorem dL_musts_3 : decode cL_musts 3 = .ok (.istore_n 2, 1) := by decide +kernel
theorem dL_musts_4 : decode cL_musts 4 = .ok (.iload_n 2, 1) := by decide +kernel
theorem dL_musts_5 : decode cL_musts 5 = .ok (.aload_n 0, 1) := by decide +kernel
theorem dL_musts_6 : decode cL_musts 6 = .ok (.bipush 9, 2) := by decide +kernel
theorem dL_musts_8 : decode cL_musts 8 = .ok (.iaload, 1) := by decide +kernel
theorem dL_musts_9 : decode cL_musts 9 = .ok (.if_icmp .ge 27, 3) := by decide +kernel
theorem dL_musts_12 : decode cL_musts 12 = .ok (.iload_n 1, 1) := by decide +kernel
theorem dL_musts_13 : decode cL_musts 13 = .ok (.aload_n 0, 1) := by decide +kernel
theorem dL_musts_14 : decode cL_musts 14 = .ok (.iload_n 2, 1) := by decide +kernel
theorem dL_musts_15 : decode cL_musts 15 = .ok (.invokestatic 62, 3) := by decide +kernel
theorem dL_musts_18 : decode cL_musts 18 = .ok (.ifCond .eq 9, 3) := by decide +kernel
theorem dL_musts_21 : decode cL_musts 21 = .ok (.iconst 1, 1) := by decide +kernel
theorem dL_musts_22 : decode cL_musts 22 = .ok (.iload_n 2, 1) := by decide +kernel
theorem dL_musts_23 : decode cL_musts 23 = .ok (.ishl, 1) := by decide +kernel
theorem dL_musts_24 : decode cL_musts 24 = .ok (.goto 4, 3) := by decide +kernel
theorem dL_musts_27 : decode cL_musts 27 = .ok (.iconst 0, 1) := by decide +kernel
theorem dL_musts_28 : decode cL_musts 28 = .ok (.ior, 1) := by decide +kernel
theorem dL_musts_29 : decode cL_musts 29 = .ok (.istore_n 1, 1) := by decide +kernel
theorem dL_musts_30 : decode cL_musts 30 = .ok (.iinc 2 1, 3) := by decide +kernel
theorem dL_musts_33 : decode cL_musts 33 = .ok (.goto (-29), 3) := by decide +kernel
theorem dL_musts_36 : decode cL_musts 36 = .ok (.iload_n 1, 1) := by decide +kernel
theorem dL_musts_37 : decode cL_musts 37 = .ok (.ireturn, 1) := by decide +kernel
theorem dL_law_0 : decode cL_law 0 = .ok (.new 9, 3) := by decide +kernel
theorem dL_law_3 : decode cL_law 3 = .ok (.dup, 1) := by decide +kernel
theorem dL_law_4 : decode cL_law 4 = .ok (.invokespecial 72, 3) := by decide +kernel
theorem dL_law_7 : decode cL_law 7 = .ok (.astore_n 1, 1) := by decide +kernel
theorem dL_law_8 : decode cL_law 8 = .ok (.new 9, 3) := by decide +kernel
theorem dL_law_11 : decode cL_law 11 = .ok (.dup, 1) := by decide +kernel
theorem dL_law_12 : decode cL_law 12 = .ok (.invokespecial 72, 3) := by decide +kernel
theorem dL_law_15 : decode cL_law 15 = .ok (.astore_n 2, 1) := by decide +kernel
theorem dL_law_16 : decode cL_law 16 = .ok (.bipush 64, 2) := by decide +kernel
theorem dL_law_18 : decode cL_law 18 = .ok (.newarray .int, 2) := by decide +kernel
theorem dL_law_20 : decode cL_law 20 = .ok (.astore_n 3, 1) := by decide +kernel
theorem dL_law_21 : decode cL_law 21 = .ok (.bipush 64, 2) := by decide +kernel
theorem dL_law_23 : decode cL_law 23 = .ok (.newarray .int, 2) := by decide +kernel
theorem dL_law_25 : decode cL_law 25 = .ok (.astore 4, 2) := by decide +kernel
theorem dL_law_27 : decode cL_law 27 = .ok (.aload_n 0, 1) := by decide +kernel
theorem dL_law_28 : decode cL_law 28 = .ok (.bipush 10, 2) := by decide +kernel
theorem dL_law_30 : decode cL_law 30 = .ok (.iconst 5, 1) := by decide +kernel
theorem dL_law_31 : decode cL_law 31 = .ok (.iconst 5, 1) := by decide +kernel
theorem dL_law_32 : decode cL_law 32 = .ok (.aload_n 3, 1) := by decide +kernel
theorem dL_law_33 : decode cL_law 33 = .ok (.invokestatic 73, 3) := by decide +kernel
theorem dL_law_36 : decode cL_law 36 = .ok (.iconst 0, 1) := by decide +kernel
theorem dL_law_37 : decode cL_law 37 = .ok (.istore 5, 2) := by decide +kernel
theorem dL_law_39 : decode cL_law 39 = .ok (.iload 5, 2) := by decide +kernel
theorem dL_law_41 : decode cL_law 41 = .ok (.bipush 64, 2) := by decide +kernel
theorem dL_law_43 : decode cL_law 43 = .ok (.if_icmp .ge 18, 3) := by decide +kernel
theorem dL_law_46 : decode cL_law 46 = .ok (.aload 4, 2) := by decide +kernel
theorem dL_law_48 : decode cL_law 48 = .ok (.iload 5, 2) := by decide +kernel
theorem dL_law_50 : decode cL_law 50 = .ok (.aload_n 3, 1) := by decide +kernel
theorem dL_law_51 : decode cL_law 51 = .ok (.iload 5, 2) := by decide +kernel
theorem dL_law_53 : decode cL_law 53 = .ok (.iaload, 1) := by decide +kernel
theorem dL_law_54 : decode cL_law 54 = .ok (.iastore, 1) := by decide +kernel
theorem dL_law_55 : decode cL_law 55 = .ok (.iinc 5 1, 3) := by decide +kernel
theorem dL_law_58 : decode cL_law 58 = .ok (.goto (-19), 3) := by decide +kernel
theorem dL_law_61 : decode cL_law 61 = .ok (.iconst 0, 1) := by decide +kernel
theorem dL_law_62 : decode cL_law 62 = .ok (.istore 5, 2) := by decide +kernel
theorem dL_law_64 : decode cL_law 64 = .ok (.iload 5, 2) := by decide +kernel
theorem dL_law_66 : decode cL_law 66 = .ok (.aload_n 3, 1) := by decide +kernel
theorem dL_law_67 : decode cL_law 67 = .ok (.iconst 0, 1) := by decide +kernel
theorem dL_law_68 : decode cL_law 68 = .ok (.iaload, 1) := by decide +kernel
theorem dL_law_69 : decode cL_law 69 = .ok (.if_icmp .ge 25, 3) := by decide +kernel
theorem dL_law_72 : decode cL_law 72 = .ok (.aload 4, 2) := by decide +kernel
theorem dL_law_74 : decode cL_law 74 = .ok (.iconst 1, 1) := by decide +kernel
theorem dL_law_75 : decode cL_law 75 = .ok (.iload 5, 2) := by decide +kernel
theorem dL_law_77 : decode cL_law 77 = .ok (.iadd, 1) := by decide +kernel
theorem dL_law_78 : decode cL_law 78 = .ok (.bipush 15, 2) := by decide +kernel
theorem dL_law_80 : decode cL_law 80 = .ok (.aload_n 3, 1) := by decide +kernel
theorem dL_law_81 : decode cL_law 81 = .ok (.iconst 1, 1) := by decide +kernel
theorem dL_law_82 : decode cL_law 82 = .ok (.iload 5, 2) := by decide +kernel
theorem dL_law_84 : decode cL_law 84 = .ok (.iadd, 1) := by decide +kernel
theorem dL_law_85 : decode cL_law 85 = .ok (.iaload, 1) := by decide +kernel
theorem dL_law_86 : decode cL_law 86 = .ok (.isub, 1) := by decide +kernel
theorem dL_law_87 : decode cL_law 87 = .ok (.iastore, 1) := by decide +kernel
theorem dL_law_88 : decode cL_law 88 = .ok (.iinc 5 1, 3) := by decide +kernel
theorem dL_law_91 : decode cL_law 91 = .ok (.goto (-27), 3) := by decide +kernel
theorem dL_law_94 : decode cL_law 94 = .ok (.aload_n 1, 1) := by decide +kernel
theorem dL_law_95 : decode cL_law 95 = .ok (.aload_n 3, 1) := by decide +kernel
theorem dL_law_96 : decode cL_law 96 = .ok (.invokestatic 77, 3) := by decide +kernel
theorem dL_law_99 : decode cL_law 99 = .ok (.ifCond .eq 12, 3) := by decide +kernel
theorem dL_law_102 : decode cL_law 102 = .ok (.aload_n 2, 1) := by decide +kernel
theorem dL_law_103 : decode cL_law 103 = .ok (.aload 4, 2) := by decide +kernel
theorem dL_law_105 : decode cL_law 105 = .ok (.invokestatic 77, 3) := by decide +kernel
theorem dL_law_108 : decode cL_law 108 = .ok (.ifCond .ne 5, 3) := by decide +kernel
theorem dL_law_111 : decode cL_law 111 = .ok (.iconst 0, 1) := by decide +kernel
theorem dL_law_112 : decode cL_law 112 = .ok (.ireturn, 1) := by decide +kernel
theorem dL_law_113 : decode cL_law 113 = .ok (.aload_n 3, 1) := by decide +kernel
theorem dL_law_114 : decode cL_law 114 = .ok (.bipush 9, 2) := by decide +kernel
theorem dL_law_116 : decode cL_law 116 = .ok (.iaload, 1) := by decide +kernel
theorem dL_law_117 : decode cL_law 117 = .ok (.istore 5, 2) := by decide +kernel
theorem dL_law_119 : decode cL_law 119 = .ok (.aload_n 1, 1) := by decide +kernel
theorem dL_law_120 : decode cL_law 120 = .ok (.invokevirtual 80, 3) := by decide +kernel
theorem dL_law_123 : decode cL_law 123 = .ok (.istore 6, 2) := by decide +kernel
theorem dL_law_125 : decode cL_law 125 = .ok (.aload_n 1, 1) := by decide +kernel
theorem dL_law_126 : decode cL_law 126 = .ok (.invokevirtual 65, 3) := by decide +kernel
theorem dL_law_129 : decode cL_law 129 = .ok (.istore 7, 2) := by decide +kernel
theorem dL_law_131 : decode cL_law 131 = .ok (.iload 6, 2) := by decide +kernel
theorem dL_law_133 : decode cL_law 133 = .ok (.aload_n 2, 1) := by decide +kernel
theorem dL_law_134 : decode cL_law 134 = .ok (.invokevirtual 80, 3) := by decide +kernel
theorem dL_law_137 : decode cL_law 137 = .ok (.if_icmp .ne 47, 3) := by decide +kernel
theorem dL_law_140 : decode cL_law 140 = .ok (.aload_n 1, 1) := by decide +kernel
theorem dL_law_141 : decode cL_law 141 = .ok (.invokevirtual 83, 3) := by decide +kernel
theorem dL_law_144 : decode cL_law 144 = .ok (.aload_n 2, 1) := by decide +kernel
theorem dL_law_145 : decode cL_law 145 = .ok (.invokevirtual 83, 3) := by decide +kernel
theorem dL_law_148 : decode cL_law 148 = .ok (.if_icmp .ne 36, 3) := by decide +kernel
theorem dL_law_151 : decode cL_law 151 = .ok (.aload_n 1, 1) := by decide +kernel
theorem dL_law_152 : decode cL_law 152 = .ok (.invokevirtual 65, 3) := by decide +kernel
theorem dL_law_155 : decode cL_law 155 = .ok (.aload_n 2, 1) := by decide +kernel
theorem dL_law_156 : decode cL_law 156 = .ok (.invokevirtual 65, 3) := by decide +kernel
theorem dL_law_159 : decode cL_law 159 = .ok (.if_icmp .ne 25, 3) := by decide +kernel
theorem dL_law_162 : decode cL_law 162 = .ok (.aload_n 1, 1) := by decide +kernel
theorem dL_law_163 : decode cL_law 163 = .ok (.invokevirtual 86, 3) := by decide +kernel
theorem dL_law_166 : decode cL_law 166 = .ok (.aload_n 2, 1) := by decide +kernel
theorem dL_law_167 : decode cL_law 167 = .ok (.invokevirtual 86, 3) := by decide +kernel
theorem dL_law_170 : decode cL_law 170 = .ok (.if_icmp .ne 14, 3) := by decide +kernel
theorem dL_law_173 : decode cL_law 173 = .ok (.aload_n 1, 1) := by decide +kernel
theorem dL_law_174 : decode cL_law 174 = .ok (.invokevirtual 65, 3) := by decide +kernel
theorem dL_law_177 : decode cL_law 177 = .ok (.aload_n 2, 1) := by decide +kernel
theorem dL_law_178 : decode cL_law 178 = .ok (.invokevirtual 65, 3) := by decide +kernel
theorem dL_law_181 : decode cL_law 181 = .ok (.if_icmp .eq 5, 3) := by decide +kernel
theorem dL_law_184 : decode cL_law 184 = .ok (.iconst 0, 1) := by decide +kernel
theorem dL_law_185 : decode cL_law 185 = .ok (.ireturn, 1) := by decide +kernel
theorem dL_law_186 : decode cL_law 186 = .ok (.aload_n 1, 1) := by decide +kernel
theorem dL_law_187 : decode cL_law 187 = .ok (.invokevirtual 65, 3) := by decide +kernel
theorem dL_law_190 : decode cL_law 190 = .ok (.istore 8, 2) := by decide +kernel
theorem dL_law_192 : decode cL_law 192 = .ok (.aload_n 1, 1) := by decide +kernel
theorem dL_law_193 : decode cL_law 193 = .ok (.invokevirtual 83, 3) := by decide +kernel
theorem dL_law_196 : decode cL_law 196 = .ok (.istore 9, 2) := by decide +kernel
theorem dL_law_198 : decode cL_law 198 = .ok (.aload_n 1, 1) := by decide +kernel
theorem dL_law_199 : decode cL_law 199 = .ok (.invokevirtual 65, 3) := by decide +kernel
theorem dL_law_202 : decode cL_law 202 = .ok (.istore 10, 2) := by decide +kernel
theorem dL_law_204 : decode cL_law 204 = .ok (.iconst 0, 1) := by decide +kernel
theorem dL_law_205 : decode cL_law 205 = .ok (.istore 11, 2) := by decide +kernel
theorem dL_law_207 : decode cL_law 207 = .ok (.iconst 0, 1) := by decide +kernel
theorem dL_law_208 : decode cL_law 208 = .ok (.istore 12, 2) := by decide +kernel
theorem dL_law_210 : decode cL_law 210 = .ok (.iload 12, 2) := by decide +kernel
theorem dL_law_212 : decode cL_law 212 = .ok (.iconst 1, 1) := by decide +kernel
theorem dL_law_213 : decode cL_law 213 = .ok (.iload 5, 2) := by decide +kernel
theorem dL_law_215 : decode cL_law 215 = .ok (.ishl, 1) := by decide +kernel
theorem dL_law_216 : decode cL_law 216 = .ok (.if_icmp .ge 260, 3) := by decide +kernel
theorem dL_law_219 : decode cL_law 219 = .ok (.aload_n 1, 1) := by decide +kernel
theorem dL_law_220 : decode cL_law 220 = .ok (.iload 12, 2) := by decide +kernel
theorem dL_law_222 : decode cL_law 222 = .ok (.invokevirtual 89, 3) := by decide +kernel
theorem dL_law_225 : decode cL_law 225 = .ok (.istore 13, 2) := by decide +kernel
theorem dL_law_227 : decode cL_law 227 = .ok (.iload 11, 2) := by decide +kernel
theorem dL_law_229 : decode cL_law 229 = .ok (.iload 13, 2) := by decide +kernel
theorem dL_law_231 : decode cL_law 231 = .ok (.ifCond .ge 7, 3) := by decide +kernel
theorem dL_law_234 : decode cL_law 234 = .ok (.iconst 0, 1) := by decide +kernel
theorem dL_law_235 : decode cL_law 235 = .ok (.goto 4, 3) := by decide +kernel
theorem dL_law_238 : decode cL_law 238 = .ok (.iconst 1, 1) := by decide +kernel
theorem dL_law_239 : decode cL_law 239 = .ok (.iadd, 1) := by decide +kernel
theorem dL_law_240 : decode cL_law 240 = .ok (.istore 11, 2) := by decide +kernel
theorem dL_law_242 : decode cL_law 242 = .ok (.iload 13, 2) := by decide +kernel
theorem dL_law_244 : decode cL_law 244 = .ok (.aload_n 2, 1) := by decide +kernel
theorem dL_law_245 : decode cL_law 245 = .ok (.iload 12, 2) := by decide +kernel
theorem dL_law_247 : decode cL_law 247 = .ok (.invokevirtual 89, 3) := by decide +kernel
theorem dL_law_250 : decode cL_law 250 = .ok (.if_icmp .ne 37, 3) := by decide +kernel
theorem dL_law_253 : decode cL_law 253 = .ok (.iload 13, 2) := by decide +kernel
theorem dL_law_255 : decode cL_law 255 = .ok (.ifCond .lt 7, 3) := by decide +kernel
theorem dL_law_258 : decode cL_law 258 = .ok (.iconst 1, 1) := by decide +kernel
theorem dL_law_259 : decode cL_law 259 = .ok (.goto 4, 3) := by decide +kernel
theorem dL_law_262 : decode cL_law 262 = .ok (.iconst 0, 1) := by decide +kernel
theorem dL_law_263 : decode cL_law 263 = .ok (.aload_n 1, 1) := by decide +kernel
theorem dL_law_264 : decode cL_law 264 = .ok (.iload 12, 2) := by decide +kernel
theorem dL_law_266 : decode cL_law 266 = .ok (.invokevirtual 92, 3) := by decide +kernel
theorem dL_law_269 : decode cL_law 269 = .ok (.ifCond .le 7, 3) := by decide +kernel
theorem dL_law_272 : decode cL_law 272 = .ok (.iconst 1, 1) := by decide +kernel
theorem dL_law_273 : decode cL_law 273 = .ok (.goto 4, 3) := by decide +kernel
theorem dL_law_276 : decode cL_law 276 = .ok (.iconst 0, 1) := by decide +kernel
theorem dL_law_277 : decode cL_law 277 = .ok (.if_icmp .ne 10, 3) := by decide +kernel
theorem dL_law_280 : decode cL_law 280 = .ok (.iload 13, 2) := by decide +kernel
theorem dL_law_282 : decode cL_law 282 = .ok (.bipush 28, 2) := by decide +kernel
theorem dL_law_284 : decode cL_law 284 = .ok (.if_icmp .le 5, 3) := by decide +kernel
theorem dL_law_287 : decode cL_law 287 = .ok (.iconst 0, 1) := by decide +kernel
theorem dL_law_288 : decode cL_law 288 = .ok (.ireturn, 1) := by decide +kernel
theorem dL_law_289 : decode cL_law 289 = .ok (.iconst 0, 1) := by decide +kernel
theorem dL_law_290 : decode cL_law 290 = .ok (.istore 14, 2) := by decide +kernel
theorem dL_law_292 : decode cL_law 292 = .ok (.iload 14, 2) := by decide +kernel
theorem dL_law_294 : decode cL_law 294 = .ok (.iload 5, 2) := by decide +kernel
theorem dL_law_296 : decode cL_law 296 = .ok (.if_icmp .ge 43, 3) := by decide +kernel
theorem dL_law_299 : decode cL_law 299 = .ok (.iload 13, 2) := by decide +kernel
theorem dL_law_301 : decode cL_law 301 = .ok (.ifCond .lt 38, 3) := by decide +kernel
theorem dL_law_304 : decode cL_law 304 = .ok (.aload_n 1, 1) := by decide +kernel
theorem dL_law_305 : decode cL_law 305 = .ok (.iload 12, 2) := by decide +kernel
theorem dL_law_307 : decode cL_law 307 = .ok (.iconst 1, 1) := by decide +kernel
theorem dL_law_308 : decode cL_law 308 = .ok (.iload 14, 2) := by decide +kernel
theorem dL_law_310 : decode cL_law 310 = .ok (.ishl, 1) := by decide +kernel
theorem dL_law_311 : decode cL_law 311 = .ok (.iconst (-1), 1) := by decide +kernel
theorem dL_law_312 : decode cL_law 312 = .ok (.ixor, 1) := by decide +kernel
theorem dL_law_313 : decode cL_law 313 = .ok (.iand, 1) := by decide +kernel
theorem dL_law_314 : decode cL_law 314 = .ok (.invokevirtual 89, 3) := by decide +kernel
theorem dL_law_317 : decode cL_law 317 = .ok (.istore 15, 2) := by decide +kernel
theorem dL_law_319 : decode cL_law 319 = .ok (.iload 15, 2) := by decide +kernel
theorem dL_law_321 : decode cL_law 321 = .ok (.ifCond .lt 10, 3) := by decide +kernel
theorem dL_law_324 : decode cL_law 324 = .ok (.iload 15, 2) := by decide +kernel
theorem dL_law_326 : decode cL_law 326 = .ok (.iload 13, 2) := by decide +kernel
theorem dL_law_328 : decode cL_law 328 = .ok (.if_icmp .le 5, 3) := by decide +kernel
theorem dL_law_331 : decode cL_law 331 = .ok (.iconst 0, 1) := by decide +kernel
theorem dL_law_332 : decode cL_law 332 = .ok (.ireturn, 1) := by decide +kernel
theorem dL_law_333 : decode cL_law 333 = .ok (.iinc 14 1, 3) := by decide +kernel
theorem dL_law_336 : decode cL_law 336 = .ok (.goto (-44), 3) := by decide +kernel
theorem dL_law_339 : decode cL_law 339 = .ok (.iload 13, 2) := by decide +kernel
theorem dL_law_341 : decode cL_law 341 = .ok (.ifCond .lt 129, 3) := by decide +kernel
theorem dL_law_344 : decode cL_law 344 = .ok (.iconst 0, 1) := by decide +kernel
theorem dL_law_345 : decode cL_law 345 = .ok (.istore 14, 2) := by decide +kernel
theorem dL_law_347 : decode cL_law 347 = .ok (.iconst 0, 1) := by decide +kernel
theorem dL_law_348 : decode cL_law 348 = .ok (.istore 15, 2) := by decide +kernel
theorem dL_law_350 : decode cL_law 350 = .ok (.iload 15, 2) := by decide +kernel
theorem dL_law_352 : decode cL_law 352 = .ok (.iload 5, 2) := by decide +kernel
theorem dL_law_354 : decode cL_law 354 = .ok (.if_icmp .ge 32, 3) := by decide +kernel
theorem dL_law_357 : decode cL_law 357 = .ok (.iload 14, 2) := by decide +kernel
theorem dL_law_359 : decode cL_law 359 = .ok (.iload 12, 2) := by decide +kernel
theorem dL_law_361 : decode cL_law 361 = .ok (.iload 15, 2) := by decide +kernel
theorem dL_law_363 : decode cL_law 363 = .ok (.ishr, 1) := by decide +kernel
theorem dL_law_364 : decode cL_law 364 = .ok (.iconst 1, 1) := by decide +kernel
theorem dL_law_365 : decode cL_law 365 = .ok (.iand, 1) := by decide +kernel
theorem dL_law_366 : decode cL_law 366 = .ok (.aload_n 3, 1) := by decide +kernel
theorem dL_law_367 : decode cL_law 367 = .ok (.bipush 14, 2) := by decide +kernel
theorem dL_law_369 : decode cL_law 369 = .ok (.bipush 6, 2) := by decide +kernel
theorem dL_law_371 : decode cL_law 371 = .ok (.iload 15, 2) := by decide +kernel
theorem dL_law_373 : decode cL_law 373 = .ok (.imul, 1) := by decide +kernel
theorem dL_law_374 : decode cL_law 374 = .ok (.iadd, 1) := by decide +kernel
theorem dL_law_375 : decode cL_law 375 = .ok (.iaload, 1) := by decide +kernel
theorem dL_law_376 : decode cL_law 376 = .ok (.imul, 1) := by decide +kernel
theorem dL_law_377 : decode cL_law 377 = .ok (.iadd, 1) := by decide +kernel
theorem dL_law_378 : decode cL_law 378 = .ok (.istore 14, 2) := by decide +kernel
theorem dL_law_380 : decode cL_law 380 = .ok (.iinc 15 1, 3) := by decide +kernel
theorem dL_law_383 : decode cL_law 383 = .ok (.goto (-33), 3) := by decide +kernel
theorem dL_law_386 : decode cL_law 386 = .ok (.aload_n 1, 1) := by decide +kernel
theorem dL_law_387 : decode cL_law 387 = .ok (.iload 12, 2) := by decide +kernel
theorem dL_law_389 : decode cL_law 389 = .ok (.invokevirtual 95, 3) := by decide +kernel
theorem dL_law_392 : decode cL_law 392 = .ok (.istore 15, 2) := by decide +kernel
theorem dL_law_394 : decode cL_law 394 = .ok (.iconst 0, 1) := by decide +kernel
theorem dL_law_395 : decode cL_law 395 = .ok (.istore 16, 2) := by decide +kernel
theorem dL_law_397 : decode cL_law 397 = .ok (.iconst 0, 1) := by decide +kernel
theorem dL_law_398 : decode cL_law 398 = .ok (.istore 17, 2) := by decide +kernel
theorem dL_law_400 : decode cL_law 400 = .ok (.iload 17, 2) := by decide +kernel
theorem dL_law_402 : decode cL_law 402 = .ok (.bipush 28, 2) := by decide +kernel
theorem dL_law_404 : decode cL_law 404 = .ok (.if_icmp .ge 21, 3) := by decide +kernel
theorem dL_law_407 : decode cL_law 407 = .ok (.iload 16, 2) := by decide +kernel
theorem dL_law_409 : decode cL_law 409 = .ok (.iload 15, 2) := by decide +kernel
theorem dL_law_411 : decode cL_law 411 = .ok (.iload 17, 2) := by decide +kernel
theorem dL_law_413 : decode cL_law 413 = .ok (.ishr, 1) := by decide +kernel
theorem dL_law_414 : decode cL_law 414 = .ok (.iconst 1, 1) := by decide +kernel
theorem dL_law_415 : decode cL_law 415 = .ok (.iand, 1) := by decide +kernel
theorem dL_law_416 : decode cL_law 416 = .ok (.iadd, 1) := by decide +kernel
theorem dL_law_417 : decode cL_law 417 = .ok (.istore 16, 2) := by decide +kernel
theorem dL_law_419 : decode cL_law 419 = .ok (.iinc 17 1, 3) := by decide +kernel
theorem dL_law_422 : decode cL_law 422 = .ok (.goto (-22), 3) := by decide +kernel
theorem dL_law_425 : decode cL_law 425 = .ok (.iload 16, 2) := by decide +kernel
theorem dL_law_427 : decode cL_law 427 = .ok (.iload 14, 2) := by decide +kernel
theorem dL_law_429 : decode cL_law 429 = .ok (.if_icmp .ne 39, 3) := by decide +kernel
theorem dL_law_432 : decode cL_law 432 = .ok (.iload 15, 2) := by decide +kernel
theorem dL_law_434 : decode cL_law 434 = .ok (.bipush 28, 2) := by decide +kernel
theorem dL_law_436 : decode cL_law 436 = .ok (.ishr, 1) := by decide +kernel
theorem dL_law_437 : decode cL_law 437 = .ok (.ifCond .ne 31, 3) := by decide +kernel
theorem dL_law_440 : decode cL_law 440 = .ok (.aload_n 1, 1) := by decide +kernel
theorem dL_law_441 : decode cL_law 441 = .ok (.iload 12, 2) := by decide +kernel
theorem dL_law_443 : decode cL_law 443 = .ok (.iconst 1, 1) := by decide +kernel
theorem dL_law_444 : decode cL_law 444 = .ok (.invokevirtual 98, 3) := by decide +kernel
theorem dL_law_447 : decode cL_law 447 = .ok (.iconst 1, 1) := by decide +kernel
theorem dL_law_448 : decode cL_law 448 = .ok (.if_icmp .ne 20, 3) := by decide +kernel
theorem dL_law_451 : decode cL_law 451 = .ok (.aload_n 1, 1) := by decide +kernel
theorem dL_law_452 : decode cL_law 452 = .ok (.iconst 1, 1) := by decide +kernel
theorem dL_law_453 : decode cL_law 453 = .ok (.invokevirtual 100, 3) := by decide +kernel
theorem dL_law_456 : decode cL_law 456 = .ok (.ifCond .lt 12, 3) := by decide +kernel
theorem dL_law_459 : decode cL_law 459 = .ok (.aload_n 1, 1) := by decide +kernel
theorem dL_law_460 : decode cL_law 460 = .ok (.invokevirtual 65, 3) := by decide +kernel
theorem dL_law_463 : decode cL_law 463 = .ok (.iload 13, 2) := by decide +kernel
theorem dL_law_465 : decode cL_law 465 = .ok (.if_icmp .ge 5, 3) := by decide +kernel
theorem dL_law_468 : decode cL_law 468 = .ok (.iconst 0, 1) := by decide +kernel
theorem dL_law_469 : decode cL_law 469 = .ok (.ireturn, 1) := by decide +kernel
theorem dL_law_470 : decode cL_law 470 = .ok (.iinc 12 1, 3) := by decide +kernel
theorem dL_law_473 : decode cL_law 473 = .ok (.goto (-263), 3) := by decide +kernel
theorem dL_law_476 : decode cL_law 476 = .ok (.iload 11, 2) := by decide +kernel
theorem dL_law_478 : decode cL_law 478 = .ok (.iload 9, 2) := by decide +kernel
theorem dL_law_480 : decode cL_law 480 = .ok (.if_icmp .ne 45, 3) := by decide +kernel
theorem dL_law_483 : decode cL_law 483 = .ok (.iload 8, 2) := by decide +kernel
theorem dL_law_485 : decode cL_law 485 = .ok (.iload 10, 2) := by decide +kernel
theorem dL_law_487 : decode cL_law 487 = .ok (.if_icmp .gt 38, 3) := by decide +kernel
theorem dL_law_490 : decode cL_law 490 = .ok (.iload 6, 2) := by decide +kernel
theorem dL_law_492 : decode cL_law 492 = .ok (.ifCond .lt 35, 3) := by decide +kernel
theorem dL_law_495 : decode cL_law 495 = .ok (.iload 7, 2) := by decide +kernel
theorem dL_law_497 : decode cL_law 497 = .ok (.iload 10, 2) := by decide +kernel
theorem dL_law_499 : decode cL_law 499 = .ok (.if_icmp .gt 26, 3) := by decide +kernel
theorem dL_law_502 : decode cL_law 502 = .ok (.aload_n 1, 1) := by decide +kernel
theorem dL_law_503 : decode cL_law 503 = .ok (.iload 6, 2) := by decide +kernel
theorem dL_law_505 : decode cL_law 505 = .ok (.invokevirtual 89, 3) := by decide +kernel
theorem dL_law_508 : decode cL_law 508 = .ok (.ifCond .lt 17, 3) := by decide +kernel
theorem dL_law_511 : decode cL_law 511 = .ok (.iload 6, 2) := by decide +kernel
theorem dL_law_513 : decode cL_law 513 = .ok (.aload_n 3, 1) := by decide +kernel
theorem dL_law_514 : decode cL_law 514 = .ok (.invokestatic 103, 3) := by decide +kernel
theorem dL_law_517 : decode cL_law 517 = .ok (.iand, 1) := by decide +kernel
theorem dL_law_518 : decode cL_law 518 = .ok (.aload_n 3, 1) := by decide +kernel
theorem dL_law_519 : decode cL_law 519 = .ok (.invokestatic 103, 3) := by decide +kernel
theorem dL_law_522 : decode cL_law 522 = .ok (.if_icmp .eq 5, 3) := by decide +kernel
theorem dL_law_525 : decode cL_law 525 = .ok (.iconst 0, 1) := by decide +kernel
theorem dL_law_526 : decode cL_law 526 = .ok (.ireturn, 1) := by decide +kernel
theorem dL_law_527 : decode cL_law 527 = .ok (.iconst 0, 1) := by decide +kernel
theorem dL_law_528 : decode cL_law 528 = .ok (.istore 12, 2) := by decide +kernel
theorem dL_law_530 : decode cL_law 530 = .ok (.iload 12, 2) := by decide +kernel
theorem dL_law_532 : decode cL_law 532 = .ok (.iload 5, 2) := by decide +kernel
theorem dL_law_534 : decode cL_law 534 = .ok (.if_icmp .ge 90, 3) := by decide +kernel
theorem dL_law_537 : decode cL_law 537 = .ok (.aload_n 1, 1) := by decide +kernel
theorem dL_law_538 : decode cL_law 538 = .ok (.iload 12, 2) := by decide +kernel
theorem dL_law_540 : decode cL_law 540 = .ok (.invokevirtual 107, 3) := by decide +kernel
theorem dL_law_543 : decode cL_law 543 = .ok (.istore 13, 2) := by decide +kernel
theorem dL_law_545 : decode cL_law 545 = .ok (.iload 6, 2) := by decide +kernel
theorem dL_law_547 : decode cL_law 547 = .ok (.ifCond .lt 18, 3) := by decide +kernel
theorem dL_law_550 : decode cL_law 550 = .ok (.iload 6, 2) := by decide +kernel
theorem dL_law_552 : decode cL_law 552 = .ok (.iload 12, 2) := by decide +kernel
theorem dL_law_554 : decode cL_law 554 = .ok (.ishr, 1) := by decide +kernel
theorem dL_law_555 : decode cL_law 555 = .ok (.iconst 1, 1) := by decide +kernel
theorem dL_law_556 : decode cL_law 556 = .ok (.iand, 1) := by decide +kernel
theorem dL_law_557 : decode cL_law 557 = .ok (.iconst 1, 1) := by decide +kernel
theorem dL_law_558 : decode cL_law 558 = .ok (.if_icmp .ne 7, 3) := by decide +kernel
theorem dL_law_561 : decode cL_law 561 = .ok (.iconst 1, 1) := by decide +kernel
theorem dL_law_562 : decode cL_law 562 = .ok (.goto 4, 3) := by decide +kernel
theorem dL_law_565 : decode cL_law 565 = .ok (.iconst 0, 1) := by decide +kernel
theorem dL_law_566 : decode cL_law 566 = .ok (.istore 14, 2) := by decide +kernel
theorem dL_law_568 : decode cL_law 568 = .ok (.iload 13, 2) := by decide +kernel
theorem dL_law_570 : decode cL_law 570 = .ok (.bipush (-9), 2) := by decide +kernel
theorem dL_law_572 : decode cL_law 572 = .ok (.if_icmp .eq 32, 3) := by decide +kernel
theorem dL_law_575 : decode cL_law 575 = .ok (.iload 13, 2) := by decide +kernel
theorem dL_law_577 : decode cL_law 577 = .ok (.ifCond .ge 17, 3) := by decide +kernel
theorem dL_law_580 : decode cL_law 580 = .ok (.aload_n 3, 1) := by decide +kernel
theorem dL_law_581 : decode cL_law 581 = .ok (.iload 12, 2) := by decide +kernel
theorem dL_law_583 : decode cL_law 583 = .ok (.invokestatic 62, 3) := by decide +kernel
theorem dL_law_586 : decode cL_law 586 = .ok (.ifCond .ne 8, 3) := by decide +kernel
theorem dL_law_589 : decode cL_law 589 = .ok (.iload 14, 2) := by decide +kernel
theorem dL_law_591 : decode cL_law 591 = .ok (.ifCond .ne 25, 3) := by decide +kernel
theorem dL_law_594 : decode cL_law 594 = .ok (.iload 14, 2) := by decide +kernel
theorem dL_law_596 : decode cL_law 596 = .ok (.ifCond .ne 8, 3) := by decide +kernel
theorem dL_law_599 : decode cL_law 599 = .ok (.iload 13, 2) := by decide +kernel
theorem dL_law_601 : decode cL_law 601 = .ok (.ifCond .ne 15, 3) := by decide +kernel
theorem dL_law_604 : decode cL_law 604 = .ok (.iload 6, 2) := by decide +kernel
theorem dL_law_606 : decode cL_law 606 = .ok (.ifCond .ge 12, 3) := by decide +kernel
theorem dL_law_609 : decode cL_law 609 = .ok (.iload 13, 2) := by decide +kernel
theorem dL_law_611 : decode cL_law 611 = .ok (.bipush (-9), 2) := by decide +kernel
theorem dL_law_613 : decode cL_law 613 = .ok (.if_icmp .eq 5, 3) := by decide +kernel
theorem dL_law_616 : decode cL_law 616 = .ok (.iconst 0, 1) := by decide +kernel
theorem dL_law_617 : decode cL_law 617 = .ok (.ireturn, 1) := by decide +kernel
theorem dL_law_618 : decode cL_law 618 = .ok (.iinc 12 1, 3) := by decide +kernel
theorem dL_law_621 : decode cL_law 621 = .ok (.goto (-91), 3) := by decide +kernel
theorem dL_law_624 : decode cL_law 624 = .ok (.iconst 0, 1) := by decide +kernel
theorem dL_law_625 : decode cL_law 625 = .ok (.istore 12, 2) := by decide +kernel
theorem dL_law_627 : decode cL_law 627 = .ok (.iload 12, 2) := by decide +kernel
theorem dL_law_629 : decode cL_law 629 = .ok (.aload_n 3, 1) := by decide +kernel
theorem dL_law_630 : decode cL_law 630 = .ok (.iconst 0, 1) := by decide +kernel
theorem dL_law_631 : decode cL_law 631 = .ok (.iaload, 1) := by decide +kernel
theorem dL_law_632 : decode cL_law 632 = .ok (.if_icmp .ge 62, 3) := by decide +kernel
theorem dL_law_635 : decode cL_law 635 = .ok (.aload_n 1, 1) := by decide +kernel
theorem dL_law_636 : decode cL_law 636 = .ok (.iload 12, 2) := by decide +kernel
theorem dL_law_638 : decode cL_law 638 = .ok (.invokevirtual 110, 3) := by decide +kernel
theorem dL_law_641 : decode cL_law 641 = .ok (.istore 13, 2) := by decide +kernel
theorem dL_law_643 : decode cL_law 643 = .ok (.aload_n 1, 1) := by decide +kernel
theorem dL_law_644 : decode cL_law 644 = .ok (.invokevirtual 65, 3) := by decide +kernel
theorem dL_law_647 : decode cL_law 647 = .ok (.istore 14, 2) := by decide +kernel
theorem dL_law_649 : decode cL_law 649 = .ok (.iload 6, 2) := by decide +kernel
theorem dL_law_651 : decode cL_law 651 = .ok (.ifCond .lt 20, 3) := by decide +kernel
theorem dL_law_654 : decode cL_law 654 = .ok (.iload 13, 2) := by decide +kernel
theorem dL_law_656 : decode cL_law 656 = .ok (.iload 7, 2) := by decide +kernel
theorem dL_law_658 : decode cL_law 658 = .ok (.if_icmp .lt 28, 3) := by decide +kernel
theorem dL_law_661 : decode cL_law 661 = .ok (.iload 14, 2) := by decide +kernel
theorem dL_law_663 : decode cL_law 663 = .ok (.iload 13, 2) := by decide +kernel
theorem dL_law_665 : decode cL_law 665 = .ok (.iload 7, 2) := by decide +kernel
theorem dL_law_667 : decode cL_law 667 = .ok (.isub, 1) := by decide +kernel
theorem dL_law_668 : decode cL_law 668 = .ok (.if_icmp .ne 18, 3) := by decide +kernel
theorem dL_law_671 : decode cL_law 671 = .ok (.iload 13, 2) := by decide +kernel
theorem dL_law_673 : decode cL_law 673 = .ok (.aload_n 3, 1) := by decide +kernel
theorem dL_law_674 : decode cL_law 674 = .ok (.iconst 1, 1) := by decide +kernel
theorem dL_law_675 : decode cL_law 675 = .ok (.iload 5, 2) := by decide +kernel
theorem dL_law_677 : decode cL_law 677 = .ok (.ishl, 1) := by decide +kernel
theorem dL_law_678 : decode cL_law 678 = .ok (.iconst 1, 1) := by decide +kernel
theorem dL_law_679 : decode cL_law 679 = .ok (.isub, 1) := by decide +kernel
theorem dL_law_680 : decode cL_law 680 = .ok (.invokestatic 59, 3) := by decide +kernel
theorem dL_law_683 : decode cL_law 683 = .ok (.if_icmp .le 5, 3) := by decide +kernel
theorem dL_law_686 : decode cL_law 686 = .ok (.iconst 0, 1) := by decide +kernel
theorem dL_law_687 : decode cL_law 687 = .ok (.ireturn, 1) := by decide +kernel
theorem dL_law_688 : decode cL_law 688 = .ok (.iinc 12 1, 3) := by decide +kernel
theorem dL_law_691 : decode cL_law 691 = .ok (.goto (-64), 3) := by decide +kernel
theorem dL_law_694 : decode cL_law 694 = .ok (.aload_n 0, 1) := by decide +kernel
theorem dL_law_695 : decode cL_law 695 = .ok (.iconst 0, 1) := by decide +kernel
theorem dL_law_696 : decode cL_law 696 = .ok (.invokestatic 19, 3) := by decide +kernel
theorem dL_law_699 : decode cL_law 699 = .ok (.iconst 1, 1) := by decide +kernel
theorem dL_law_700 : decode cL_law 700 = .ok (.iload 5, 2) := by decide +kernel
theorem dL_law_702 : decode cL_law 702 = .ok (.ishl, 1) := by decide +kernel
theorem dL_law_703 : decode cL_law 703 = .ok (.irem, 1) := by decide +kernel
theorem dL_law_704 : decode cL_law 704 = .ok (.istore 12, 2) := by decide +kernel
theorem dL_law_706 : decode cL_law 706 = .ok (.aload_n 0, 1) := by decide +kernel
theorem dL_law_707 : decode cL_law 707 = .ok (.iconst 1, 1) := by decide +kernel
theorem dL_law_708 : decode cL_law 708 = .ok (.invokestatic 19, 3) := by decide +kernel
theorem dL_law_711 : decode cL_law 711 = .ok (.aload_n 3, 1) := by decide +kernel
theorem dL_law_712 : decode cL_law 712 = .ok (.iconst 0, 1) := by decide +kernel
theorem dL_law_713 : decode cL_law 713 = .ok (.iaload, 1) := by decide +kernel
theorem dL_law_714 : decode cL_law 714 = .ok (.irem, 1) := by decide +kernel
theorem dL_law_715 : decode cL_law 715 = .ok (.istore 13, 2) := by decide +kernel
theorem dL_law_717 : decode cL_law 717 = .ok (.aload_n 1, 1) := by decide +kernel
theorem dL_law_718 : decode cL_law 718 = .ok (.iload 12, 2) := by decide +kernel
theorem dL_law_720 : decode cL_law 720 = .ok (.iload 13, 2) := by decide +kernel
theorem dL_law_722 : decode cL_law 722 = .ok (.invokevirtual 113, 3) := by decide +kernel
theorem dL_law_725 : decode cL_law 725 = .ok (.istore 14, 2) := by decide +kernel
theorem dL_law_727 : decode cL_law 727 = .ok (.iload 14, 2) := by decide +kernel
theorem dL_law_729 : decode cL_law 729 = .ok (.ifCond .ge 7, 3) := by decide +kernel
theorem dL_law_732 : decode cL_law 732 = .ok (.iconst 1, 1) := by decide +kernel
theorem dL_law_733 : decode cL_law 733 = .ok (.goto 4, 3) := by decide +kernel
theorem dL_law_736 : decode cL_law 736 = .ok (.iconst 0, 1) := by decide +kernel
theorem dL_law_737 : decode cL_law 737 = .ok (.aload_n 1, 1) := by decide +kernel
theorem dL_law_738 : decode cL_law 738 = .ok (.iload 12, 2) := by decide +kernel
theorem dL_law_740 : decode cL_law 740 = .ok (.invokevirtual 89, 3) := by decide +kernel
theorem dL_law_743 : decode cL_law 743 = .ok (.ifCond .ge 7, 3) := by decide +kernel
theorem dL_law_746 : decode cL_law 746 = .ok (.iconst 1, 1) := by decide +kernel
theorem dL_law_747 : decode cL_law 747 = .ok (.goto 4, 3) := by decide +kernel
theorem dL_law_750 : decode cL_law 750 = .ok (.iconst 0, 1) := by decide +kernel
theorem dL_law_751 : decode cL_law 751 = .ok (.if_icmp .ne 22, 3) := by decide +kernel
theorem dL_law_754 : decode cL_law 754 = .ok (.iload 14, 2) := by decide +kernel
theorem dL_law_756 : decode cL_law 756 = .ok (.bipush 8, 2) := by decide +kernel
theorem dL_law_758 : decode cL_law 758 = .ok (.if_icmp .gt 15, 3) := by decide +kernel
theorem dL_law_761 : decode cL_law 761 = .ok (.aload_n 1, 1) := by decide +kernel
theorem dL_law_762 : decode cL_law 762 = .ok (.iconst 0, 1) := by decide +kernel
theorem dL_law_763 : decode cL_law 763 = .ok (.iload 13, 2) := by decide +kernel
theorem dL_law_765 : decode cL_law 765 = .ok (.invokevirtual 113, 3) := by decide +kernel
theorem dL_law_768 : decode cL_law 768 = .ok (.bipush 8, 2) := by decide +kernel
theorem dL_law_770 : decode cL_law 770 = .ok (.if_icmp .eq 5, 3) := by decide +kernel
theorem dL_law_773 : decode cL_law 773 = .ok (.iconst 0, 1) := by decide +kernel
theorem dL_law_774 : decode cL_law 774 = .ok (.ireturn, 1) := by decide +kernel
theorem dL_law_775 : decode cL_law 775 = .ok (.iconst 0, 1) := by decide +kernel
theorem dL_law_776 : decode cL_law 776 = .ok (.istore 15, 2) := by decide +kernel
theorem dL_law_778 : decode cL_law 778 = .ok (.iload 15, 2) := by decide +kernel
theorem dL_law_780 : decode cL_law 780 = .ok (.iload 5, 2) := by decide +kernel
theorem dL_law_782 : decode cL_law 782 = .ok (.if_icmp .ge 36, 3) := by decide +kernel
theorem dL_law_785 : decode cL_law 785 = .ok (.iload 14, 2) := by decide +kernel
theorem dL_law_787 : decode cL_law 787 = .ok (.ifCond .lt 31, 3) := by decide +kernel
theorem dL_law_790 : decode cL_law 790 = .ok (.aload_n 1, 1) := by decide +kernel
theorem dL_law_791 : decode cL_law 791 = .ok (.iload 12, 2) := by decide +kernel
theorem dL_law_793 : decode cL_law 793 = .ok (.iconst 1, 1) := by decide +kernel
theorem dL_law_794 : decode cL_law 794 = .ok (.iload 15, 2) := by decide +kernel
theorem dL_law_796 : decode cL_law 796 = .ok (.ishl, 1) := by decide +kernel
theorem dL_law_797 : decode cL_law 797 = .ok (.iconst (-1), 1) := by decide +kernel
theorem dL_law_798 : decode cL_law 798 = .ok (.ixor, 1) := by decide +kernel
theorem dL_law_799 : decode cL_law 799 = .ok (.iand, 1) := by decide +kernel
theorem dL_law_800 : decode cL_law 800 = .ok (.iload 13, 2) := by decide +kernel
theorem dL_law_802 : decode cL_law 802 = .ok (.invokevirtual 113, 3) := by decide +kernel
theorem dL_law_805 : decode cL_law 805 = .ok (.iload 14, 2) := by decide +kernel
theorem dL_law_807 : decode cL_law 807 = .ok (.if_icmp .ge 5, 3) := by decide +kernel
theorem dL_law_810 : decode cL_law 810 = .ok (.iconst 0, 1) := by decide +kernel
theorem dL_law_811 : decode cL_law 811 = .ok (.ireturn, 1) := by decide +kernel
theorem dL_law_812 : decode cL_law 812 = .ok (.iinc 15 1, 3) := by decide +kernel
theorem dL_law_815 : decode cL_law 815 = .ok (.goto (-37), 3) := by decide +kernel
theorem dL_law_818 : decode cL_law 818 = .ok (.aload_n 1, 1) := by decide +kernel
theorem dL_law_819 : decode cL_law 819 = .ok (.aload_n 0, 1) := by decide +kernel
theorem dL_law_820 : decode cL_law 820 = .ok (.aload_n 3, 1) := by decide +kernel
theorem dL_law_821 : decode cL_law 821 = .ok (.iload 5, 2) := by decide +kernel
theorem dL_law_823 : decode cL_law 823 = .ok (.invokestatic 116, 3) := by decide +kernel
theorem dL_law_826 : decode cL_law 826 = .ok (.ifCond .eq 29, 3) := by decide +kernel
theorem dL_law_829 : decode cL_law 829 = .ok (.aload_n 1, 1) := by decide +kernel
theorem dL_law_830 : decode cL_law 830 = .ok (.aload_n 0, 1) := by decide +kernel
theorem dL_law_831 : decode cL_law 831 = .ok (.aload_n 3, 1) := by decide +kernel
theorem dL_law_832 : decode cL_law 832 = .ok (.iconst 0, 1) := by decide +kernel
theorem dL_law_833 : decode cL_law 833 = .ok (.iaload, 1) := by decide +kernel
theorem dL_law_834 : decode cL_law 834 = .ok (.invokestatic 120, 3) := by decide +kernel
theorem dL_law_837 : decode cL_law 837 = .ok (.ifCond .eq 18, 3) := by decide +kernel
theorem dL_law_840 : decode cL_law 840 = .ok (.aload_n 1, 1) := by decide +kernel
theorem dL_law_841 : decode cL_law 841 = .ok (.aload_n 0, 1) := by decide +kernel
theorem dL_law_842 : decode cL_law 842 = .ok (.aload_n 3, 1) := by decide +kernel
theorem dL_law_843 : decode cL_law 843 = .ok (.iconst 0, 1) := by decide +kernel
theorem dL_law_844 : decode cL_law 844 = .ok (.iaload, 1) := by decide +kernel
theorem dL_law_845 : decode cL_law 845 = .ok (.invokestatic 124, 3) := by decide +kernel
theorem dL_law_848 : decode cL_law 848 = .ok (.ifCond .eq 7, 3) := by decide +kernel
theorem dL_law_851 : decode cL_law 851 = .ok (.iconst 1, 1) := by decide +kernel
theorem dL_law_852 : decode cL_law 852 = .ok (.goto 4, 3) := by decide +kernel
theorem dL_law_855 : decode cL_law 855 = .ok (.iconst 0, 1) := by decide +kernel
theorem dL_law_856 : decode cL_law 856 = .ok (.ireturn, 1) := by decide +kernel
theorem dL_chances_0 : decode cL_chances 0 = .ok (.aload_n 0, 1) := by decide +kernel
theorem dL_chances_1 : decode cL_chances 1 = .ok (.invokevirtual 127, 3) := by decide +kernel
theorem dL_chances_4 : decode cL_chances 4 = .ok (.iconst 1, 1) := by decide +kernel
theorem dL_chances_5 : decode cL_chances 5 = .ok (.if_icmp .eq 5, 3) := by decide +kernel
theorem dL_chances_8 : decode cL_chances 8 = .ok (.iconst 0, 1) := by decide +kernel
theorem dL_chances_9 : decode cL_chances 9 = .ok (.ireturn, 1) := by decide +kernel
theorem dL_chances_10 : decode cL_chances 10 = .ok (.aload_n 0, 1) := by decide +kernel
theorem dL_chances_11 : decode cL_chances 11 = .ok (.invokevirtual 130, 3) := by decide +kernel
theorem dL_chances_14 : decode cL_chances 14 = .ok (.lstore 4, 2) := by decide +kernel
theorem dL_chances_16 : decode cL_chances 16 = .ok (.aload_n 0, 1) := by decide +kernel
theorem dL_chances_17 : decode cL_chances 17 = .ok (.invokevirtual 134, 3) := by decide +kernel
theorem dL_chances_20 : decode cL_chances 20 = .ok (.lstore 6, 2) := by decide +kernel
theorem dL_chances_22 : decode cL_chances 22 = .ok (.iconst 0, 1) := by decide +kernel
theorem dL_chances_23 : decode cL_chances 23 = .ok (.istore 8, 2) := by decide +kernel
theorem dL_chances_25 : decode cL_chances 25 = .ok (.iconst 0, 1) := by decide +kernel
theorem dL_chances_26 : decode cL_chances 26 = .ok (.istore 9, 2) := by decide +kernel
theorem dL_chances_28 : decode cL_chances 28 = .ok (.iload 9, 2) := by decide +kernel
theorem dL_chances_30 : decode cL_chances 30 = .ok (.iload_n 3, 1) := by decide +kernel
theorem dL_chances_31 : decode cL_chances 31 = .ok (.if_icmp .ge 50, 3) := by decide +kernel
theorem dL_chances_34 : decode cL_chances 34 = .ok (.iload 8, 2) := by decide +kernel
theorem dL_chances_36 : decode cL_chances 36 = .ok (.aload_n 2, 1) := by decide +kernel
theorem dL_chances_37 : decode cL_chances 37 = .ok (.bipush 10, 2) := by decide +kernel
theorem dL_chances_39 : decode cL_chances 39 = .ok (.bipush 6, 2) := by decide +kernel
theorem dL_chances_41 : decode cL_chances 41 = .ok (.iload 9, 2) := by decide +kernel
theorem dL_chances_43 : decode cL_chances 43 = .ok (.imul, 1) := by decide +kernel
theorem dL_chances_44 : decode cL_chances 44 = .ok (.iadd, 1) := by decide +kernel
theorem dL_chances_45 : decode cL_chances 45 = .ok (.iaload, 1) := by decide +kernel
theorem dL_chances_46 : decode cL_chances 46 = .ok (.iconst 2, 1) := by decide +kernel
theorem dL_chances_47 : decode cL_chances 47 = .ok (.if_icmp .eq 17, 3) := by decide +kernel
theorem dL_chances_50 : decode cL_chances 50 = .ok (.aload_n 2, 1) := by decide +kernel
theorem dL_chances_51 : decode cL_chances 51 = .ok (.bipush 10, 2) := by decide +kernel
theorem dL_chances_53 : decode cL_chances 53 = .ok (.bipush 6, 2) := by decide +kernel
theorem dL_chances_55 : decode cL_chances 55 = .ok (.iload 9, 2) := by decide +kernel
theorem dL_chances_57 : decode cL_chances 57 = .ok (.imul, 1) := by decide +kernel
theorem dL_chances_58 : decode cL_chances 58 = .ok (.iadd, 1) := by decide +kernel
theorem dL_chances_59 : decode cL_chances 59 = .ok (.iaload, 1) := by decide +kernel
theorem dL_chances_60 : decode cL_chances 60 = .ok (.iconst 5, 1) := by decide +kernel
theorem dL_chances_61 : decode cL_chances 61 = .ok (.if_icmp .ne 10, 3) := by decide +kernel
theorem dL_chances_64 : decode cL_chances 64 = .ok (.iconst 1, 1) := by decide +kernel
theorem dL_chances_65 : decode cL_chances 65 = .ok (.iload 9, 2) := by decide +kernel
theorem dL_chances_67 : decode cL_chances 67 = .ok (.ishl, 1) := by decide +kernel
theorem dL_chances_68 : decode cL_chances 68 = .ok (.goto 4, 3) := by decide +kernel
theorem dL_chances_71 : decode cL_chances 71 = .ok (.iconst 0, 1) := by decide +kernel
theorem dL_chances_72 : decode cL_chances 72 = .ok (.ior, 1) := by decide +kernel
theorem dL_chances_73 : decode cL_chances 73 = .ok (.istore 8, 2) := by decide +kernel
theorem dL_chances_75 : decode cL_chances 75 = .ok (.iinc 9 1, 3) := by decide +kernel
theorem dL_chances_78 : decode cL_chances 78 = .ok (.goto (-50), 3) := by decide +kernel
theorem dL_chances_81 : decode cL_chances 81 = .ok (.lload 4, 2) := by decide +kernel
theorem dL_chances_83 : decode cL_chances 83 = .ok (.aload_n 0, 1) := by decide +kernel
theorem dL_chances_84 : decode cL_chances 84 = .ok (.iload 8, 2) := by decide +kernel
theorem dL_chances_86 : decode cL_chances 86 = .ok (.aload_n 2, 1) := by decide +kernel
theorem dL_chances_87 : decode cL_chances 87 = .ok (.invokestatic 103, 3) := by decide +kernel
theorem dL_chances_90 : decode cL_chances 90 = .ok (.ior, 1) := by decide +kernel
theorem dL_chances_91 : decode cL_chances 91 = .ok (.invokevirtual 89, 3) := by decide +kernel
theorem dL_chances_94 : decode cL_chances 94 = .ok (.ifCond .lt 8, 3) := by decide +kernel
theorem dL_chances_97 : decode cL_chances 97 = .ok (.lload 6, 2) := by decide +kernel
theorem dL_chances_99 : decode cL_chances 99 = .ok (.goto 4, 3) := by decide +kernel
theorem dL_chances_102 : decode cL_chances 102 = .ok (.lconst 0, 1) := by decide +kernel
theorem dL_chances_103 : decode cL_chances 103 = .ok (.lcmp, 1) := by decide +kernel
theorem dL_chances_104 : decode cL_chances 104 = .ok (.ifCond .eq 5, 3) := by decide +kernel
theorem dL_chances_107 : decode cL_chances 107 = .ok (.iconst 0, 1) := by decide +kernel
theorem dL_chances_108 : decode cL_chances 108 = .ok (.ireturn, 1) := by decide +kernel
theorem dL_chances_109 : decode cL_chances 109 = .ok (.iconst 0, 1) := by decide +kernel
theorem dL_chances_110 : decode cL_chances 110 = .ok (.istore 9, 2) := by decide +kernel
theorem dL_chances_112 : decode cL_chances 112 = .ok (.iload 9, 2) := by decide +kernel
theorem dL_chances_114 : decode cL_chances 114 = .ok (.iload_n 3, 1) := by decide +kernel
theorem dL_chances_115 : decode cL_chances 115 = .ok (.if_icmp .ge 94, 3) := by decide +kernel
theorem dL_chances_118 : decode cL_chances 118 = .ok (.iload 8, 2) := by decide +kernel
theorem dL_chances_120 : decode cL_chances 120 = .ok (.iload 9, 2) := by decide +kernel
theorem dL_chances_122 : decode cL_chances 122 = .ok (.ishr, 1) := by decide +kernel
theorem dL_chances_123 : decode cL_chances 123 = .ok (.iconst 1, 1) := by decide +kernel
theorem dL_chances_124 : decode cL_chances 124 = .ok (.iand, 1) := by decide +kernel
theorem dL_chances_125 : decode cL_chances 125 = .ok (.iconst 1, 1) := by decide +kernel
theorem dL_chances_126 : decode cL_chances 126 = .ok (.if_icmp .ne 77, 3) := by decide +kernel
theorem dL_chances_129 : decode cL_chances 129 = .ok (.aload_n 0, 1) := by decide +kernel
theorem dL_chances_130 : decode cL_chances 130 = .ok (.iload 9, 2) := by decide +kernel
theorem dL_chances_132 : decode cL_chances 132 = .ok (.aload_n 1, 1) := by decide +kernel
theorem dL_chances_133 : decode cL_chances 133 = .ok (.iconst 2, 1) := by decide +kernel
theorem dL_chances_134 : decode cL_chances 134 = .ok (.iload 9, 2) := by decide +kernel
theorem dL_chances_136 : decode cL_chances 136 = .ok (.iadd, 1) := by decide +kernel
theorem dL_chances_137 : decode cL_chances 137 = .ok (.invokestatic 19, 3) := by decide +kernel
theorem dL_chances_140 : decode cL_chances 140 = .ok (.bipush 13, 2) := by decide +kernel
theorem dL_chances_142 : decode cL_chances 142 = .ok (.irem, 1) := by decide +kernel
theorem dL_chances_143 : decode cL_chances 143 = .ok (.invokevirtual 137, 3) := by decide +kernel
theorem dL_chances_146 : decode cL_chances 146 = .ok (.bipush 12, 2) := by decide +kernel
theorem dL_chances_148 : decode cL_chances 148 = .ok (.if_icmp .ne 41, 3) := by decide +kernel
theorem dL_chances_151 : decode cL_chances 151 = .ok (.aload_n 0, 1) := by decide +kernel
theorem dL_chances_152 : decode cL_chances 152 = .ok (.invokevirtual 127, 3) := by decide +kernel
theorem dL_chances_155 : decode cL_chances 155 = .ok (.iconst 1, 1) := by decide +kernel
theorem dL_chances_156 : decode cL_chances 156 = .ok (.if_icmp .ne 33, 3) := by decide +kernel
theorem dL_chances_159 : decode cL_chances 159 = .ok (.aload_n 0, 1) := by decide +kernel
theorem dL_chances_160 : decode cL_chances 160 = .ok (.invokevirtual 130, 3) := by decide +kernel
theorem dL_chances_163 : decode cL_chances 163 = .ok (.lload 6, 2) := by decide +kernel
theorem dL_chances_165 : decode cL_chances 165 = .ok (.lmul, 1) := by decide +kernel
theorem dL_chances_166 : decode cL_chances 166 = .ok (.lload 4, 2) := by decide +kernel
theorem dL_chances_168 : decode cL_chances 168 = .ok (.aload_n 0, 1) := by decide +kernel
theorem dL_chances_169 : decode cL_chances 169 = .ok (.invokevirtual 134, 3) := by decide +kernel
theorem dL_chances_172 : decode cL_chances 172 = .ok (.lmul, 1) := by decide +kernel
theorem dL_chances_173 : decode cL_chances 173 = .ok (.lcmp, 1) := by decide +kernel
theorem dL_chances_174 : decode cL_chances 174 = .ok (.ifCond .lt 15, 3) := by decide +kernel
theorem dL_chances_177 : decode cL_chances 177 = .ok (.aload_n 0, 1) := by decide +kernel
theorem dL_chances_178 : decode cL_chances 178 = .ok (.invokevirtual 130, 3) := by decide +kernel
theorem dL_chances_181 : decode cL_chances 181 = .ok (.aload_n 0, 1) := by decide +kernel
theorem dL_chances_182 : decode cL_chances 182 = .ok (.invokevirtual 134, 3) := by decide +kernel
theorem dL_chances_185 : decode cL_chances 185 = .ok (.lcmp, 1) := by decide +kernel
theorem dL_chances_186 : decode cL_chances 186 = .ok (.ifCond .le 5, 3) := by decide +kernel
theorem dL_chances_189 : decode cL_chances 189 = .ok (.iconst 0, 1) := by decide +kernel
theorem dL_chances_190 : decode cL_chances 190 = .ok (.ireturn, 1) := by decide +kernel
theorem dL_chances_191 : decode cL_chances 191 = .ok (.aload_n 0, 1) := by decide +kernel
theorem dL_chances_192 : decode cL_chances 192 = .ok (.invokevirtual 130, 3) := by decide +kernel
theorem dL_chances_195 : decode cL_chances 195 = .ok (.lstore 4, 2) := by decide +kernel
theorem dL_chances_197 : decode cL_chances 197 = .ok (.aload_n 0, 1) := by decide +kernel
theorem dL_chances_198 : decode cL_chances 198 = .ok (.invokevirtual 134, 3) := by decide +kernel
theorem dL_chances_201 : decode cL_chances 201 = .ok (.lstore 6, 2) := by decide +kernel
theorem dL_chances_203 : decode cL_chances 203 = .ok (.iinc 9 1, 3) := by decide +kernel
theorem dL_chances_206 : decode cL_chances 206 = .ok (.goto (-94), 3) := by decide +kernel
theorem dL_chances_209 : decode cL_chances 209 = .ok (.aload_n 0, 1) := by decide +kernel
theorem dL_chances_210 : decode cL_chances 210 = .ok (.iconst 1, 1) := by decide +kernel
theorem dL_chances_211 : decode cL_chances 211 = .ok (.aload_n 1, 1) := by decide +kernel
theorem dL_chances_212 : decode cL_chances 212 = .ok (.bipush 8, 2) := by decide +kernel
theorem dL_chances_214 : decode cL_chances 214 = .ok (.invokestatic 19, 3) := by decide +kernel
theorem dL_chances_217 : decode cL_chances 217 = .ok (.ldc 140, 2) := by decide +kernel
theorem dL_chances_219 : decode cL_chances 219 = .ok (.irem, 1) := by decide +kernel
theorem dL_chances_220 : decode cL_chances 220 = .ok (.iadd, 1) := by decide +kernel
theorem dL_chances_221 : decode cL_chances 221 = .ok (.invokevirtual 141, 3) := by decide +kernel
theorem dL_chances_224 : decode cL_chances 224 = .ok (.istore 9, 2) := by decide +kernel
theorem dL_chances_226 : decode cL_chances 226 = .ok (.aload_n 0, 1) := by decide +kernel
theorem dL_chances_227 : decode cL_chances 227 = .ok (.invokevirtual 65, 3) := by decide +kernel
theorem dL_chances_230 : decode cL_chances 230 = .ok (.istore 10, 2) := by decide +kernel
theorem dL_chances_232 : decode cL_chances 232 = .ok (.aload_n 0, 1) := by decide +kernel
theorem dL_chances_233 : decode cL_chances 233 = .ok (.invokevirtual 80, 3) := by decide +kernel
theorem dL_chances_236 : decode cL_chances 236 = .ok (.istore 11, 2) := by decide +kernel
theorem dL_chances_238 : decode cL_chances 238 = .ok (.iload 9, 2) := by decide +kernel
theorem dL_chances_240 : decode cL_chances 240 = .ok (.iload 8, 2) := by decide +kernel
theorem dL_chances_242 : decode cL_chances 242 = .ok (.iconst (-1), 1) := by decide +kernel
theorem dL_chances_243 : decode cL_chances 243 = .ok (.ixor, 1) := by decide +kernel
theorem dL_chances_244 : decode cL_chances 244 = .ok (.iand, 1) := by decide +kernel
theorem dL_chances_245 : decode cL_chances 245 = .ok (.ifCond .ne 36, 3) := by decide +kernel
theorem dL_chances_248 : decode cL_chances 248 = .ok (.iload 11, 2) := by decide +kernel
theorem dL_chances_250 : decode cL_chances 250 = .ok (.ifCond .ge 13, 3) := by decide +kernel
theorem dL_chances_253 : decode cL_chances 253 = .ok (.iload 10, 2) := by decide +kernel
theorem dL_chances_255 : decode cL_chances 255 = .ok (.bipush (-9), 2) := by decide +kernel
theorem dL_chances_257 : decode cL_chances 257 = .ok (.if_icmp .ne 24, 3) := by decide +kernel
theorem dL_chances_260 : decode cL_chances 260 = .ok (.goto 12, 3) := by decide +kernel
theorem dL_chances_263 : decode cL_chances 263 = .ok (.iload 10, 2) := by decide +kernel
theorem dL_chances_265 : decode cL_chances 265 = .ok (.aload_n 0, 1) := by decide +kernel
theorem dL_chances_266 : decode cL_chances 266 = .ok (.invokevirtual 65, 3) := by decide +kernel
theorem dL_chances_269 : decode cL_chances 269 = .ok (.if_icmp .gt 12, 3) := by decide +kernel
theorem dL_chances_272 : decode cL_chances 272 = .ok (.iload 9, 2) := by decide +kernel
theorem dL_chances_274 : decode cL_chances 274 = .ok (.ifCond .lt 7, 3) := by decide +kernel
theorem dL_chances_277 : decode cL_chances 277 = .ok (.iconst 1, 1) := by decide +kernel
theorem dL_chances_278 : decode cL_chances 278 = .ok (.goto 4, 3) := by decide +kernel
theorem dL_chances_281 : decode cL_chances 281 = .ok (.iconst 0, 1) := by decide +kernel
theorem dL_chances_282 : decode cL_chances 282 = .ok (.ireturn, 1) := by decide +kernel
theorem dL_hours_0 : decode cL_hours 0 = .ok (.iconst 0, 1) := by decide +kernel
theorem dL_hours_1 : decode cL_hours 1 = .ok (.istore_n 3, 1) := by decide +kernel
theorem dL_hours_2 : decode cL_hours 2 = .ok (.aload_n 0, 1) := by decide +kernel
theorem dL_hours_3 : decode cL_hours 3 = .ok (.invokevirtual 144, 3) := by decide +kernel
theorem dL_hours_6 : decode cL_hours 6 = .ok (.lstore 4, 2) := by decide +kernel
theorem dL_hours_8 : decode cL_hours 8 = .ok (.iconst 0, 1) := by decide +kernel
theorem dL_hours_9 : decode cL_hours 9 = .ok (.istore 6, 2) := by decide +kernel
theorem dL_hours_11 : decode cL_hours 11 = .ok (.iconst 0, 1) := by decide +kernel
theorem dL_hours_12 : decode cL_hours 12 = .ok (.istore 7, 2) := by decide +kernel
theorem dL_hours_14 : decode cL_hours 14 = .ok (.iload 7, 2) := by decide +kernel
theorem dL_hours_16 : decode cL_hours 16 = .ok (.bipush 12, 2) := by decide +kernel
theorem dL_hours_18 : decode cL_hours 18 = .ok (.if_icmp .ge 196, 3) := by decide +kernel
theorem dL_hours_21 : decode cL_hours 21 = .ok (.aload_n 1, 1) := by decide +kernel
theorem dL_hours_22 : decode cL_hours 22 = .ok (.bipush 60, 2) := by decide +kernel
theorem dL_hours_24 : decode cL_hours 24 = .ok (.iload 7, 2) := by decide +kernel
theorem dL_hours_26 : decode cL_hours 26 = .ok (.iadd, 1) := by decide +kernel
theorem dL_hours_27 : decode cL_hours 27 = .ok (.invokestatic 19, 3) := by decide +kernel
theorem dL_hours_30 : decode cL_hours 30 = .ok (.istore 8, 2) := by decide +kernel
theorem dL_hours_32 : decode cL_hours 32 = .ok (.iload 8, 2) := by decide +kernel
theorem dL_hours_34 : decode cL_hours 34 = .ok (.iconst 5, 1) := by decide +kernel
theorem dL_hours_35 : decode cL_hours 35 = .ok (.irem, 1) := by decide +kernel
theorem dL_hours_36 : decode cL_hours 36 = .ok (.istore 9, 2) := by decide +kernel
theorem dL_hours_38 : decode cL_hours 38 = .ok (.iconst 1, 1) := by decide +kernel
theorem dL_hours_39 : decode cL_hours 39 = .ok (.iload 8, 2) := by decide +kernel
theorem dL_hours_41 : decode cL_hours 41 = .ok (.sipush 512, 3) := by decide +kernel
theorem dL_hours_44 : decode cL_hours 44 = .ok (.idiv, 1) := by decide +kernel
theorem dL_hours_45 : decode cL_hours 45 = .ok (.bipush 40, 2) := by decide +kernel
theorem dL_hours_47 : decode cL_hours 47 = .ok (.irem, 1) := by decide +kernel
theorem dL_hours_48 : decode cL_hours 48 = .ok (.iadd, 1) := by decide +kernel
theorem dL_hours_49 : decode cL_hours 49 = .ok (.istore 10, 2) := by decide +kernel
theorem dL_hours_51 : decode cL_hours 51 = .ok (.aload_n 0, 1) := by decide +kernel
theorem dL_hours_52 : decode cL_hours 52 = .ok (.iload 9, 2) := by decide +kernel
theorem dL_hours_54 : decode cL_hours 54 = .ok (.iload 8, 2) := by decide +kernel
theorem dL_hours_56 : decode cL_hours 56 = .ok (.bipush 8, 2) := by decide +kernel
theorem dL_hours_58 : decode cL_hours 58 = .ok (.idiv, 1) := by decide +kernel
theorem dL_hours_59 : decode cL_hours 59 = .ok (.iload_n 2, 1) := by decide +kernel
theorem dL_hours_60 : decode cL_hours 60 = .ok (.irem, 1) := by decide +kernel
theorem dL_hours_61 : decode cL_hours 61 = .ok (.iload 8, 2) := by decide +kernel
theorem dL_hours_63 : decode cL_hours 63 = .ok (.bipush 64, 2) := by decide +kernel
theorem dL_hours_65 : decode cL_hours 65 = .ok (.idiv, 1) := by decide +kernel
theorem dL_hours_66 : decode cL_hours 66 = .ok (.iload_n 2, 1) := by decide +kernel
theorem dL_hours_67 : decode cL_hours 67 = .ok (.irem, 1) := by decide +kernel
theorem dL_hours_68 : decode cL_hours 68 = .ok (.iload 10, 2) := by decide +kernel
theorem dL_hours_70 : decode cL_hours 70 = .ok (.invokevirtual 147, 3) := by decide +kernel
theorem dL_hours_73 : decode cL_hours 73 = .ok (.istore 11, 2) := by decide +kernel
theorem dL_hours_75 : decode cL_hours 75 = .ok (.iload 11, 2) := by decide +kernel
theorem dL_hours_77 : decode cL_hours 77 = .ok (.ifCond .lt 12, 3) := by decide +kernel
theorem dL_hours_80 : decode cL_hours 80 = .ok (.iload 11, 2) := by decide +kernel
theorem dL_hours_82 : decode cL_hours 82 = .ok (.iload 6, 2) := by decide +kernel
theorem dL_hours_84 : decode cL_hours 84 = .ok (.if_icmp .eq 5, 3) := by decide +kernel
theorem dL_hours_87 : decode cL_hours 87 = .ok (.iconst 0, 1) := by decide +kernel
theorem dL_hours_88 : decode cL_hours 88 = .ok (.ireturn, 1) := by decide +kernel
theorem dL_hours_89 : decode cL_hours 89 = .ok (.iload 6, 2) := by decide +kernel
theorem dL_hours_91 : decode cL_hours 91 = .ok (.iload 11, 2) := by decide +kernel
theorem dL_hours_93 : decode cL_hours 93 = .ok (.ifCond .ge 7, 3) := by decide +kernel
theorem dL_hours_96 : decode cL_hours 96 = .ok (.iconst 0, 1) := by decide +kernel
theorem dL_hours_97 : decode cL_hours 97 = .ok (.goto 4, 3) := by decide +kernel
theorem dL_hours_100 : decode cL_hours 100 = .ok (.iconst 1, 1) := by decide +kernel
theorem dL_hours_101 : decode cL_hours 101 = .ok (.iadd, 1) := by decide +kernel
theorem dL_hours_102 : decode cL_hours 102 = .ok (.istore 6, 2) := by decide +kernel
theorem dL_hours_104 : decode cL_hours 104 = .ok (.iload_n 3, 1) := by decide +kernel
theorem dL_hours_105 : decode cL_hours 105 = .ok (.iload 11, 2) := by decide +kernel
theorem dL_hours_107 : decode cL_hours 107 = .ok (.ifCond .lt 13, 3) := by decide +kernel
theorem dL_hours_110 : decode cL_hours 110 = .ok (.iload 9, 2) := by decide +kernel
theorem dL_hours_112 : decode cL_hours 112 = .ok (.ifCond .ne 8, 3) := by decide +kernel
theorem dL_hours_115 : decode cL_hours 115 = .ok (.iload 10, 2) := by decide +kernel
theorem dL_hours_117 : decode cL_hours 117 = .ok (.goto 4, 3) := by decide +kernel
theorem dL_hours_120 : decode cL_hours 120 = .ok (.iconst 0, 1) := by decide +kernel
theorem dL_hours_121 : decode cL_hours 121 = .ok (.iadd, 1) := by decide +kernel
theorem dL_hours_122 : decode cL_hours 122 = .ok (.istore_n 3, 1) := by decide +kernel
theorem dL_hours_123 : decode cL_hours 123 = .ok (.iconst 0, 1) := by decide +kernel
theorem dL_hours_124 : decode cL_hours 124 = .ok (.istore 12, 2) := by decide +kernel
theorem dL_hours_126 : decode cL_hours 126 = .ok (.iconst 0, 1) := by decide +kernel
theorem dL_hours_127 : decode cL_hours 127 = .ok (.istore 13, 2) := by decide +kernel
theorem dL_hours_129 : decode cL_hours 129 = .ok (.iload 13, 2) := by decide +kernel
theorem dL_hours_131 : decode cL_hours 131 = .ok (.iload_n 2, 1) := by decide +kernel
theorem dL_hours_132 : decode cL_hours 132 = .ok (.if_icmp .ge 68, 3) := by decide +kernel
theorem dL_hours_135 : decode cL_hours 135 = .ok (.iload 12, 2) := by decide +kernel
theorem dL_hours_137 : decode cL_hours 137 = .ok (.aload_n 0, 1) := by decide +kernel
theorem dL_hours_138 : decode cL_hours 138 = .ok (.iload 13, 2) := by decide +kernel
theorem dL_hours_140 : decode cL_hours 140 = .ok (.invokevirtual 151, 3) := by decide +kernel
theorem dL_hours_143 : decode cL_hours 143 = .ok (.ifCond .ge 9, 3) := by decide +kernel
theorem dL_hours_146 : decode cL_hours 146 = .ok (.sipush (-999), 3) := by decide +kernel
theorem dL_hours_149 : decode cL_hours 149 = .ok (.goto 7, 3) := by decide +kernel
theorem dL_hours_152 : decode cL_hours 152 = .ok (.aload_n 0, 1) := by decide +kernel
theorem dL_hours_153 : decode cL_hours 153 = .ok (.invokevirtual 65, 3) := by decide +kernel
theorem dL_hours_156 : decode cL_hours 156 = .ok (.iadd, 1) := by decide +kernel
theorem dL_hours_157 : decode cL_hours 157 = .ok (.istore 12, 2) := by decide +kernel
theorem dL_hours_159 : decode cL_hours 159 = .ok (.iconst 0, 1) := by decide +kernel
theorem dL_hours_160 : decode cL_hours 160 = .ok (.istore 14, 2) := by decide +kernel
theorem dL_hours_162 : decode cL_hours 162 = .ok (.iload 14, 2) := by decide +kernel
theorem dL_hours_164 : decode cL_hours 164 = .ok (.iload_n 2, 1) := by decide +kernel
theorem dL_hours_165 : decode cL_hours 165 = .ok (.if_icmp .ge 29, 3) := by decide +kernel
theorem dL_hours_168 : decode cL_hours 168 = .ok (.iload 13, 2) := by decide +kernel
theorem dL_hours_170 : decode cL_hours 170 = .ok (.iload 14, 2) := by decide +kernel
theorem dL_hours_172 : decode cL_hours 172 = .ok (.if_icmp .eq 16, 3) := by decide +kernel
theorem dL_hours_175 : decode cL_hours 175 = .ok (.aload_n 0, 1) := by decide +kernel
theorem dL_hours_176 : decode cL_hours 176 = .ok (.iload 13, 2) := by decide +kernel
theorem dL_hours_178 : decode cL_hours 178 = .ok (.iload 14, 2) := by decide +kernel
theorem dL_hours_180 : decode cL_hours 180 = .ok (.invokevirtual 154, 3) := by decide +kernel
theorem dL_hours_183 : decode cL_hours 183 = .ok (.ifCond .ge 5, 3) := by decide +kernel
theorem dL_hours_186 : decode cL_hours 186 = .ok (.iconst 0, 1) := by decide +kernel
theorem dL_hours_187 : decode cL_hours 187 = .ok (.ireturn, 1) := by decide +kernel
theorem dL_hours_188 : decode cL_hours 188 = .ok (.iinc 14 1, 3) := by decide +kernel
theorem dL_hours_191 : decode cL_hours 191 = .ok (.goto (-29), 3) := by decide +kernel
theorem dL_hours_194 : decode cL_hours 194 = .ok (.iinc 13 1, 3) := by decide +kernel
theorem dL_hours_197 : decode cL_hours 197 = .ok (.goto (-68), 3) := by decide +kernel
theorem dL_hours_200 : decode cL_hours 200 = .ok (.iload 12, 2) := by decide +kernel
theorem dL_hours_202 : decode cL_hours 202 = .ok (.iload_n 3, 1) := by decide +kernel
theorem dL_hours_203 : decode cL_hours 203 = .ok (.if_icmp .eq 5, 3) := by decide +kernel
theorem dL_hours_206 : decode cL_hours 206 = .ok (.iconst 0, 1) := by decide +kernel
theorem dL_hours_207 : decode cL_hours 207 = .ok (.ireturn, 1) := by decide +kernel
theorem dL_hours_208 : decode cL_hours 208 = .ok (.iinc 7 1, 3) := by decide +kernel
theorem dL_hours_211 : decode cL_hours 211 = .ok (.goto (-197), 3) := by decide +kernel
theorem dL_hours_214 : decode cL_hours 214 = .ok (.aload_n 0, 1) := by decide +kernel
theorem dL_hours_215 : decode cL_hours 215 = .ok (.iconst 0, 1) := by decide +kernel
theorem dL_hours_216 : decode cL_hours 216 = .ok (.invokevirtual 157, 3) := by decide +kernel
theorem dL_hours_219 : decode cL_hours 219 = .ok (.iload 6, 2) := by decide +kernel
theorem dL_hours_221 : decode cL_hours 221 = .ok (.if_icmp .ne 27, 3) := by decide +kernel
theorem dL_hours_224 : decode cL_hours 224 = .ok (.aload_n 0, 1) := by decide +kernel
theorem dL_hours_225 : decode cL_hours 225 = .ok (.invokevirtual 144, 3) := by decide +kernel
theorem dL_hours_228 : decode cL_hours 228 = .ok (.lload 4, 2) := by decide +kernel
theorem dL_hours_230 : decode cL_hours 230 = .ok (.lcmp, 1) := by decide +kernel
theorem dL_hours_231 : decode cL_hours 231 = .ok (.ifCond .ne 17, 3) := by decide +kernel
theorem dL_hours_234 : decode cL_hours 234 = .ok (.aload_n 0, 1) := by decide +kernel
theorem dL_hours_235 : decode cL_hours 235 = .ok (.invokevirtual 160, 3) := by decide +kernel
theorem dL_hours_238 : decode cL_hours 238 = .ok (.ifCond .ne 10, 3) := by decide +kernel
theorem dL_hours_241 : decode cL_hours 241 = .ok (.aload_n 0, 1) := by decide +kernel
theorem dL_hours_242 : decode cL_hours 242 = .ok (.invokevirtual 65, 3) := by decide +kernel
theorem dL_hours_245 : decode cL_hours 245 = .ok (.ifCond .eq 5, 3) := by decide +kernel
theorem dL_hours_248 : decode cL_hours 248 = .ok (.iconst 0, 1) := by decide +kernel
theorem dL_hours_249 : decode cL_hours 249 = .ok (.ireturn, 1) := by decide +kernel
theorem dL_hours_250 : decode cL_hours 250 = .ok (.iconst 0, 1) := by decide +kernel
theorem dL_hours_251 : decode cL_hours 251 = .ok (.istore 7, 2) := by decide +kernel
theorem dL_hours_253 : decode cL_hours 253 = .ok (.iload 7, 2) := by decide +kernel
theorem dL_hours_255 : decode cL_hours 255 = .ok (.bipush 6, 2) := by decide +kernel
theorem dL_hours_257 : decode cL_hours 257 = .ok (.if_icmp .ge 31, 3) := by decide +kernel
theorem dL_hours_260 : decode cL_hours 260 = .ok (.aload_n 0, 1) := by decide +kernel
theorem dL_hours_261 : decode cL_hours 261 = .ok (.iload 7, 2) := by decide +kernel
theorem dL_hours_263 : decode cL_hours 263 = .ok (.iload_n 2, 1) := by decide +kernel
theorem dL_hours_264 : decode cL_hours 264 = .ok (.irem, 1) := by decide +kernel
theorem dL_hours_265 : decode cL_hours 265 = .ok (.bipush 10, 2) := by decide +kernel
theorem dL_hours_267 : decode cL_hours 267 = .ok (.iload 7, 2) := by decide +kernel
theorem dL_hours_269 : decode cL_hours 269 = .ok (.iadd, 1) := by decide +kernel
theorem dL_hours_270 : decode cL_hours 270 = .ok (.invokevirtual 163, 3) := by decide +kernel
theorem dL_hours_273 : decode cL_hours 273 = .ok (.iload 7, 2) := by decide +kernel
theorem dL_hours_275 : decode cL_hours 275 = .ok (.iconst 1, 1) := by decide +kernel
theorem dL_hours_276 : decode cL_hours 276 = .ok (.iadd, 1) := by decide +kernel
theorem dL_hours_277 : decode cL_hours 277 = .ok (.if_icmp .eq 5, 3) := by decide +kernel
theorem dL_hours_280 : decode cL_hours 280 = .ok (.iconst 0, 1) := by decide +kernel
theorem dL_hours_281 : decode cL_hours 281 = .ok (.ireturn, 1) := by decide +kernel
theorem dL_hours_282 : decode cL_hours 282 = .ok (.iinc 7 1, 3) := by decide +kernel
theorem dL_hours_285 : decode cL_hours 285 = .ok (.goto (-32), 3) := by decide +kernel
theorem dL_hours_288 : decode cL_hours 288 = .ok (.iconst 5, 1) := by decide +kernel
theorem dL_hours_289 : decode cL_hours 289 = .ok (.istore 7, 2) := by decide +kernel
theorem dL_hours_291 : decode cL_hours 291 = .ok (.iload 7, 2) := by decide +kernel
theorem dL_hours_293 : decode cL_hours 293 = .ok (.ifCond .lt 34, 3) := by decide +kernel
theorem dL_hours_296 : decode cL_hours 296 = .ok (.aload_n 0, 1) := by decide +kernel
theorem dL_hours_297 : decode cL_hours 297 = .ok (.iload 7, 2) := by decide +kernel
theorem dL_hours_299 : decode cL_hours 299 = .ok (.iload_n 2, 1) := by decide +kernel
theorem dL_hours_300 : decode cL_hours 300 = .ok (.irem, 1) := by decide +kernel
theorem dL_hours_301 : decode cL_hours 301 = .ok (.invokevirtual 166, 3) := by decide +kernel
theorem dL_hours_304 : decode cL_hours 304 = .ok (.ifCond .ne 15, 3) := by decide +kernel
theorem dL_hours_307 : decode cL_hours 307 = .ok (.aload_n 0, 1) := by decide +kernel
theorem dL_hours_308 : decode cL_hours 308 = .ok (.invokevirtual 65, 3) := by decide +kernel
theorem dL_hours_311 : decode cL_hours 311 = .ok (.bipush 10, 2) := by decide +kernel
theorem dL_hours_313 : decode cL_hours 313 = .ok (.iload 7, 2) := by decide +kernel
theorem dL_hours_315 : decode cL_hours 315 = .ok (.iadd, 1) := by decide +kernel
theorem dL_hours_316 : decode cL_hours 316 = .ok (.if_icmp .eq 5, 3) := by decide +kernel
theorem dL_hours_319 : decode cL_hours 319 = .ok (.iconst 0, 1) := by decide +kernel
theorem dL_hours_320 : decode cL_hours 320 = .ok (.ireturn, 1) := by decide +kernel
theorem dL_hours_321 : decode cL_hours 321 = .ok (.iinc 7 (-1), 3) := by decide +kernel
theorem dL_hours_324 : decode cL_hours 324 = .ok (.goto (-33), 3) := by decide +kernel
theorem dL_hours_327 : decode cL_hours 327 = .ok (.aload_n 0, 1) := by decide +kernel
theorem dL_hours_328 : decode cL_hours 328 = .ok (.iconst 0, 1) := by decide +kernel
theorem dL_hours_329 : decode cL_hours 329 = .ok (.invokevirtual 166, 3) := by decide +kernel
theorem dL_hours_332 : decode cL_hours 332 = .ok (.bipush (-3), 2) := by decide +kernel
theorem dL_hours_334 : decode cL_hours 334 = .ok (.if_icmp .ne 17, 3) := by decide +kernel
theorem dL_hours_337 : decode cL_hours 337 = .ok (.aload_n 0, 1) := by decide +kernel
theorem dL_hours_338 : decode cL_hours 338 = .ok (.invokevirtual 144, 3) := by decide +kernel
theorem dL_hours_341 : decode cL_hours 341 = .ok (.lload 4, 2) := by decide +kernel
theorem dL_hours_343 : decode cL_hours 343 = .ok (.lcmp, 1) := by decide +kernel
theorem dL_hours_344 : decode cL_hours 344 = .ok (.ifCond .ne 7, 3) := by decide +kernel
theorem dL_hours_347 : decode cL_hours 347 = .ok (.iconst 1, 1) := by decide +kernel
theorem dL_hours_348 : decode cL_hours 348 = .ok (.goto 4, 3) := by decide +kernel
theorem dL_hours_351 : decode cL_hours 351 = .ok (.iconst 0, 1) := by decide +kernel
theorem dL_hours_352 : decode cL_hours 352 = .ok (.ireturn, 1) := by decide +kernel
theorem dL_tracks_0 : decode cL_tracks 0 = .ok (.bipush 28, 2) := by decide +kernel
theorem dL_tracks_2 : decode cL_tracks 2 = .ok (.newarray .int, 2) := by decide +kernel
theorem dL_tracks_4 : decode cL_tracks 4 = .ok (.astore_n 3, 1) := by decide +kernel
theorem dL_tracks_5 : decode cL_tracks 5 = .ok (.iconst 0, 1) := by decide +kernel
theorem dL_tracks_6 : decode cL_tracks 6 = .ok (.istore 4, 2) := by decide +kernel
theorem dL_tracks_8 : decode cL_tracks 8 = .ok (.iload 4, 2) := by decide +kernel
theorem dL_tracks_10 : decode cL_tracks 10 = .ok (.bipush 28, 2) := by decide +kernel
theorem dL_tracks_12 : decode cL_tracks 12 = .ok (.if_icmp .ge 19, 3) := by decide +kernel
theorem dL_tracks_15 : decode cL_tracks 15 = .ok (.aload_n 3, 1) := by decide +kernel
theorem dL_tracks_16 : decode cL_tracks 16 = .ok (.iload 4, 2) := by decide +kernel
theorem dL_tracks_18 : decode cL_tracks 18 = .ok (.aload_n 0, 1) := by decide +kernel
theorem dL_tracks_19 : decode cL_tracks 19 = .ok (.iload 4, 2) := by decide +kernel
theorem dL_tracks_21 : decode cL_tracks 21 = .ok (.invokevirtual 169, 3) := by decide +kernel
theorem dL_tracks_24 : decode cL_tracks 24 = .ok (.iastore, 1) := by decide +kernel
theorem dL_tracks_25 : decode cL_tracks 25 = .ok (.iinc 4 1, 3) := by decide +kernel
theorem dL_tracks_28 : decode cL_tracks 28 = .ok (.goto (-20), 3) := by decide +kernel
theorem dL_tracks_31 : decode cL_tracks 31 = .ok (.aload_n 3, 1) := by decide +kernel
theorem dL_tracks_32 : decode cL_tracks 32 = .ok (.iconst 0, 1) := by decide +kernel
theorem dL_tracks_33 : decode cL_tracks 33 = .ok (.iaload, 1) := by decide +kernel
theorem dL_tracks_34 : decode cL_tracks 34 = .ok (.iconst 1, 1) := by decide +kernel
theorem dL_tracks_35 : decode cL_tracks 35 = .ok (.if_icmp .ne 15, 3) := by decide +kernel
theorem dL_tracks_38 : decode cL_tracks 38 = .ok (.aload_n 3, 1) := by decide +kernel
theorem dL_tracks_39 : decode cL_tracks 39 = .ok (.bipush 27, 2) := by decide +kernel
theorem dL_tracks_41 : decode cL_tracks 41 = .ok (.iaload, 1) := by decide +kernel
theorem dL_tracks_42 : decode cL_tracks 42 = .ok (.iconst 1, 1) := by decide +kernel
theorem dL_tracks_43 : decode cL_tracks 43 = .ok (.iload_n 2, 1) := by decide +kernel
theorem dL_tracks_44 : decode cL_tracks 44 = .ok (.ishl, 1) := by decide +kernel
theorem dL_tracks_45 : decode cL_tracks 45 = .ok (.iconst 1, 1) := by decide +kernel
theorem dL_tracks_46 : decode cL_tracks 46 = .ok (.isub, 1) := by decide +kernel
theorem dL_tracks_47 : decode cL_tracks 47 = .ok (.if_icmp .eq 5, 3) := by decide +kernel
theorem dL_tracks_50 : decode cL_tracks 50 = .ok (.iconst 0, 1) := by decide +kernel
theorem dL_tracks_51 : decode cL_tracks 51 = .ok (.ireturn, 1) := by decide +kernel
theorem dL_tracks_52 : decode cL_tracks 52 = .ok (.iconst 0, 1) := by decide +kernel
theorem dL_tracks_53 : decode cL_tracks 53 = .ok (.istore 4, 2) := by decide +kernel
theorem dL_tracks_55 : decode cL_tracks 55 = .ok (.iconst 0, 1) := by decide +kernel
theorem dL_tracks_56 : decode cL_tracks 56 = .ok (.istore 5, 2) := by decide +kernel
theorem dL_tracks_58 : decode cL_tracks 58 = .ok (.iload 5, 2) := by decide +kernel
theorem dL_tracks_60 : decode cL_tracks 60 = .ok (.iconst 5, 1) := by decide +kernel
theorem dL_tracks_61 : decode cL_tracks 61 = .ok (.if_icmp .ge 172, 3) := by decide +kernel
theorem dL_tracks_64 : decode cL_tracks 64 = .ok (.aload_n 1, 1) := by decide +kernel
theorem dL_tracks_65 : decode cL_tracks 65 = .ok (.bipush 90, 2) := by decide +kernel
theorem dL_tracks_67 : decode cL_tracks 67 = .ok (.iload 5, 2) := by decide +kernel
theorem dL_tracks_69 : decode cL_tracks 69 = .ok (.iadd, 1) := by decide +kernel
theorem dL_tracks_70 : decode cL_tracks 70 = .ok (.invokestatic 19, 3) := by decide +kernel
theorem dL_tracks_73 : decode cL_tracks 73 = .ok (.istore 6, 2) := by decide +kernel
theorem dL_tracks_75 : decode cL_tracks 75 = .ok (.iload 6, 2) := by decide +kernel
theorem dL_tracks_77 : decode cL_tracks 77 = .ok (.iload_n 2, 1) := by decide +kernel
theorem dL_tracks_78 : decode cL_tracks 78 = .ok (.irem, 1) := by decide +kernel
theorem dL_tracks_79 : decode cL_tracks 79 = .ok (.istore 7, 2) := by decide +kernel
theorem dL_tracks_81 : decode cL_tracks 81 = .ok (.iconst 1, 1) := by decide +kernel
theorem dL_tracks_82 : decode cL_tracks 82 = .ok (.iload 6, 2) := by decide +kernel
theorem dL_tracks_84 : decode cL_tracks 84 = .ok (.bipush 8, 2) := by decide +kernel
theorem dL_tracks_86 : decode cL_tracks 86 = .ok (.idiv, 1) := by decide +kernel
theorem dL_tracks_87 : decode cL_tracks 87 = .ok (.bipush 27, 2) := by decide +kernel
theorem dL_tracks_89 : decode cL_tracks 89 = .ok (.irem, 1) := by decide +kernel
theorem dL_tracks_90 : decode cL_tracks 90 = .ok (.iadd, 1) := by decide +kernel
theorem dL_tracks_91 : decode cL_tracks 91 = .ok (.istore 8, 2) := by decide +kernel
theorem dL_tracks_93 : decode cL_tracks 93 = .ok (.aload_n 3, 1) := by decide +kernel
theorem dL_tracks_94 : decode cL_tracks 94 = .ok (.iload 8, 2) := by decide +kernel
theorem dL_tracks_96 : decode cL_tracks 96 = .ok (.iaload, 1) := by decide +kernel
theorem dL_tracks_97 : decode cL_tracks 97 = .ok (.iload 7, 2) := by decide +kernel
theorem dL_tracks_99 : decode cL_tracks 99 = .ok (.ishr, 1) := by decide +kernel
theorem dL_tracks_100 : decode cL_tracks 100 = .ok (.iconst 1, 1) := by decide +kernel
theorem dL_tracks_101 : decode cL_tracks 101 = .ok (.iand, 1) := by decide +kernel
theorem dL_tracks_102 : decode cL_tracks 102 = .ok (.iconst 1, 1) := by decide +kernel
theorem dL_tracks_103 : decode cL_tracks 103 = .ok (.if_icmp .ne 7, 3) := by decide +kernel
theorem dL_tracks_106 : decode cL_tracks 106 = .ok (.iconst 1, 1) := by decide +kernel
theorem dL_tracks_107 : decode cL_tracks 107 = .ok (.goto 4, 3) := by decide +kernel
theorem dL_tracks_110 : decode cL_tracks 110 = .ok (.iconst 0, 1) := by decide +kernel
theorem dL_tracks_111 : decode cL_tracks 111 = .ok (.istore 9, 2) := by decide +kernel
theorem dL_tracks_113 : decode cL_tracks 113 = .ok (.iload 4, 2) := by decide +kernel
theorem dL_tracks_115 : decode cL_tracks 115 = .ok (.iload 9, 2) := by decide +kernel
theorem dL_tracks_117 : decode cL_tracks 117 = .ok (.ifCond .ne 7, 3) := by decide +kernel
theorem dL_tracks_120 : decode cL_tracks 120 = .ok (.iconst 1, 1) := by decide +kernel
theorem dL_tracks_121 : decode cL_tracks 121 = .ok (.goto 4, 3) := by decide +kernel
theorem dL_tracks_124 : decode cL_tracks 124 = .ok (.iconst 0, 1) := by decide +kernel
theorem dL_tracks_125 : decode cL_tracks 125 = .ok (.ior, 1) := by decide +kernel
theorem dL_tracks_126 : decode cL_tracks 126 = .ok (.istore 4, 2) := by decide +kernel
theorem dL_tracks_128 : decode cL_tracks 128 = .ok (.aload_n 0, 1) := by decide +kernel
theorem dL_tracks_129 : decode cL_tracks 129 = .ok (.iload 7, 2) := by decide +kernel
theorem dL_tracks_131 : decode cL_tracks 131 = .ok (.iload 8, 2) := by decide +kernel
theorem dL_tracks_133 : decode cL_tracks 133 = .ok (.invokevirtual 172, 3) := by decide +kernel
theorem dL_tracks_136 : decode cL_tracks 136 = .ok (.iload 5, 2) := by decide +kernel
theorem dL_tracks_138 : decode cL_tracks 138 = .ok (.if_icmp .ne 22, 3) := by decide +kernel
theorem dL_tracks_141 : decode cL_tracks 141 = .ok (.aload_n 0, 1) := by decide +kernel
theorem dL_tracks_142 : decode cL_tracks 142 = .ok (.invokevirtual 175, 3) := by decide +kernel
theorem dL_tracks_145 : decode cL_tracks 145 = .ok (.bipush (-9), 2) := by decide +kernel
theorem dL_tracks_147 : decode cL_tracks 147 = .ok (.if_icmp .ne 7, 3) := by decide +kernel
theorem dL_tracks_150 : decode cL_tracks 150 = .ok (.iconst 1, 1) := by decide +kernel
theorem dL_tracks_151 : decode cL_tracks 151 = .ok (.goto 4, 3) := by decide +kernel
theorem dL_tracks_154 : decode cL_tracks 154 = .ok (.iconst 0, 1) := by decide +kernel
theorem dL_tracks_155 : decode cL_tracks 155 = .ok (.iload 4, 2) := by decide +kernel
theorem dL_tracks_157 : decode cL_tracks 157 = .ok (.if_icmp .ne 5, 3) := by decide +kernel
theorem dL_tracks_160 : decode cL_tracks 160 = .ok (.iconst 0, 1) := by decide +kernel
theorem dL_tracks_161 : decode cL_tracks 161 = .ok (.ireturn, 1) := by decide +kernel
theorem dL_tracks_162 : decode cL_tracks 162 = .ok (.iconst 0, 1) := by decide +kernel
theorem dL_tracks_163 : decode cL_tracks 163 = .ok (.istore 10, 2) := by decide +kernel
theorem dL_tracks_165 : decode cL_tracks 165 = .ok (.iload 10, 2) := by decide +kernel
theorem dL_tracks_167 : decode cL_tracks 167 = .ok (.bipush 28, 2) := by decide +kernel
theorem dL_tracks_169 : decode cL_tracks 169 = .ok (.if_icmp .ge 58, 3) := by decide +kernel
theorem dL_tracks_172 : decode cL_tracks 172 = .ok (.aload_n 0, 1) := by decide +kernel
theorem dL_tracks_173 : decode cL_tracks 173 = .ok (.iload 10, 2) := by decide +kernel
theorem dL_tracks_175 : decode cL_tracks 175 = .ok (.invokevirtual 169, 3) := by decide +kernel
theorem dL_tracks_178 : decode cL_tracks 178 = .ok (.istore 11, 2) := by decide +kernel
theorem dL_tracks_180 : decode cL_tracks 180 = .ok (.iload 11, 2) := by decide +kernel
theorem dL_tracks_182 : decode cL_tracks 182 = .ok (.aload_n 3, 1) := by decide +kernel
theorem dL_tracks_183 : decode cL_tracks 183 = .ok (.iload 10, 2) := by decide +kernel
theorem dL_tracks_185 : decode cL_tracks 185 = .ok (.iaload, 1) := by decide +kernel
theorem dL_tracks_186 : decode cL_tracks 186 = .ok (.iconst (-1), 1) := by decide +kernel
theorem dL_tracks_187 : decode cL_tracks 187 = .ok (.ixor, 1) := by decide +kernel
theorem dL_tracks_188 : decode cL_tracks 188 = .ok (.iand, 1) := by decide +kernel
theorem dL_tracks_189 : decode cL_tracks 189 = .ok (.ifCond .ne 24, 3) := by decide +kernel
theorem dL_tracks_192 : decode cL_tracks 192 = .ok (.iload 10, 2) := by decide +kernel
theorem dL_tracks_194 : decode cL_tracks 194 = .ok (.iload 8, 2) := by decide +kernel
theorem dL_tracks_196 : decode cL_tracks 196 = .ok (.if_icmp .ne 19, 3) := by decide +kernel
theorem dL_tracks_199 : decode cL_tracks 199 = .ok (.iload 9, 2) := by decide +kernel
theorem dL_tracks_201 : decode cL_tracks 201 = .ok (.ifCond .eq 14, 3) := by decide +kernel
theorem dL_tracks_204 : decode cL_tracks 204 = .ok (.iload 11, 2) := by decide +kernel
theorem dL_tracks_206 : decode cL_tracks 206 = .ok (.iconst 1, 1) := by decide +kernel
theorem dL_tracks_207 : decode cL_tracks 207 = .ok (.iload 7, 2) := by decide +kernel
theorem dL_tracks_209 : decode cL_tracks 209 = .ok (.ishl, 1) := by decide +kernel
theorem dL_tracks_210 : decode cL_tracks 210 = .ok (.if_icmp .eq 5, 3) := by decide +kernel
theorem dL_tracks_213 : decode cL_tracks 213 = .ok (.iconst 0, 1) := by decide +kernel
theorem dL_tracks_214 : decode cL_tracks 214 = .ok (.ireturn, 1) := by decide +kernel
theorem dL_tracks_215 : decode cL_tracks 215 = .ok (.aload_n 3, 1) := by decide +kernel
theorem dL_tracks_216 : decode cL_tracks 216 = .ok (.iload 10, 2) := by decide +kernel
theorem dL_tracks_218 : decode cL_tracks 218 = .ok (.iload 11, 2) := by decide +kernel
theorem dL_tracks_220 : decode cL_tracks 220 = .ok (.iastore, 1) := by decide +kernel
theorem dL_tracks_221 : decode cL_tracks 221 = .ok (.iinc 10 1, 3) := by decide +kernel
theorem dL_tracks_224 : decode cL_tracks 224 = .ok (.goto (-59), 3) := by decide +kernel
theorem dL_tracks_227 : decode cL_tracks 227 = .ok (.iinc 5 1, 3) := by decide +kernel
theorem dL_tracks_230 : decode cL_tracks 230 = .ok (.goto (-172), 3) := by decide +kernel
theorem dL_tracks_233 : decode cL_tracks 233 = .ok (.aload_n 0, 1) := by decide +kernel
theorem dL_tracks_234 : decode cL_tracks 234 = .ok (.iconst 0, 1) := by decide +kernel
theorem dL_tracks_235 : decode cL_tracks 235 = .ok (.invokevirtual 178, 3) := by decide +kernel
theorem dL_tracks_238 : decode cL_tracks 238 = .ok (.iconst 5, 1) := by decide +kernel
theorem dL_tracks_239 : decode cL_tracks 239 = .ok (.if_icmp .ne 25, 3) := by decide +kernel
theorem dL_tracks_242 : decode cL_tracks 242 = .ok (.aload_n 0, 1) := by decide +kernel
theorem dL_tracks_243 : decode cL_tracks 243 = .ok (.iconst 0, 1) := by decide +kernel
theorem dL_tracks_244 : decode cL_tracks 244 = .ok (.invokevirtual 169, 3) := by decide +kernel
theorem dL_tracks_247 : decode cL_tracks 247 = .ok (.iconst 1, 1) := by decide +kernel
theorem dL_tracks_248 : decode cL_tracks 248 = .ok (.if_icmp .ne 16, 3) := by decide +kernel
theorem dL_tracks_251 : decode cL_tracks 251 = .ok (.aload_n 0, 1) := by decide +kernel
theorem dL_tracks_252 : decode cL_tracks 252 = .ok (.invokevirtual 175, 3) := by decide +kernel
theorem dL_tracks_255 : decode cL_tracks 255 = .ok (.bipush (-9), 2) := by decide +kernel
theorem dL_tracks_257 : decode cL_tracks 257 = .ok (.if_icmp .ne 7, 3) := by decide +kernel
theorem dL_tracks_260 : decode cL_tracks 260 = .ok (.iconst 1, 1) := by decide +kernel
theorem dL_tracks_261 : decode cL_tracks 261 = .ok (.goto 4, 3) := by decide +kernel
theorem dL_tracks_264 : decode cL_tracks 264 = .ok (.iconst 0, 1) := by decide +kernel
theorem dL_tracks_265 : decode cL_tracks 265 = .ok (.ireturn, 1) := by decide +kernel
