theorem dX0_init_0 : decode cX0_init 0 = .ok (.aload_n 0, 1) := by decide +kernel
theorem dX0_init_1 : decode cX0_init 1 = .ok (.invokespecial 3, 3) := by decide +kernel
theorem dX0_init_4 : decode cX0_init 4 = .ok (.aload_n 0, 1) := by decide +kernel
theorem dX0_init_5 : decode cX0_init 5 = .ok (.iconst 0, 1) := by decide +kernel
theorem dX0_init_6 : decode cX0_init 6 = .ok (.putfield 9, 3) := by decide +kernel
theorem dX0_init_9 : decode cX0_init 9 = .ok (.aload_n 0, 1) := by decide +kernel
theorem dX0_init_10 : decode cX0_init 10 = .ok (.bipush 36, 2) := by decide +kernel
theorem dX0_init_12 : decode cX0_init 12 = .ok (.newarray .int, 2) := by decide +kernel
theorem dX0_init_14 : decode cX0_init 14 = .ok (.putfield 15, 3) := by decide +kernel
theorem dX0_init_17 : decode cX0_init 17 = .ok (.aload_n 0, 1) := by decide +kernel
theorem dX0_init_18 : decode cX0_init 18 = .ok (.bipush 36, 2) := by decide +kernel
theorem dX0_init_20 : decode cX0_init 20 = .ok (.newarray .int, 2) := by decide +kernel
theorem dX0_init_22 : decode cX0_init 22 = .ok (.putfield 19, 3) := by decide +kernel
theorem dX0_init_25 : decode cX0_init 25 = .ok (.aload_n 0, 1) := by decide +kernel
theorem dX0_init_26 : decode cX0_init 26 = .ok (.iconst 0, 1) := by decide +kernel
theorem dX0_init_27 : decode cX0_init 27 = .ok (.putfield 22, 3) := by decide +kernel
theorem dX0_init_30 : decode cX0_init 30 = .ok (.aload_n 0, 1) := by decide +kernel
theorem dX0_init_31 : decode cX0_init 31 = .ok (.iconst 3, 1) := by decide +kernel
theorem dX0_init_32 : decode cX0_init 32 = .ok (.newarray .int, 2) := by decide +kernel
theorem dX0_init_34 : decode cX0_init 34 = .ok (.putfield 25, 3) := by decide +kernel
theorem dX0_init_37 : decode cX0_init 37 = .ok (.return_, 1) := by decide +kernel
theorem dX0_clear_0 : decode cX0_clear 0 = .ok (.aload_n 0, 1) := by decide +kernel
theorem dX0_clear_1 : decode cX0_clear 1 = .ok (.iconst 0, 1) := by decide +kernel
theorem dX0_clear_2 : decode cX0_clear 2 = .ok (.putfield 9, 3) := by decide +kernel
theorem dX0_clear_5 : decode cX0_clear 5 = .ok (.return_, 1) := by decide +kernel
theorem dX0_add_0 : decode cX0_add 0 = .ok (.aload_n 0, 1) := by decide +kernel
theorem dX0_add_1 : decode cX0_add 1 = .ok (.getfield 9, 3) := by decide +kernel
theorem dX0_add_4 : decode cX0_add 4 = .ok (.bipush 36, 2) := by decide +kernel
theorem dX0_add_6 : decode cX0_add 6 = .ok (.if_icmp .lt 4, 3) := by decide +kernel
theorem dX0_add_9 : decode cX0_add 9 = .ok (.return_, 1) := by decide +kernel
theorem dX0_add_10 : decode cX0_add 10 = .ok (.aload_n 0, 1) := by decide +kernel
theorem dX0_add_11 : decode cX0_add 11 = .ok (.getfield 15, 3) := by decide +kernel
theorem dX0_add_14 : decode cX0_add 14 = .ok (.aload_n 0, 1) := by decide +kernel
theorem dX0_add_15 : decode cX0_add 15 = .ok (.getfield 9, 3) := by decide +kernel
theorem dX0_add_18 : decode cX0_add 18 = .ok (.iload_n 1, 1) := by decide +kernel
theorem dX0_add_19 : decode cX0_add 19 = .ok (.iastore, 1) := by decide +kernel
theorem dX0_add_20 : decode cX0_add 20 = .ok (.aload_n 0, 1) := by decide +kernel
theorem dX0_add_21 : decode cX0_add 21 = .ok (.getfield 19, 3) := by decide +kernel
theorem dX0_add_24 : decode cX0_add 24 = .ok (.aload_n 0, 1) := by decide +kernel
theorem dX0_add_25 : decode cX0_add 25 = .ok (.getfield 9, 3) := by decide +kernel
theorem dX0_add_28 : decode cX0_add 28 = .ok (.iload_n 2, 1) := by decide +kernel
theorem dX0_add_29 : decode cX0_add 29 = .ok (.iastore, 1) := by decide +kernel
theorem dX0_add_30 : decode cX0_add 30 = .ok (.aload_n 0, 1) := by decide +kernel
theorem dX0_add_31 : decode cX0_add 31 = .ok (.dup, 1) := by decide +kernel
theorem dX0_add_32 : decode cX0_add 32 = .ok (.getfield 9, 3) := by decide +kernel
theorem dX0_add_35 : decode cX0_add 35 = .ok (.iconst 1, 1) := by decide +kernel
theorem dX0_add_36 : decode cX0_add 36 = .ok (.iadd, 1) := by decide +kernel
theorem dX0_add_37 : decode cX0_add 37 = .ok (.putfield 9, 3) := by decide +kernel
theorem dX0_add_40 : decode cX0_add 40 = .ok (.return_, 1) := by decide +kernel
theorem dX0_search_0 : decode cX0_search 0 = .ok (.iload_n 1, 1) := by decide +kernel
theorem dX0_search_1 : decode cX0_search 1 = .ok (.ifCond .ne 12, 3) := by decide +kernel
theorem dX0_search_4 : decode cX0_search 4 = .ok (.aload_n 0, 1) := by decide +kernel
theorem dX0_search_5 : decode cX0_search 5 = .ok (.iconst 0, 1) := by decide +kernel
theorem dX0_search_6 : decode cX0_search 6 = .ok (.iconst 0, 1) := by decide +kernel
theorem dX0_search_7 : decode cX0_search 7 = .ok (.iconst 0, 1) := by decide +kernel
theorem dX0_search_8 : decode cX0_search 8 = .ok (.iconst 0, 1) := by decide +kernel
theorem dX0_search_9 : decode cX0_search 9 = .ok (.invokevirtual 28, 3) := by decide +kernel
theorem dX0_search_12 : decode cX0_search 12 = .ok (.ireturn, 1) := by decide +kernel
theorem dX0_search_13 : decode cX0_search 13 = .ok (.aload_n 0, 1) := by decide +kernel
theorem dX0_search_14 : decode cX0_search 14 = .ok (.iload_n 1, 1) := by decide +kernel
theorem dX0_search_15 : decode cX0_search 15 = .ok (.invokevirtual 32, 3) := by decide +kernel
theorem dX0_search_18 : decode cX0_search 18 = .ok (.ifCond .ne 19, 3) := by decide +kernel
theorem dX0_search_21 : decode cX0_search 21 = .ok (.aload_n 0, 1) := by decide +kernel
theorem dX0_search_22 : decode cX0_search 22 = .ok (.iload_n 1, 1) := by decide +kernel
theorem dX0_search_23 : decode cX0_search 23 = .ok (.invokevirtual 36, 3) := by decide +kernel
theorem dX0_search_26 : decode cX0_search 26 = .ok (.ifCond .ne 11, 3) := by decide +kernel
theorem dX0_search_29 : decode cX0_search 29 = .ok (.aload_n 0, 1) := by decide +kernel
theorem dX0_search_30 : decode cX0_search 30 = .ok (.iload_n 1, 1) := by decide +kernel
theorem dX0_search_31 : decode cX0_search 31 = .ok (.invokevirtual 39, 3) := by decide +kernel
theorem dX0_search_34 : decode cX0_search 34 = .ok (.ifCond .eq 7, 3) := by decide +kernel
theorem dX0_search_37 : decode cX0_search 37 = .ok (.iconst 1, 1) := by decide +kernel
theorem dX0_search_38 : decode cX0_search 38 = .ok (.goto 4, 3) := by decide +kernel
theorem dX0_search_41 : decode cX0_search 41 = .ok (.iconst 0, 1) := by decide +kernel
theorem dX0_search_42 : decode cX0_search 42 = .ok (.ireturn, 1) := by decide +kernel
theorem dX0_isFound_0 : decode cX0_isFound 0 = .ok (.aload_n 0, 1) := by decide +kernel
theorem dX0_isFound_1 : decode cX0_isFound 1 = .ok (.iload_n 1, 1) := by decide +kernel
theorem dX0_isFound_2 : decode cX0_isFound 2 = .ok (.putfield 22, 3) := by decide +kernel
theorem dX0_isFound_5 : decode cX0_isFound 5 = .ok (.iload_n 1, 1) := by decide +kernel
theorem dX0_isFound_6 : decode cX0_isFound 6 = .ok (.ifCond .le 15, 3) := by decide +kernel
theorem dX0_isFound_9 : decode cX0_isFound 9 = .ok (.aload_n 0, 1) := by decide +kernel
theorem dX0_isFound_10 : decode cX0_isFound 10 = .ok (.getfield 25, 3) := by decide +kernel
theorem dX0_isFound_13 : decode cX0_isFound 13 = .ok (.iconst 0, 1) := by decide +kernel
theorem dX0_isFound_14 : decode cX0_isFound 14 = .ok (.aload_n 0, 1) := by decide +kernel
theorem dX0_isFound_15 : decode cX0_isFound 15 = .ok (.getfield 15, 3) := by decide +kernel
theorem dX0_isFound_18 : decode cX0_isFound 18 = .ok (.iload_n 2, 1) := by decide +kernel
theorem dX0_isFound_19 : decode cX0_isFound 19 = .ok (.iaload, 1) := by decide +kernel
theorem dX0_isFound_20 : decode cX0_isFound 20 = .ok (.iastore, 1) := by decide +kernel
theorem dX0_isFound_21 : decode cX0_isFound 21 = .ok (.iload_n 1, 1) := by decide +kernel
theorem dX0_isFound_22 : decode cX0_isFound 22 = .ok (.iconst 1, 1) := by decide +kernel
theorem dX0_isFound_23 : decode cX0_isFound 23 = .ok (.if_icmp .le 15, 3) := by decide +kernel
theorem dX0_isFound_26 : decode cX0_isFound 26 = .ok (.aload_n 0, 1) := by decide +kernel
theorem dX0_isFound_27 : decode cX0_isFound 27 = .ok (.getfield 25, 3) := by decide +kernel
theorem dX0_isFound_30 : decode cX0_isFound 30 = .ok (.iconst 1, 1) := by decide +kernel
theorem dX0_isFound_31 : decode cX0_isFound 31 = .ok (.aload_n 0, 1) := by decide +kernel
theorem dX0_isFound_32 : decode cX0_isFound 32 = .ok (.getfield 15, 3) := by decide +kernel
theorem dX0_isFound_35 : decode cX0_isFound 35 = .ok (.iload_n 3, 1) := by decide +kernel
theorem dX0_isFound_36 : decode cX0_isFound 36 = .ok (.iaload, 1) := by decide +kernel
theorem dX0_isFound_37 : decode cX0_isFound 37 = .ok (.iastore, 1) := by decide +kernel
theorem dX0_isFound_38 : decode cX0_isFound 38 = .ok (.iload_n 1, 1) := by decide +kernel
theorem dX0_isFound_39 : decode cX0_isFound 39 = .ok (.iconst 2, 1) := by decide +kernel
theorem dX0_isFound_40 : decode cX0_isFound 40 = .ok (.if_icmp .le 16, 3) := by decide +kernel
theorem dX0_isFound_43 : decode cX0_isFound 43 = .ok (.aload_n 0, 1) := by decide +kernel
theorem dX0_isFound_44 : decode cX0_isFound 44 = .ok (.getfield 25, 3) := by decide +kernel
theorem dX0_isFound_47 : decode cX0_isFound 47 = .ok (.iconst 2, 1) := by decide +kernel
theorem dX0_isFound_48 : decode cX0_isFound 48 = .ok (.aload_n 0, 1) := by decide +kernel
theorem dX0_isFound_49 : decode cX0_isFound 49 = .ok (.getfield 15, 3) := by decide +kernel
theorem dX0_isFound_52 : decode cX0_isFound 52 = .ok (.iload 4, 2) := by decide +kernel
theorem dX0_isFound_54 : decode cX0_isFound 54 = .ok (.iaload, 1) := by decide +kernel
theorem dX0_isFound_55 : decode cX0_isFound 55 = .ok (.iastore, 1) := by decide +kernel
theorem dX0_isFound_56 : decode cX0_isFound 56 = .ok (.iconst 1, 1) := by decide +kernel
theorem dX0_isFound_57 : decode cX0_isFound 57 = .ok (.ireturn, 1) := by decide +kernel
theorem dX0_searchOne_0 : decode cX0_searchOne 0 = .ok (.iconst 0, 1) := by decide +kernel
theorem dX0_searchOne_1 : decode cX0_searchOne 1 = .ok (.istore_n 2, 1) := by decide +kernel
theorem dX0_searchOne_2 : decode cX0_searchOne 2 = .ok (.iload_n 2, 1) := by decide +kernel
theorem dX0_searchOne_3 : decode cX0_searchOne 3 = .ok (.aload_n 0, 1) := by decide +kernel
theorem dX0_searchOne_4 : decode cX0_searchOne 4 = .ok (.getfield 9, 3) := by decide +kernel
theorem dX0_searchOne_7 : decode cX0_searchOne 7 = .ok (.if_icmp .ge 31, 3) := by decide +kernel
theorem dX0_searchOne_10 : decode cX0_searchOne 10 = .ok (.iload_n 1, 1) := by decide +kernel
theorem dX0_searchOne_11 : decode cX0_searchOne 11 = .ok (.aload_n 0, 1) := by decide +kernel
theorem dX0_searchOne_12 : decode cX0_searchOne 12 = .ok (.getfield 19, 3) := by decide +kernel
theorem dX0_searchOne_15 : decode cX0_searchOne 15 = .ok (.iload_n 2, 1) := by decide +kernel
theorem dX0_searchOne_16 : decode cX0_searchOne 16 = .ok (.iaload, 1) := by decide +kernel
theorem dX0_searchOne_17 : decode cX0_searchOne 17 = .ok (.iconst (-1), 1) := by decide +kernel
theorem dX0_searchOne_18 : decode cX0_searchOne 18 = .ok (.ixor, 1) := by decide +kernel
theorem dX0_searchOne_19 : decode cX0_searchOne 19 = .ok (.iand, 1) := by decide +kernel
theorem dX0_searchOne_20 : decode cX0_searchOne 20 = .ok (.ifCond .ne 12, 3) := by decide +kernel
theorem dX0_searchOne_23 : decode cX0_searchOne 23 = .ok (.aload_n 0, 1) := by decide +kernel
theorem dX0_searchOne_24 : decode cX0_searchOne 24 = .ok (.iconst 1, 1) := by decide +kernel
theorem dX0_searchOne_25 : decode cX0_searchOne 25 = .ok (.iload_n 2, 1) := by decide +kernel
theorem dX0_searchOne_26 : decode cX0_searchOne 26 = .ok (.iconst 0, 1) := by decide +kernel
theorem dX0_searchOne_27 : decode cX0_searchOne 27 = .ok (.iconst 0, 1) := by decide +kernel
theorem dX0_searchOne_28 : decode cX0_searchOne 28 = .ok (.invokevirtual 28, 3) := by decide +kernel
theorem dX0_searchOne_31 : decode cX0_searchOne 31 = .ok (.ireturn, 1) := by decide +kernel
theorem dX0_searchOne_32 : decode cX0_searchOne 32 = .ok (.iinc 2 1, 3) := by decide +kernel
theorem dX0_searchOne_35 : decode cX0_searchOne 35 = .ok (.goto (-33), 3) := by decide +kernel
theorem dX0_searchOne_38 : decode cX0_searchOne 38 = .ok (.iconst 0, 1) := by decide +kernel
theorem dX0_searchOne_39 : decode cX0_searchOne 39 = .ok (.ireturn, 1) := by decide +kernel
theorem dX0_searchTwo_0 : decode cX0_searchTwo 0 = .ok (.iconst 0, 1) := by decide +kernel
theorem dX0_searchTwo_1 : decode cX0_searchTwo 1 = .ok (.istore_n 2, 1) := by decide +kernel
theorem dX0_searchTwo_2 : decode cX0_searchTwo 2 = .ok (.iload_n 2, 1) := by decide +kernel
theorem dX0_searchTwo_3 : decode cX0_searchTwo 3 = .ok (.aload_n 0, 1) := by decide +kernel
theorem dX0_searchTwo_4 : decode cX0_searchTwo 4 = .ok (.getfield 9, 3) := by decide +kernel
theorem dX0_searchTwo_7 : decode cX0_searchTwo 7 = .ok (.if_icmp .ge 81, 3) := by decide +kernel
theorem dX0_searchTwo_10 : decode cX0_searchTwo 10 = .ok (.iload_n 1, 1) := by decide +kernel
theorem dX0_searchTwo_11 : decode cX0_searchTwo 11 = .ok (.aload_n 0, 1) := by decide +kernel
theorem dX0_searchTwo_12 : decode cX0_searchTwo 12 = .ok (.getfield 19, 3) := by decide +kernel
theorem dX0_searchTwo_15 : decode cX0_searchTwo 15 = .ok (.iload_n 2, 1) := by decide +kernel
theorem dX0_searchTwo_16 : decode cX0_searchTwo 16 = .ok (.iaload, 1) := by decide +kernel
theorem dX0_searchTwo_17 : decode cX0_searchTwo 17 = .ok (.iconst (-1), 1) := by decide +kernel
theorem dX0_searchTwo_18 : decode cX0_searchTwo 18 = .ok (.ixor, 1) := by decide +kernel
theorem dX0_searchTwo_19 : decode cX0_searchTwo 19 = .ok (.iand, 1) := by decide +kernel
theorem dX0_searchTwo_20 : decode cX0_searchTwo 20 = .ok (.istore_n 3, 1) := by decide +kernel
theorem dX0_searchTwo_21 : decode cX0_searchTwo 21 = .ok (.iload_n 2, 1) := by decide +kernel
theorem dX0_searchTwo_22 : decode cX0_searchTwo 22 = .ok (.iconst 1, 1) := by decide +kernel
theorem dX0_searchTwo_23 : decode cX0_searchTwo 23 = .ok (.iadd, 1) := by decide +kernel
theorem dX0_searchTwo_24 : decode cX0_searchTwo 24 = .ok (.istore 4, 2) := by decide +kernel
theorem dX0_searchTwo_26 : decode cX0_searchTwo 26 = .ok (.iload 4, 2) := by decide +kernel
theorem dX0_searchTwo_28 : decode cX0_searchTwo 28 = .ok (.aload_n 0, 1) := by decide +kernel
theorem dX0_searchTwo_29 : decode cX0_searchTwo 29 = .ok (.getfield 9, 3) := by decide +kernel
theorem dX0_searchTwo_32 : decode cX0_searchTwo 32 = .ok (.if_icmp .ge 50, 3) := by decide +kernel
theorem dX0_searchTwo_35 : decode cX0_searchTwo 35 = .ok (.aload_n 0, 1) := by decide +kernel
theorem dX0_searchTwo_36 : decode cX0_searchTwo 36 = .ok (.getfield 19, 3) := by decide +kernel
theorem dX0_searchTwo_39 : decode cX0_searchTwo 39 = .ok (.iload_n 2, 1) := by decide +kernel
theorem dX0_searchTwo_40 : decode cX0_searchTwo 40 = .ok (.iaload, 1) := by decide +kernel
theorem dX0_searchTwo_41 : decode cX0_searchTwo 41 = .ok (.aload_n 0, 1) := by decide +kernel
theorem dX0_searchTwo_42 : decode cX0_searchTwo 42 = .ok (.getfield 19, 3) := by decide +kernel
theorem dX0_searchTwo_45 : decode cX0_searchTwo 45 = .ok (.iload 4, 2) := by decide +kernel
theorem dX0_searchTwo_47 : decode cX0_searchTwo 47 = .ok (.iaload, 1) := by decide +kernel
theorem dX0_searchTwo_48 : decode cX0_searchTwo 48 = .ok (.iand, 1) := by decide +kernel
theorem dX0_searchTwo_49 : decode cX0_searchTwo 49 = .ok (.ifCond .ne 27, 3) := by decide +kernel
theorem dX0_searchTwo_52 : decode cX0_searchTwo 52 = .ok (.iload_n 3, 1) := by decide +kernel
theorem dX0_searchTwo_53 : decode cX0_searchTwo 53 = .ok (.aload_n 0, 1) := by decide +kernel
theorem dX0_searchTwo_54 : decode cX0_searchTwo 54 = .ok (.getfield 19, 3) := by decide +kernel
theorem dX0_searchTwo_57 : decode cX0_searchTwo 57 = .ok (.iload 4, 2) := by decide +kernel
theorem dX0_searchTwo_59 : decode cX0_searchTwo 59 = .ok (.iaload, 1) := by decide +kernel
theorem dX0_searchTwo_60 : decode cX0_searchTwo 60 = .ok (.iconst (-1), 1) := by decide +kernel
theorem dX0_searchTwo_61 : decode cX0_searchTwo 61 = .ok (.ixor, 1) := by decide +kernel
theorem dX0_searchTwo_62 : decode cX0_searchTwo 62 = .ok (.iand, 1) := by decide +kernel
theorem dX0_searchTwo_63 : decode cX0_searchTwo 63 = .ok (.ifCond .ne 13, 3) := by decide +kernel
theorem dX0_searchTwo_66 : decode cX0_searchTwo 66 = .ok (.aload_n 0, 1) := by decide +kernel
theorem dX0_searchTwo_67 : decode cX0_searchTwo 67 = .ok (.iconst 2, 1) := by decide +kernel
theorem dX0_searchTwo_68 : decode cX0_searchTwo 68 = .ok (.iload_n 2, 1) := by decide +kernel
theorem dX0_searchTwo_69 : decode cX0_searchTwo 69 = .ok (.iload 4, 2) := by decide +kernel
theorem dX0_searchTwo_71 : decode cX0_searchTwo 71 = .ok (.iconst 0, 1) := by decide +kernel
theorem dX0_searchTwo_72 : decode cX0_searchTwo 72 = .ok (.invokevirtual 28, 3) := by decide +kernel
theorem dX0_searchTwo_75 : decode cX0_searchTwo 75 = .ok (.ireturn, 1) := by decide +kernel
theorem dX0_searchTwo_76 : decode cX0_searchTwo 76 = .ok (.iinc 4 1, 3) := by decide +kernel
theorem dX0_searchTwo_79 : decode cX0_searchTwo 79 = .ok (.goto (-53), 3) := by decide +kernel
theorem dX0_searchTwo_82 : decode cX0_searchTwo 82 = .ok (.iinc 2 1, 3) := by decide +kernel
theorem dX0_searchTwo_85 : decode cX0_searchTwo 85 = .ok (.goto (-83), 3) := by decide +kernel
theorem dX0_searchTwo_88 : decode cX0_searchTwo 88 = .ok (.iconst 0, 1) := by decide +kernel
theorem dX0_searchTwo_89 : decode cX0_searchTwo 89 = .ok (.ireturn, 1) := by decide +kernel
theorem dX0_searchThree_0 : decode cX0_searchThree 0 = .ok (.iconst 0, 1) := by decide +kernel
theorem dX0_searchThree_1 : decode cX0_searchThree 1 = .ok (.istore_n 2, 1) := by decide +kernel
theorem dX0_searchThree_2 : decode cX0_searchThree 2 = .ok (.iload_n 2, 1) := by decide +kernel
theorem dX0_searchThree_3 : decode cX0_searchThree 3 = .ok (.aload_n 0, 1) := by decide +kernel
theorem dX0_searchThree_4 : decode cX0_searchThree 4 = .ok (.getfield 9, 3) := by decide +kernel
theorem dX0_searchThree_7 : decode cX0_searchThree 7 = .ok (.if_icmp .ge 121, 3) := by decide +kernel
theorem dX0_searchThree_10 : decode cX0_searchThree 10 = .ok (.iload_n 2, 1) := by decide +kernel
theorem dX0_searchThree_11 : decode cX0_searchThree 11 = .ok (.iconst 1, 1) := by decide +kernel
theorem dX0_searchThree_12 : decode cX0_searchThree 12 = .ok (.iadd, 1) := by decide +kernel
theorem dX0_searchThree_13 : decode cX0_searchThree 13 = .ok (.istore_n 3, 1) := by decide +kernel
theorem dX0_searchThree_14 : decode cX0_searchThree 14 = .ok (.iload_n 3, 1) := by decide +kernel
theorem dX0_searchThree_15 : decode cX0_searchThree 15 = .ok (.aload_n 0, 1) := by decide +kernel
theorem dX0_searchThree_16 : decode cX0_searchThree 16 = .ok (.getfield 9, 3) := by decide +kernel
theorem dX0_searchThree_19 : decode cX0_searchThree 19 = .ok (.if_icmp .ge 103, 3) := by decide +kernel
theorem dX0_searchThree_22 : decode cX0_searchThree 22 = .ok (.aload_n 0, 1) := by decide +kernel
theorem dX0_searchThree_23 : decode cX0_searchThree 23 = .ok (.getfield 19, 3) := by decide +kernel
theorem dX0_searchThree_26 : decode cX0_searchThree 26 = .ok (.iload_n 2, 1) := by decide +kernel
theorem dX0_searchThree_27 : decode cX0_searchThree 27 = .ok (.iaload, 1) := by decide +kernel
theorem dX0_searchThree_28 : decode cX0_searchThree 28 = .ok (.aload_n 0, 1) := by decide +kernel
theorem dX0_searchThree_29 : decode cX0_searchThree 29 = .ok (.getfield 19, 3) := by decide +kernel
theorem dX0_searchThree_32 : decode cX0_searchThree 32 = .ok (.iload_n 3, 1) := by decide +kernel
theorem dX0_searchThree_33 : decode cX0_searchThree 33 = .ok (.iaload, 1) := by decide +kernel
theorem dX0_searchThree_34 : decode cX0_searchThree 34 = .ok (.iand, 1) := by decide +kernel
theorem dX0_searchThree_35 : decode cX0_searchThree 35 = .ok (.ifCond .eq 6, 3) := by decide +kernel
theorem dX0_searchThree_38 : decode cX0_searchThree 38 = .ok (.goto 78, 3) := by decide +kernel
theorem dX0_searchThree_41 : decode cX0_searchThree 41 = .ok (.aload_n 0, 1) := by decide +kernel
theorem dX0_searchThree_42 : decode cX0_searchThree 42 = .ok (.getfield 19, 3) := by decide +kernel
theorem dX0_searchThree_45 : decode cX0_searchThree 45 = .ok (.iload_n 2, 1) := by decide +kernel
theorem dX0_searchThree_46 : decode cX0_searchThree 46 = .ok (.iaload, 1) := by decide +kernel
theorem dX0_searchThree_47 : decode cX0_searchThree 47 = .ok (.aload_n 0, 1) := by decide +kernel
theorem dX0_searchThree_48 : decode cX0_searchThree 48 = .ok (.getfield 19, 3) := by decide +kernel
theorem dX0_searchThree_51 : decode cX0_searchThree 51 = .ok (.iload_n 3, 1) := by decide +kernel
theorem dX0_searchThree_52 : decode cX0_searchThree 52 = .ok (.iaload, 1) := by decide +kernel
theorem dX0_searchThree_53 : decode cX0_searchThree 53 = .ok (.ior, 1) := by decide +kernel
theorem dX0_searchThree_54 : decode cX0_searchThree 54 = .ok (.istore 4, 2) := by decide +kernel
theorem dX0_searchThree_56 : decode cX0_searchThree 56 = .ok (.iload_n 3, 1) := by decide +kernel
theorem dX0_searchThree_57 : decode cX0_searchThree 57 = .ok (.iconst 1, 1) := by decide +kernel
theorem dX0_searchThree_58 : decode cX0_searchThree 58 = .ok (.iadd, 1) := by decide +kernel
theorem dX0_searchThree_59 : decode cX0_searchThree 59 = .ok (.istore 5, 2) := by decide +kernel
theorem dX0_searchThree_61 : decode cX0_searchThree 61 = .ok (.iload 5, 2) := by decide +kernel
theorem dX0_searchThree_63 : decode cX0_searchThree 63 = .ok (.aload_n 0, 1) := by decide +kernel
theorem dX0_searchThree_64 : decode cX0_searchThree 64 = .ok (.getfield 9, 3) := by decide +kernel
theorem dX0_searchThree_67 : decode cX0_searchThree 67 = .ok (.if_icmp .ge 49, 3) := by decide +kernel
theorem dX0_searchThree_70 : decode cX0_searchThree 70 = .ok (.iload 4, 2) := by decide +kernel
theorem dX0_searchThree_72 : decode cX0_searchThree 72 = .ok (.aload_n 0, 1) := by decide +kernel
theorem dX0_searchThree_73 : decode cX0_searchThree 73 = .ok (.getfield 19, 3) := by decide +kernel
theorem dX0_searchThree_76 : decode cX0_searchThree 76 = .ok (.iload 5, 2) := by decide +kernel
theorem dX0_searchThree_78 : decode cX0_searchThree 78 = .ok (.iaload, 1) := by decide +kernel
theorem dX0_searchThree_79 : decode cX0_searchThree 79 = .ok (.iand, 1) := by decide +kernel
theorem dX0_searchThree_80 : decode cX0_searchThree 80 = .ok (.ifCond .ne 30, 3) := by decide +kernel
theorem dX0_searchThree_83 : decode cX0_searchThree 83 = .ok (.iload_n 1, 1) := by decide +kernel
theorem dX0_searchThree_84 : decode cX0_searchThree 84 = .ok (.iload 4, 2) := by decide +kernel
theorem dX0_searchThree_86 : decode cX0_searchThree 86 = .ok (.aload_n 0, 1) := by decide +kernel
theorem dX0_searchThree_87 : decode cX0_searchThree 87 = .ok (.getfield 19, 3) := by decide +kernel
theorem dX0_searchThree_90 : decode cX0_searchThree 90 = .ok (.iload 5, 2) := by decide +kernel
theorem dX0_searchThree_92 : decode cX0_searchThree 92 = .ok (.iaload, 1) := by decide +kernel
theorem dX0_searchThree_93 : decode cX0_searchThree 93 = .ok (.ior, 1) := by decide +kernel
theorem dX0_searchThree_94 : decode cX0_searchThree 94 = .ok (.iconst (-1), 1) := by decide +kernel
theorem dX0_searchThree_95 : decode cX0_searchThree 95 = .ok (.ixor, 1) := by decide +kernel
theorem dX0_searchThree_96 : decode cX0_searchThree 96 = .ok (.iand, 1) := by decide +kernel
theorem dX0_searchThree_97 : decode cX0_searchThree 97 = .ok (.ifCond .ne 13, 3) := by decide +kernel
theorem dX0_searchThree_100 : decode cX0_searchThree 100 = .ok (.aload_n 0, 1) := by decide +kernel
theorem dX0_searchThree_101 : decode cX0_searchThree 101 = .ok (.iconst 3, 1) := by decide +kernel
theorem dX0_searchThree_102 : decode cX0_searchThree 102 = .ok (.iload_n 2, 1) := by decide +kernel
theorem dX0_searchThree_103 : decode cX0_searchThree 103 = .ok (.iload_n 3, 1) := by decide +kernel
theorem dX0_searchThree_104 : decode cX0_searchThree 104 = .ok (.iload 5, 2) := by decide +kernel
theorem dX0_searchThree_106 : decode cX0_searchThree 106 = .ok (.invokevirtual 28, 3) := by decide +kernel
theorem dX0_searchThree_109 : decode cX0_searchThree 109 = .ok (.ireturn, 1) := by decide +kernel
theorem dX0_searchThree_110 : decode cX0_searchThree 110 = .ok (.iinc 5 1, 3) := by decide +kernel
theorem dX0_searchThree_113 : decode cX0_searchThree 113 = .ok (.goto (-52), 3) := by decide +kernel
theorem dX0_searchThree_116 : decode cX0_searchThree 116 = .ok (.iinc 3 1, 3) := by decide +kernel
theorem dX0_searchThree_119 : decode cX0_searchThree 119 = .ok (.goto (-105), 3) := by decide +kernel
theorem dX0_searchThree_122 : decode cX0_searchThree 122 = .ok (.iinc 2 1, 3) := by decide +kernel
theorem dX0_searchThree_125 : decode cX0_searchThree 125 = .ok (.goto (-123), 3) := by decide +kernel
theorem dX0_searchThree_128 : decode cX0_searchThree 128 = .ok (.iconst 0, 1) := by decide +kernel
theorem dX0_searchThree_129 : decode cX0_searchThree 129 = .ok (.ireturn, 1) := by decide +kernel
theorem dX1_init_0 : decode cX1_init 0 = .ok (.aload_n 0, 1) := by decide +kernel
theorem dX1_init_1 : decode cX1_init 1 = .ok (.invokespecial 3, 3) := by decide +kernel
theorem dX1_init_4 : decode cX1_init 4 = .ok (.aload_n 0, 1) := by decide +kernel
theorem dX1_init_5 : decode cX1_init 5 = .ok (.iconst 0, 1) := by decide +kernel
theorem dX1_init_6 : decode cX1_init 6 = .ok (.putfield 9, 3) := by decide +kernel
theorem dX1_init_9 : decode cX1_init 9 = .ok (.aload_n 0, 1) := by decide +kernel
theorem dX1_init_10 : decode cX1_init 10 = .ok (.bipush 10, 2) := by decide +kernel
theorem dX1_init_12 : decode cX1_init 12 = .ok (.newarray .int, 2) := by decide +kernel
theorem dX1_init_14 : decode cX1_init 14 = .ok (.putfield 15, 3) := by decide +kernel
theorem dX1_init_17 : decode cX1_init 17 = .ok (.aload_n 0, 1) := by decide +kernel
theorem dX1_init_18 : decode cX1_init 18 = .ok (.bipush 10, 2) := by decide +kernel
theorem dX1_init_20 : decode cX1_init 20 = .ok (.newarray .int, 2) := by decide +kernel
theorem dX1_init_22 : decode cX1_init 22 = .ok (.putfield 19, 3) := by decide +kernel
theorem dX1_init_25 : decode cX1_init 25 = .ok (.aload_n 0, 1) := by decide +kernel
theorem dX1_init_26 : decode cX1_init 26 = .ok (.bipush 10, 2) := by decide +kernel
theorem dX1_init_28 : decode cX1_init 28 = .ok (.newarray .int, 2) := by decide +kernel
theorem dX1_init_30 : decode cX1_init 30 = .ok (.putfield 22, 3) := by decide +kernel
theorem dX1_init_33 : decode cX1_init 33 = .ok (.aload_n 0, 1) := by decide +kernel
theorem dX1_init_34 : decode cX1_init 34 = .ok (.bipush 10, 2) := by decide +kernel
theorem dX1_init_36 : decode cX1_init 36 = .ok (.newarray .int, 2) := by decide +kernel
theorem dX1_init_38 : decode cX1_init 38 = .ok (.putfield 25, 3) := by decide +kernel
theorem dX1_init_41 : decode cX1_init 41 = .ok (.aload_n 0, 1) := by decide +kernel
theorem dX1_init_42 : decode cX1_init 42 = .ok (.bipush 10, 2) := by decide +kernel
theorem dX1_init_44 : decode cX1_init 44 = .ok (.newarray .int, 2) := by decide +kernel
theorem dX1_init_46 : decode cX1_init 46 = .ok (.putfield 28, 3) := by decide +kernel
theorem dX1_init_49 : decode cX1_init 49 = .ok (.aload_n 0, 1) := by decide +kernel
theorem dX1_init_50 : decode cX1_init 50 = .ok (.bipush 120, 2) := by decide +kernel
theorem dX1_init_52 : decode cX1_init 52 = .ok (.newarray .int, 2) := by decide +kernel
theorem dX1_init_54 : decode cX1_init 54 = .ok (.putfield 31, 3) := by decide +kernel
theorem dX1_init_57 : decode cX1_init 57 = .ok (.return_, 1) := by decide +kernel
theorem dX1_add_0 : decode cX1_add 0 = .ok (.aload_n 0, 1) := by decide +kernel
theorem dX1_add_1 : decode cX1_add 1 = .ok (.getfield 9, 3) := by decide +kernel
theorem dX1_add_4 : decode cX1_add 4 = .ok (.bipush 10, 2) := by decide +kernel
theorem dX1_add_6 : decode cX1_add 6 = .ok (.if_icmp .lt 4, 3) := by decide +kernel
theorem dX1_add_9 : decode cX1_add 9 = .ok (.return_, 1) := by decide +kernel
theorem dX1_add_10 : decode cX1_add 10 = .ok (.aload_n 0, 1) := by decide +kernel
theorem dX1_add_11 : decode cX1_add 11 = .ok (.getfield 15, 3) := by decide +kernel
theorem dX1_add_14 : decode cX1_add 14 = .ok (.aload_n 0, 1) := by decide +kernel
theorem dX1_add_15 : decode cX1_add 15 = .ok (.getfield 9, 3) := by decide +kernel
theorem dX1_add_18 : decode cX1_add 18 = .ok (.iload_n 1, 1) := by decide +kernel
theorem dX1_add_19 : decode cX1_add 19 = .ok (.iastore, 1) := by decide +kernel
theorem dX1_add_20 : decode cX1_add 20 = .ok (.aload_n 0, 1) := by decide +kernel
theorem dX1_add_21 : decode cX1_add 21 = .ok (.getfield 19, 3) := by decide +kernel
theorem dX1_add_24 : decode cX1_add 24 = .ok (.aload_n 0, 1) := by decide +kernel
theorem dX1_add_25 : decode cX1_add 25 = .ok (.getfield 9, 3) := by decide +kernel
theorem dX1_add_28 : decode cX1_add 28 = .ok (.iload_n 2, 1) := by decide +kernel
theorem dX1_add_29 : decode cX1_add 29 = .ok (.iastore, 1) := by decide +kernel
theorem dX1_add_30 : decode cX1_add 30 = .ok (.aload_n 0, 1) := by decide +kernel
theorem dX1_add_31 : decode cX1_add 31 = .ok (.getfield 22, 3) := by decide +kernel
theorem dX1_add_34 : decode cX1_add 34 = .ok (.aload_n 0, 1) := by decide +kernel
theorem dX1_add_35 : decode cX1_add 35 = .ok (.getfield 9, 3) := by decide +kernel
theorem dX1_add_38 : decode cX1_add 38 = .ok (.iload_n 3, 1) := by decide +kernel
theorem dX1_add_39 : decode cX1_add 39 = .ok (.iastore, 1) := by decide +kernel
theorem dX1_add_40 : decode cX1_add 40 = .ok (.aload_n 0, 1) := by decide +kernel
theorem dX1_add_41 : decode cX1_add 41 = .ok (.getfield 25, 3) := by decide +kernel
theorem dX1_add_44 : decode cX1_add 44 = .ok (.aload_n 0, 1) := by decide +kernel
theorem dX1_add_45 : decode cX1_add 45 = .ok (.getfield 9, 3) := by decide +kernel
theorem dX1_add_48 : decode cX1_add 48 = .ok (.iconst 0, 1) := by decide +kernel
theorem dX1_add_49 : decode cX1_add 49 = .ok (.iastore, 1) := by decide +kernel
theorem dX1_add_50 : decode cX1_add 50 = .ok (.aload_n 0, 1) := by decide +kernel
theorem dX1_add_51 : decode cX1_add 51 = .ok (.getfield 28, 3) := by decide +kernel
theorem dX1_add_54 : decode cX1_add 54 = .ok (.aload_n 0, 1) := by decide +kernel
theorem dX1_add_55 : decode cX1_add 55 = .ok (.getfield 9, 3) := by decide +kernel
theorem dX1_add_58 : decode cX1_add 58 = .ok (.iconst 0, 1) := by decide +kernel
theorem dX1_add_59 : decode cX1_add 59 = .ok (.iastore, 1) := by decide +kernel
theorem dX1_add_60 : decode cX1_add 60 = .ok (.aload_n 0, 1) := by decide +kernel
theorem dX1_add_61 : decode cX1_add 61 = .ok (.dup, 1) := by decide +kernel
theorem dX1_add_62 : decode cX1_add 62 = .ok (.getfield 9, 3) := by decide +kernel
theorem dX1_add_65 : decode cX1_add 65 = .ok (.iconst 1, 1) := by decide +kernel
theorem dX1_add_66 : decode cX1_add 66 = .ok (.iadd, 1) := by decide +kernel
theorem dX1_add_67 : decode cX1_add 67 = .ok (.putfield 9, 3) := by decide +kernel
theorem dX1_add_70 : decode cX1_add 70 = .ok (.return_, 1) := by decide +kernel
theorem dX1_forget_0 : decode cX1_forget 0 = .ok (.aload_n 0, 1) := by decide +kernel
theorem dX1_forget_1 : decode cX1_forget 1 = .ok (.getfield 25, 3) := by decide +kernel
theorem dX1_forget_4 : decode cX1_forget 4 = .ok (.iconst 0, 1) := by decide +kernel
theorem dX1_forget_5 : decode cX1_forget 5 = .ok (.invokestatic 34, 3) := by decide +kernel
theorem dX1_forget_8 : decode cX1_forget 8 = .ok (.aload_n 0, 1) := by decide +kernel
theorem dX1_forget_9 : decode cX1_forget 9 = .ok (.getfield 28, 3) := by decide +kernel
theorem dX1_forget_12 : decode cX1_forget 12 = .ok (.iconst 0, 1) := by decide +kernel
theorem dX1_forget_13 : decode cX1_forget 13 = .ok (.invokestatic 34, 3) := by decide +kernel
theorem dX1_forget_16 : decode cX1_forget 16 = .ok (.return_, 1) := by decide +kernel
theorem dX1_allWrongs_0 : decode cX1_allWrongs 0 = .ok (.iconst 0, 1) := by decide +kernel
theorem dX1_allWrongs_1 : decode cX1_allWrongs 1 = .ok (.istore_n 1, 1) := by decide +kernel
theorem dX1_allWrongs_2 : decode cX1_allWrongs 2 = .ok (.iconst 0, 1) := by decide +kernel
theorem dX1_allWrongs_3 : decode cX1_allWrongs 3 = .ok (.istore_n 2, 1) := by decide +kernel
theorem dX1_allWrongs_4 : decode cX1_allWrongs 4 = .ok (.iload_n 2, 1) := by decide +kernel
theorem dX1_allWrongs_5 : decode cX1_allWrongs 5 = .ok (.aload_n 0, 1) := by decide +kernel
theorem dX1_allWrongs_6 : decode cX1_allWrongs 6 = .ok (.getfield 9, 3) := by decide +kernel
theorem dX1_allWrongs_9 : decode cX1_allWrongs 9 = .ok (.if_icmp .ge 18, 3) := by decide +kernel
theorem dX1_allWrongs_12 : decode cX1_allWrongs 12 = .ok (.iload_n 1, 1) := by decide +kernel
theorem dX1_allWrongs_13 : decode cX1_allWrongs 13 = .ok (.aload_n 0, 1) := by decide +kernel
theorem dX1_allWrongs_14 : decode cX1_allWrongs 14 = .ok (.getfield 28, 3) := by decide +kernel
theorem dX1_allWrongs_17 : decode cX1_allWrongs 17 = .ok (.iload_n 2, 1) := by decide +kernel
theorem dX1_allWrongs_18 : decode cX1_allWrongs 18 = .ok (.iaload, 1) := by decide +kernel
theorem dX1_allWrongs_19 : decode cX1_allWrongs 19 = .ok (.iadd, 1) := by decide +kernel
theorem dX1_allWrongs_20 : decode cX1_allWrongs 20 = .ok (.istore_n 1, 1) := by decide +kernel
theorem dX1_allWrongs_21 : decode cX1_allWrongs 21 = .ok (.iinc 2 1, 3) := by decide +kernel
theorem dX1_allWrongs_24 : decode cX1_allWrongs 24 = .ok (.goto (-20), 3) := by decide +kernel
theorem dX1_allWrongs_27 : decode cX1_allWrongs 27 = .ok (.iload_n 1, 1) := by decide +kernel
theorem dX1_allWrongs_28 : decode cX1_allWrongs 28 = .ok (.ireturn, 1) := by decide +kernel
theorem dX1_become_0 : decode cX1_become 0 = .ok (.aload_n 0, 1) := by decide +kernel
theorem dX1_become_1 : decode cX1_become 1 = .ok (.aload_n 1, 1) := by decide +kernel
theorem dX1_become_2 : decode cX1_become 2 = .ok (.getfield 9, 3) := by decide +kernel
theorem dX1_become_5 : decode cX1_become 5 = .ok (.putfield 9, 3) := by decide +kernel
theorem dX1_become_8 : decode cX1_become 8 = .ok (.aload_n 1, 1) := by decide +kernel
theorem dX1_become_9 : decode cX1_become 9 = .ok (.getfield 15, 3) := by decide +kernel
theorem dX1_become_12 : decode cX1_become 12 = .ok (.iconst 0, 1) := by decide +kernel
theorem dX1_become_13 : decode cX1_become 13 = .ok (.aload_n 0, 1) := by decide +kernel
theorem dX1_become_14 : decode cX1_become 14 = .ok (.getfield 15, 3) := by decide +kernel
theorem dX1_become_17 : decode cX1_become 17 = .ok (.iconst 0, 1) := by decide +kernel
theorem dX1_become_18 : decode cX1_become 18 = .ok (.bipush 10, 2) := by decide +kernel
theorem dX1_become_20 : decode cX1_become 20 = .ok (.invokestatic 40, 3) := by decide +kernel
theorem dX1_become_23 : decode cX1_become 23 = .ok (.aload_n 1, 1) := by decide +kernel
theorem dX1_become_24 : decode cX1_become 24 = .ok (.getfield 19, 3) := by decide +kernel
theorem dX1_become_27 : decode cX1_become 27 = .ok (.iconst 0, 1) := by decide +kernel
theorem dX1_become_28 : decode cX1_become 28 = .ok (.aload_n 0, 1) := by decide +kernel
theorem dX1_become_29 : decode cX1_become 29 = .ok (.getfield 19, 3) := by decide +kernel
theorem dX1_become_32 : decode cX1_become 32 = .ok (.iconst 0, 1) := by decide +kernel
theorem dX1_become_33 : decode cX1_become 33 = .ok (.bipush 10, 2) := by decide +kernel
theorem dX1_become_35 : decode cX1_become 35 = .ok (.invokestatic 40, 3) := by decide +kernel
theorem dX1_become_38 : decode cX1_become 38 = .ok (.aload_n 1, 1) := by decide +kernel
theorem dX1_become_39 : decode cX1_become 39 = .ok (.getfield 22, 3) := by decide +kernel
theorem dX1_become_42 : decode cX1_become 42 = .ok (.iconst 0, 1) := by decide +kernel
theorem dX1_become_43 : decode cX1_become 43 = .ok (.aload_n 0, 1) := by decide +kernel
theorem dX1_become_44 : decode cX1_become 44 = .ok (.getfield 22, 3) := by decide +kernel
theorem dX1_become_47 : decode cX1_become 47 = .ok (.iconst 0, 1) := by decide +kernel
theorem dX1_become_48 : decode cX1_become 48 = .ok (.bipush 10, 2) := by decide +kernel
theorem dX1_become_50 : decode cX1_become 50 = .ok (.invokestatic 40, 3) := by decide +kernel
theorem dX1_become_53 : decode cX1_become 53 = .ok (.aload_n 1, 1) := by decide +kernel
theorem dX1_become_54 : decode cX1_become 54 = .ok (.getfield 25, 3) := by decide +kernel
theorem dX1_become_57 : decode cX1_become 57 = .ok (.iconst 0, 1) := by decide +kernel
theorem dX1_become_58 : decode cX1_become 58 = .ok (.aload_n 0, 1) := by decide +kernel
theorem dX1_become_59 : decode cX1_become 59 = .ok (.getfield 25, 3) := by decide +kernel
theorem dX1_become_62 : decode cX1_become 62 = .ok (.iconst 0, 1) := by decide +kernel
theorem dX1_become_63 : decode cX1_become 63 = .ok (.bipush 10, 2) := by decide +kernel
theorem dX1_become_65 : decode cX1_become 65 = .ok (.invokestatic 40, 3) := by decide +kernel
theorem dX1_become_68 : decode cX1_become 68 = .ok (.aload_n 1, 1) := by decide +kernel
theorem dX1_become_69 : decode cX1_become 69 = .ok (.getfield 28, 3) := by decide +kernel
theorem dX1_become_72 : decode cX1_become 72 = .ok (.iconst 0, 1) := by decide +kernel
theorem dX1_become_73 : decode cX1_become 73 = .ok (.aload_n 0, 1) := by decide +kernel
theorem dX1_become_74 : decode cX1_become 74 = .ok (.getfield 28, 3) := by decide +kernel
theorem dX1_become_77 : decode cX1_become 77 = .ok (.iconst 0, 1) := by decide +kernel
theorem dX1_become_78 : decode cX1_become 78 = .ok (.bipush 10, 2) := by decide +kernel
theorem dX1_become_80 : decode cX1_become 80 = .ok (.invokestatic 40, 3) := by decide +kernel
theorem dX1_become_83 : decode cX1_become 83 = .ok (.aload_n 1, 1) := by decide +kernel
theorem dX1_become_84 : decode cX1_become 84 = .ok (.getfield 31, 3) := by decide +kernel
theorem dX1_become_87 : decode cX1_become 87 = .ok (.iconst 0, 1) := by decide +kernel
theorem dX1_become_88 : decode cX1_become 88 = .ok (.aload_n 0, 1) := by decide +kernel
theorem dX1_become_89 : decode cX1_become 89 = .ok (.getfield 31, 3) := by decide +kernel
theorem dX1_become_92 : decode cX1_become 92 = .ok (.iconst 0, 1) := by decide +kernel
theorem dX1_become_93 : decode cX1_become 93 = .ok (.bipush 120, 2) := by decide +kernel
theorem dX1_become_95 : decode cX1_become 95 = .ok (.invokestatic 40, 3) := by decide +kernel
theorem dX1_become_98 : decode cX1_become 98 = .ok (.return_, 1) := by decide +kernel
theorem dX2_init_0 : decode cX2_init 0 = .ok (.aload_n 0, 1) := by decide +kernel
theorem dX2_init_1 : decode cX2_init 1 = .ok (.invokespecial 3, 3) := by decide +kernel
theorem dX2_init_4 : decode cX2_init 4 = .ok (.aload_n 0, 1) := by decide +kernel
theorem dX2_init_5 : decode cX2_init 5 = .ok (.iconst 0, 1) := by decide +kernel
theorem dX2_init_6 : decode cX2_init 6 = .ok (.putfield 9, 3) := by decide +kernel
theorem dX2_init_9 : decode cX2_init 9 = .ok (.aload_n 0, 1) := by decide +kernel
theorem dX2_init_10 : decode cX2_init 10 = .ok (.iconst 0, 1) := by decide +kernel
theorem dX2_init_11 : decode cX2_init 11 = .ok (.putfield 15, 3) := by decide +kernel
theorem dX2_init_14 : decode cX2_init 14 = .ok (.aload_n 0, 1) := by decide +kernel
theorem dX2_init_15 : decode cX2_init 15 = .ok (.bipush 12, 2) := by decide +kernel
theorem dX2_init_17 : decode cX2_init 17 = .ok (.newarray .int, 2) := by decide +kernel
theorem dX2_init_19 : decode cX2_init 19 = .ok (.putfield 18, 3) := by decide +kernel
theorem dX2_init_22 : decode cX2_init 22 = .ok (.aload_n 0, 1) := by decide +kernel
theorem dX2_init_23 : decode cX2_init 23 = .ok (.bipush 12, 2) := by decide +kernel
theorem dX2_init_25 : decode cX2_init 25 = .ok (.newarray .int, 2) := by decide +kernel
theorem dX2_init_27 : decode cX2_init 27 = .ok (.putfield 22, 3) := by decide +kernel
theorem dX2_init_30 : decode cX2_init 30 = .ok (.aload_n 0, 1) := by decide +kernel
theorem dX2_init_31 : decode cX2_init 31 = .ok (.bipush 12, 2) := by decide +kernel
theorem dX2_init_33 : decode cX2_init 33 = .ok (.newarray .int, 2) := by decide +kernel
theorem dX2_init_35 : decode cX2_init 35 = .ok (.putfield 25, 3) := by decide +kernel
theorem dX2_init_38 : decode cX2_init 38 = .ok (.aload_n 0, 1) := by decide +kernel
theorem dX2_init_39 : decode cX2_init 39 = .ok (.bipush 12, 2) := by decide +kernel
theorem dX2_init_41 : decode cX2_init 41 = .ok (.newarray .int, 2) := by decide +kernel
theorem dX2_init_43 : decode cX2_init 43 = .ok (.putfield 28, 3) := by decide +kernel
theorem dX2_init_46 : decode cX2_init 46 = .ok (.return_, 1) := by decide +kernel
theorem dX2_add_0 : decode cX2_add 0 = .ok (.aload_n 0, 1) := by decide +kernel
theorem dX2_add_1 : decode cX2_add 1 = .ok (.getfield 9, 3) := by decide +kernel
theorem dX2_add_4 : decode cX2_add 4 = .ok (.bipush 12, 2) := by decide +kernel
theorem dX2_add_6 : decode cX2_add 6 = .ok (.if_icmp .lt 4, 3) := by decide +kernel
theorem dX2_add_9 : decode cX2_add 9 = .ok (.return_, 1) := by decide +kernel
theorem dX2_add_10 : decode cX2_add 10 = .ok (.aload_n 0, 1) := by decide +kernel
theorem dX2_add_11 : decode cX2_add 11 = .ok (.getfield 18, 3) := by decide +kernel
theorem dX2_add_14 : decode cX2_add 14 = .ok (.aload_n 0, 1) := by decide +kernel
theorem dX2_add_15 : decode cX2_add 15 = .ok (.getfield 9, 3) := by decide +kernel
theorem dX2_add_18 : decode cX2_add 18 = .ok (.iload_n 1, 1) := by decide +kernel
theorem dX2_add_19 : decode cX2_add 19 = .ok (.iastore, 1) := by decide +kernel
theorem dX2_add_20 : decode cX2_add 20 = .ok (.aload_n 0, 1) := by decide +kernel
theorem dX2_add_21 : decode cX2_add 21 = .ok (.getfield 22, 3) := by decide +kernel
theorem dX2_add_24 : decode cX2_add 24 = .ok (.aload_n 0, 1) := by decide +kernel
theorem dX2_add_25 : decode cX2_add 25 = .ok (.getfield 9, 3) := by decide +kernel
theorem dX2_add_28 : decode cX2_add 28 = .ok (.iload_n 2, 1) := by decide +kernel
theorem dX2_add_29 : decode cX2_add 29 = .ok (.iastore, 1) := by decide +kernel
theorem dX2_add_30 : decode cX2_add 30 = .ok (.aload_n 0, 1) := by decide +kernel
theorem dX2_add_31 : decode cX2_add 31 = .ok (.getfield 25, 3) := by decide +kernel
theorem dX2_add_34 : decode cX2_add 34 = .ok (.aload_n 0, 1) := by decide +kernel
theorem dX2_add_35 : decode cX2_add 35 = .ok (.getfield 9, 3) := by decide +kernel
theorem dX2_add_38 : decode cX2_add 38 = .ok (.iload_n 3, 1) := by decide +kernel
theorem dX2_add_39 : decode cX2_add 39 = .ok (.iastore, 1) := by decide +kernel
theorem dX2_add_40 : decode cX2_add 40 = .ok (.aload_n 0, 1) := by decide +kernel
theorem dX2_add_41 : decode cX2_add 41 = .ok (.getfield 28, 3) := by decide +kernel
theorem dX2_add_44 : decode cX2_add 44 = .ok (.aload_n 0, 1) := by decide +kernel
theorem dX2_add_45 : decode cX2_add 45 = .ok (.getfield 9, 3) := by decide +kernel
theorem dX2_add_48 : decode cX2_add 48 = .ok (.iload 4, 2) := by decide +kernel
theorem dX2_add_50 : decode cX2_add 50 = .ok (.iastore, 1) := by decide +kernel
theorem dX2_add_51 : decode cX2_add 51 = .ok (.aload_n 0, 1) := by decide +kernel
theorem dX2_add_52 : decode cX2_add 52 = .ok (.dup, 1) := by decide +kernel
theorem dX2_add_53 : decode cX2_add 53 = .ok (.getfield 9, 3) := by decide +kernel
theorem dX2_add_56 : decode cX2_add 56 = .ok (.iconst 1, 1) := by decide +kernel
theorem dX2_add_57 : decode cX2_add 57 = .ok (.iadd, 1) := by decide +kernel
theorem dX2_add_58 : decode cX2_add 58 = .ok (.putfield 9, 3) := by decide +kernel
theorem dX2_add_61 : decode cX2_add 61 = .ok (.aload_n 0, 1) := by decide +kernel
theorem dX2_add_62 : decode cX2_add 62 = .ok (.iconst 0, 1) := by decide +kernel
theorem dX2_add_63 : decode cX2_add 63 = .ok (.putfield 15, 3) := by decide +kernel
theorem dX2_add_66 : decode cX2_add 66 = .ok (.return_, 1) := by decide +kernel
theorem dX2_clear_0 : decode cX2_clear 0 = .ok (.aload_n 0, 1) := by decide +kernel
theorem dX2_clear_1 : decode cX2_clear 1 = .ok (.iconst 0, 1) := by decide +kernel
theorem dX2_clear_2 : decode cX2_clear 2 = .ok (.putfield 9, 3) := by decide +kernel
theorem dX2_clear_5 : decode cX2_clear 5 = .ok (.aload_n 0, 1) := by decide +kernel
theorem dX2_clear_6 : decode cX2_clear 6 = .ok (.iconst 0, 1) := by decide +kernel
theorem dX2_clear_7 : decode cX2_clear 7 = .ok (.putfield 15, 3) := by decide +kernel
theorem dX2_clear_10 : decode cX2_clear 10 = .ok (.return_, 1) := by decide +kernel
theorem dX2_areNoLater_0 : decode cX2_areNoLater 0 = .ok (.iconst 0, 1) := by decide +kernel
theorem dX2_areNoLater_1 : decode cX2_areNoLater 1 = .ok (.istore_n 3, 1) := by decide +kernel
theorem dX2_areNoLater_2 : decode cX2_areNoLater 2 = .ok (.iload_n 3, 1) := by decide +kernel
theorem dX2_areNoLater_3 : decode cX2_areNoLater 3 = .ok (.aload_n 0, 1) := by decide +kernel
theorem dX2_areNoLater_4 : decode cX2_areNoLater 4 = .ok (.getfield 9, 3) := by decide +kernel
theorem dX2_areNoLater_7 : decode cX2_areNoLater 7 = .ok (.if_icmp .ge 29, 3) := by decide +kernel
theorem dX2_areNoLater_10 : decode cX2_areNoLater 10 = .ok (.iload_n 1, 1) := by decide +kernel
theorem dX2_areNoLater_11 : decode cX2_areNoLater 11 = .ok (.iload_n 3, 1) := by decide +kernel
theorem dX2_areNoLater_12 : decode cX2_areNoLater 12 = .ok (.invokestatic 31, 3) := by decide +kernel
theorem dX2_areNoLater_15 : decode cX2_areNoLater 15 = .ok (.ifCond .eq 15, 3) := by decide +kernel
theorem dX2_areNoLater_18 : decode cX2_areNoLater 18 = .ok (.aload_n 0, 1) := by decide +kernel
theorem dX2_areNoLater_19 : decode cX2_areNoLater 19 = .ok (.getfield 18, 3) := by decide +kernel
theorem dX2_areNoLater_22 : decode cX2_areNoLater 22 = .ok (.iload_n 3, 1) := by decide +kernel
theorem dX2_areNoLater_23 : decode cX2_areNoLater 23 = .ok (.iaload, 1) := by decide +kernel
theorem dX2_areNoLater_24 : decode cX2_areNoLater 24 = .ok (.iload_n 2, 1) := by decide +kernel
theorem dX2_areNoLater_25 : decode cX2_areNoLater 25 = .ok (.if_icmp .le 5, 3) := by decide +kernel
theorem dX2_areNoLater_28 : decode cX2_areNoLater 28 = .ok (.iconst 0, 1) := by decide +kernel
theorem dX2_areNoLater_29 : decode cX2_areNoLater 29 = .ok (.ireturn, 1) := by decide +kernel
theorem dX2_areNoLater_30 : decode cX2_areNoLater 30 = .ok (.iinc 3 1, 3) := by decide +kernel
theorem dX2_areNoLater_33 : decode cX2_areNoLater 33 = .ok (.goto (-31), 3) := by decide +kernel
theorem dX2_areNoLater_36 : decode cX2_areNoLater 36 = .ok (.iconst 1, 1) := by decide +kernel
theorem dX2_areNoLater_37 : decode cX2_areNoLater 37 = .ok (.ireturn, 1) := by decide +kernel
theorem dX2_ofYear_0 : decode cX2_ofYear 0 = .ok (.iconst 0, 1) := by decide +kernel
theorem dX2_ofYear_1 : decode cX2_ofYear 1 = .ok (.istore_n 2, 1) := by decide +kernel
theorem dX2_ofYear_2 : decode cX2_ofYear 2 = .ok (.iconst 0, 1) := by decide +kernel
theorem dX2_ofYear_3 : decode cX2_ofYear 3 = .ok (.istore_n 3, 1) := by decide +kernel
theorem dX2_ofYear_4 : decode cX2_ofYear 4 = .ok (.iload_n 3, 1) := by decide +kernel
theorem dX2_ofYear_5 : decode cX2_ofYear 5 = .ok (.aload_n 0, 1) := by decide +kernel
theorem dX2_ofYear_6 : decode cX2_ofYear 6 = .ok (.getfield 9, 3) := by decide +kernel
theorem dX2_ofYear_9 : decode cX2_ofYear 9 = .ok (.if_icmp .ge 25, 3) := by decide +kernel
theorem dX2_ofYear_12 : decode cX2_ofYear 12 = .ok (.aload_n 0, 1) := by decide +kernel
theorem dX2_ofYear_13 : decode cX2_ofYear 13 = .ok (.getfield 18, 3) := by decide +kernel
theorem dX2_ofYear_16 : decode cX2_ofYear 16 = .ok (.iload_n 3, 1) := by decide +kernel
theorem dX2_ofYear_17 : decode cX2_ofYear 17 = .ok (.iaload, 1) := by decide +kernel
theorem dX2_ofYear_18 : decode cX2_ofYear 18 = .ok (.iload_n 1, 1) := by decide +kernel
theorem dX2_ofYear_19 : decode cX2_ofYear 19 = .ok (.if_icmp .ne 9, 3) := by decide +kernel
theorem dX2_ofYear_22 : decode cX2_ofYear 22 = .ok (.iload_n 2, 1) := by decide +kernel
theorem dX2_ofYear_23 : decode cX2_ofYear 23 = .ok (.iconst 1, 1) := by decide +kernel
theorem dX2_ofYear_24 : decode cX2_ofYear 24 = .ok (.iload_n 3, 1) := by decide +kernel
theorem dX2_ofYear_25 : decode cX2_ofYear 25 = .ok (.ishl, 1) := by decide +kernel
theorem dX2_ofYear_26 : decode cX2_ofYear 26 = .ok (.ior, 1) := by decide +kernel
theorem dX2_ofYear_27 : decode cX2_ofYear 27 = .ok (.istore_n 2, 1) := by decide +kernel
theorem dX2_ofYear_28 : decode cX2_ofYear 28 = .ok (.iinc 3 1, 3) := by decide +kernel
theorem dX2_ofYear_31 : decode cX2_ofYear 31 = .ok (.goto (-27), 3) := by decide +kernel
theorem dX2_ofYear_34 : decode cX2_ofYear 34 = .ok (.iload_n 2, 1) := by decide +kernel
theorem dX2_ofYear_35 : decode cX2_ofYear 35 = .ok (.ireturn, 1) := by decide +kernel
theorem dX2_canFollow_0 : decode cX2_canFollow 0 = .ok (.iload_n 2, 1) := by decide +kernel
theorem dX2_canFollow_1 : decode cX2_canFollow 1 = .ok (.iload_n 1, 1) := by decide +kernel
theorem dX2_canFollow_2 : decode cX2_canFollow 2 = .ok (.invokestatic 31, 3) := by decide +kernel
theorem dX2_canFollow_5 : decode cX2_canFollow 5 = .ok (.ifCond .ne 20, 3) := by decide +kernel
theorem dX2_canFollow_8 : decode cX2_canFollow 8 = .ok (.aload_n 0, 1) := by decide +kernel
theorem dX2_canFollow_9 : decode cX2_canFollow 9 = .ok (.getfield 22, 3) := by decide +kernel
theorem dX2_canFollow_12 : decode cX2_canFollow 12 = .ok (.iload_n 1, 1) := by decide +kernel
theorem dX2_canFollow_13 : decode cX2_canFollow 13 = .ok (.iaload, 1) := by decide +kernel
theorem dX2_canFollow_14 : decode cX2_canFollow 14 = .ok (.iload_n 2, 1) := by decide +kernel
theorem dX2_canFollow_15 : decode cX2_canFollow 15 = .ok (.iconst (-1), 1) := by decide +kernel
theorem dX2_canFollow_16 : decode cX2_canFollow 16 = .ok (.ixor, 1) := by decide +kernel
theorem dX2_canFollow_17 : decode cX2_canFollow 17 = .ok (.iand, 1) := by decide +kernel
theorem dX2_canFollow_18 : decode cX2_canFollow 18 = .ok (.ifCond .ne 7, 3) := by decide +kernel
theorem dX2_canFollow_21 : decode cX2_canFollow 21 = .ok (.iconst 1, 1) := by decide +kernel
theorem dX2_canFollow_22 : decode cX2_canFollow 22 = .ok (.goto 4, 3) := by decide +kernel
theorem dX2_canFollow_25 : decode cX2_canFollow 25 = .ok (.iconst 0, 1) := by decide +kernel
theorem dX2_canFollow_26 : decode cX2_canFollow 26 = .ok (.ireturn, 1) := by decide +kernel
theorem dX2_countInto_0 : decode cX2_countInto 0 = .ok (.iconst 1, 1) := by decide +kernel
theorem dX2_countInto_1 : decode cX2_countInto 1 = .ok (.aload_n 0, 1) := by decide +kernel
theorem dX2_countInto_2 : decode cX2_countInto 2 = .ok (.getfield 9, 3) := by decide +kernel
theorem dX2_countInto_5 : decode cX2_countInto 5 = .ok (.ishl, 1) := by decide +kernel
theorem dX2_countInto_6 : decode cX2_countInto 6 = .ok (.istore_n 2, 1) := by decide +kernel
theorem dX2_countInto_7 : decode cX2_countInto 7 = .ok (.aload_n 1, 1) := by decide +kernel
theorem dX2_countInto_8 : decode cX2_countInto 8 = .ok (.arraylength, 1) := by decide +kernel
theorem dX2_countInto_9 : decode cX2_countInto 9 = .ok (.iload_n 2, 1) := by decide +kernel
theorem dX2_countInto_10 : decode cX2_countInto 10 = .ok (.if_icmp .ge 5, 3) := by decide +kernel
theorem dX2_countInto_13 : decode cX2_countInto 13 = .ok (.iconst 0, 1) := by decide +kernel
theorem dX2_countInto_14 : decode cX2_countInto 14 = .ok (.ireturn, 1) := by decide +kernel
theorem dX2_countInto_15 : decode cX2_countInto 15 = .ok (.aload_n 1, 1) := by decide +kernel
theorem dX2_countInto_16 : decode cX2_countInto 16 = .ok (.iconst 0, 1) := by decide +kernel
theorem dX2_countInto_17 : decode cX2_countInto 17 = .ok (.invokestatic 35, 3) := by decide +kernel
theorem dX2_countInto_20 : decode cX2_countInto 20 = .ok (.aload_n 1, 1) := by decide +kernel
theorem dX2_countInto_21 : decode cX2_countInto 21 = .ok (.iconst 0, 1) := by decide +kernel
theorem dX2_countInto_22 : decode cX2_countInto 22 = .ok (.iconst 1, 1) := by decide +kernel
theorem dX2_countInto_23 : decode cX2_countInto 23 = .ok (.iastore, 1) := by decide +kernel
theorem dX2_countInto_24 : decode cX2_countInto 24 = .ok (.iconst 0, 1) := by decide +kernel
theorem dX2_countInto_25 : decode cX2_countInto 25 = .ok (.istore_n 3, 1) := by decide +kernel
theorem dX2_countInto_26 : decode cX2_countInto 26 = .ok (.iload_n 3, 1) := by decide +kernel
theorem dX2_countInto_27 : decode cX2_countInto 27 = .ok (.iload_n 2, 1) := by decide +kernel
theorem dX2_countInto_28 : decode cX2_countInto 28 = .ok (.if_icmp .ge 60, 3) := by decide +kernel
theorem dX2_countInto_31 : decode cX2_countInto 31 = .ok (.aload_n 1, 1) := by decide +kernel
theorem dX2_countInto_32 : decode cX2_countInto 32 = .ok (.iload_n 3, 1) := by decide +kernel
theorem dX2_countInto_33 : decode cX2_countInto 33 = .ok (.iaload, 1) := by decide +kernel
theorem dX2_countInto_34 : decode cX2_countInto 34 = .ok (.ifCond .ne 6, 3) := by decide +kernel
theorem dX2_countInto_37 : decode cX2_countInto 37 = .ok (.goto 45, 3) := by decide +kernel
theorem dX2_countInto_40 : decode cX2_countInto 40 = .ok (.iconst 0, 1) := by decide +kernel
theorem dX2_countInto_41 : decode cX2_countInto 41 = .ok (.istore 4, 2) := by decide +kernel
theorem dX2_countInto_43 : decode cX2_countInto 43 = .ok (.iload 4, 2) := by decide +kernel
theorem dX2_countInto_45 : decode cX2_countInto 45 = .ok (.aload_n 0, 1) := by decide +kernel
theorem dX2_countInto_46 : decode cX2_countInto 46 = .ok (.getfield 9, 3) := by decide +kernel
theorem dX2_countInto_49 : decode cX2_countInto 49 = .ok (.if_icmp .ge 33, 3) := by decide +kernel
theorem dX2_countInto_52 : decode cX2_countInto 52 = .ok (.aload_n 0, 1) := by decide +kernel
theorem dX2_countInto_53 : decode cX2_countInto 53 = .ok (.iload 4, 2) := by decide +kernel
theorem dX2_countInto_55 : decode cX2_countInto 55 = .ok (.iload_n 3, 1) := by decide +kernel
theorem dX2_countInto_56 : decode cX2_countInto 56 = .ok (.invokevirtual 41, 3) := by decide +kernel
theorem dX2_countInto_59 : decode cX2_countInto 59 = .ok (.ifCond .eq 17, 3) := by decide +kernel
theorem dX2_countInto_62 : decode cX2_countInto 62 = .ok (.aload_n 1, 1) := by decide +kernel
theorem dX2_countInto_63 : decode cX2_countInto 63 = .ok (.iload_n 3, 1) := by decide +kernel
theorem dX2_countInto_64 : decode cX2_countInto 64 = .ok (.iconst 1, 1) := by decide +kernel
theorem dX2_countInto_65 : decode cX2_countInto 65 = .ok (.iload 4, 2) := by decide +kernel
theorem dX2_countInto_67 : decode cX2_countInto 67 = .ok (.ishl, 1) := by decide +kernel
theorem dX2_countInto_68 : decode cX2_countInto 68 = .ok (.ior, 1) := by decide +kernel
theorem dX2_countInto_69 : decode cX2_countInto 69 = .ok (.dup2, 1) := by decide +kernel
theorem dX2_countInto_70 : decode cX2_countInto 70 = .ok (.iaload, 1) := by decide +kernel
theorem dX2_countInto_71 : decode cX2_countInto 71 = .ok (.aload_n 1, 1) := by decide +kernel
theorem dX2_countInto_72 : decode cX2_countInto 72 = .ok (.iload_n 3, 1) := by decide +kernel
theorem dX2_countInto_73 : decode cX2_countInto 73 = .ok (.iaload, 1) := by decide +kernel
theorem dX2_countInto_74 : decode cX2_countInto 74 = .ok (.iadd, 1) := by decide +kernel
theorem dX2_countInto_75 : decode cX2_countInto 75 = .ok (.iastore, 1) := by decide +kernel
theorem dX2_countInto_76 : decode cX2_countInto 76 = .ok (.iinc 4 1, 3) := by decide +kernel
theorem dX2_countInto_79 : decode cX2_countInto 79 = .ok (.goto (-36), 3) := by decide +kernel
theorem dX2_countInto_82 : decode cX2_countInto 82 = .ok (.iinc 3 1, 3) := by decide +kernel
theorem dX2_countInto_85 : decode cX2_countInto 85 = .ok (.goto (-59), 3) := by decide +kernel
theorem dX2_countInto_88 : decode cX2_countInto 88 = .ok (.aload_n 1, 1) := by decide +kernel
theorem dX2_countInto_89 : decode cX2_countInto 89 = .ok (.iload_n 2, 1) := by decide +kernel
theorem dX2_countInto_90 : decode cX2_countInto 90 = .ok (.iconst 1, 1) := by decide +kernel
theorem dX2_countInto_91 : decode cX2_countInto 91 = .ok (.isub, 1) := by decide +kernel
theorem dX2_countInto_92 : decode cX2_countInto 92 = .ok (.iaload, 1) := by decide +kernel
theorem dX2_countInto_93 : decode cX2_countInto 93 = .ok (.ireturn, 1) := by decide +kernel
theorem dX2_inLastOrder_0 : decode cX2_inLastOrder 0 = .ok (.iconst 0, 1) := by decide +kernel
theorem dX2_inLastOrder_1 : decode cX2_inLastOrder 1 = .ok (.istore_n 2, 1) := by decide +kernel
theorem dX2_inLastOrder_2 : decode cX2_inLastOrder 2 = .ok (.bipush (-4), 2) := by decide +kernel
theorem dX2_inLastOrder_4 : decode cX2_inLastOrder 4 = .ok (.istore_n 3, 1) := by decide +kernel
theorem dX2_inLastOrder_5 : decode cX2_inLastOrder 5 = .ok (.iconst 0, 1) := by decide +kernel
theorem dX2_inLastOrder_6 : decode cX2_inLastOrder 6 = .ok (.istore 4, 2) := by decide +kernel
theorem dX2_inLastOrder_8 : decode cX2_inLastOrder 8 = .ok (.iload 4, 2) := by decide +kernel
theorem dX2_inLastOrder_10 : decode cX2_inLastOrder 10 = .ok (.iload_n 1, 1) := by decide +kernel
theorem dX2_inLastOrder_11 : decode cX2_inLastOrder 11 = .ok (.if_icmp .gt 37, 3) := by decide +kernel
theorem dX2_inLastOrder_14 : decode cX2_inLastOrder 14 = .ok (.iload 4, 2) := by decide +kernel
theorem dX2_inLastOrder_16 : decode cX2_inLastOrder 16 = .ok (.aload_n 0, 1) := by decide +kernel
theorem dX2_inLastOrder_17 : decode cX2_inLastOrder 17 = .ok (.getfield 9, 3) := by decide +kernel
theorem dX2_inLastOrder_20 : decode cX2_inLastOrder 20 = .ok (.if_icmp .ge 28, 3) := by decide +kernel
theorem dX2_inLastOrder_23 : decode cX2_inLastOrder 23 = .ok (.aload_n 0, 1) := by decide +kernel
theorem dX2_inLastOrder_24 : decode cX2_inLastOrder 24 = .ok (.iload_n 2, 1) := by decide +kernel
theorem dX2_inLastOrder_25 : decode cX2_inLastOrder 25 = .ok (.invokevirtual 44, 3) := by decide +kernel
theorem dX2_inLastOrder_28 : decode cX2_inLastOrder 28 = .ok (.istore_n 3, 1) := by decide +kernel
theorem dX2_inLastOrder_29 : decode cX2_inLastOrder 29 = .ok (.iload_n 3, 1) := by decide +kernel
theorem dX2_inLastOrder_30 : decode cX2_inLastOrder 30 = .ok (.ifCond .ge 6, 3) := by decide +kernel
theorem dX2_inLastOrder_33 : decode cX2_inLastOrder 33 = .ok (.bipush (-4), 2) := by decide +kernel
theorem dX2_inLastOrder_35 : decode cX2_inLastOrder 35 = .ok (.ireturn, 1) := by decide +kernel
theorem dX2_inLastOrder_36 : decode cX2_inLastOrder 36 = .ok (.iload_n 2, 1) := by decide +kernel
theorem dX2_inLastOrder_37 : decode cX2_inLastOrder 37 = .ok (.iconst 1, 1) := by decide +kernel
theorem dX2_inLastOrder_38 : decode cX2_inLastOrder 38 = .ok (.iload_n 3, 1) := by decide +kernel
theorem dX2_inLastOrder_39 : decode cX2_inLastOrder 39 = .ok (.ishl, 1) := by decide +kernel
theorem dX2_inLastOrder_40 : decode cX2_inLastOrder 40 = .ok (.ior, 1) := by decide +kernel
theorem dX2_inLastOrder_41 : decode cX2_inLastOrder 41 = .ok (.istore_n 2, 1) := by decide +kernel
theorem dX2_inLastOrder_42 : decode cX2_inLastOrder 42 = .ok (.iinc 4 1, 3) := by decide +kernel
theorem dX2_inLastOrder_45 : decode cX2_inLastOrder 45 = .ok (.goto (-37), 3) := by decide +kernel
theorem dX2_inLastOrder_48 : decode cX2_inLastOrder 48 = .ok (.iload_n 3, 1) := by decide +kernel
theorem dX2_inLastOrder_49 : decode cX2_inLastOrder 49 = .ok (.ireturn, 1) := by decide +kernel
theorem dX2_greatestBehind_0 : decode cX2_greatestBehind 0 = .ok (.aload_n 0, 1) := by decide +kernel
theorem dX2_greatestBehind_1 : decode cX2_greatestBehind 1 = .ok (.getfield 9, 3) := by decide +kernel
theorem dX2_greatestBehind_4 : decode cX2_greatestBehind 4 = .ok (.iconst 1, 1) := by decide +kernel
theorem dX2_greatestBehind_5 : decode cX2_greatestBehind 5 = .ok (.isub, 1) := by decide +kernel
theorem dX2_greatestBehind_6 : decode cX2_greatestBehind 6 = .ok (.istore_n 2, 1) := by decide +kernel
theorem dX2_greatestBehind_7 : decode cX2_greatestBehind 7 = .ok (.iload_n 2, 1) := by decide +kernel
theorem dX2_greatestBehind_8 : decode cX2_greatestBehind 8 = .ok (.ifCond .lt 20, 3) := by decide +kernel
theorem dX2_greatestBehind_11 : decode cX2_greatestBehind 11 = .ok (.aload_n 0, 1) := by decide +kernel
theorem dX2_greatestBehind_12 : decode cX2_greatestBehind 12 = .ok (.iload_n 2, 1) := by decide +kernel
theorem dX2_greatestBehind_13 : decode cX2_greatestBehind 13 = .ok (.iload_n 1, 1) := by decide +kernel
theorem dX2_greatestBehind_14 : decode cX2_greatestBehind 14 = .ok (.invokevirtual 41, 3) := by decide +kernel
theorem dX2_greatestBehind_17 : decode cX2_greatestBehind 17 = .ok (.ifCond .eq 5, 3) := by decide +kernel
theorem dX2_greatestBehind_20 : decode cX2_greatestBehind 20 = .ok (.iload_n 2, 1) := by decide +kernel
theorem dX2_greatestBehind_21 : decode cX2_greatestBehind 21 = .ok (.ireturn, 1) := by decide +kernel
theorem dX2_greatestBehind_22 : decode cX2_greatestBehind 22 = .ok (.iinc 2 (-1), 3) := by decide +kernel
theorem dX2_greatestBehind_25 : decode cX2_greatestBehind 25 = .ok (.goto (-18), 3) := by decide +kernel
theorem dX2_greatestBehind_28 : decode cX2_greatestBehind 28 = .ok (.bipush (-4), 2) := by decide +kernel
theorem dX2_greatestBehind_30 : decode cX2_greatestBehind 30 = .ok (.ireturn, 1) := by decide +kernel
theorem dX2_become_0 : decode cX2_become 0 = .ok (.aload_n 0, 1) := by decide +kernel
theorem dX2_become_1 : decode cX2_become 1 = .ok (.aload_n 1, 1) := by decide +kernel
theorem dX2_become_2 : decode cX2_become 2 = .ok (.getfield 9, 3) := by decide +kernel
theorem dX2_become_5 : decode cX2_become 5 = .ok (.putfield 9, 3) := by decide +kernel
theorem dX2_become_8 : decode cX2_become 8 = .ok (.aload_n 0, 1) := by decide +kernel
theorem dX2_become_9 : decode cX2_become 9 = .ok (.aload_n 1, 1) := by decide +kernel
theorem dX2_become_10 : decode cX2_become 10 = .ok (.getfield 15, 3) := by decide +kernel
theorem dX2_become_13 : decode cX2_become 13 = .ok (.putfield 15, 3) := by decide +kernel
theorem dX2_become_16 : decode cX2_become 16 = .ok (.aload_n 1, 1) := by decide +kernel
theorem dX2_become_17 : decode cX2_become 17 = .ok (.getfield 18, 3) := by decide +kernel
theorem dX2_become_20 : decode cX2_become 20 = .ok (.iconst 0, 1) := by decide +kernel
theorem dX2_become_21 : decode cX2_become 21 = .ok (.aload_n 0, 1) := by decide +kernel
theorem dX2_become_22 : decode cX2_become 22 = .ok (.getfield 18, 3) := by decide +kernel
theorem dX2_become_25 : decode cX2_become 25 = .ok (.iconst 0, 1) := by decide +kernel
theorem dX2_become_26 : decode cX2_become 26 = .ok (.bipush 12, 2) := by decide +kernel
theorem dX2_become_28 : decode cX2_become 28 = .ok (.invokestatic 48, 3) := by decide +kernel
theorem dX2_become_31 : decode cX2_become 31 = .ok (.aload_n 1, 1) := by decide +kernel
theorem dX2_become_32 : decode cX2_become 32 = .ok (.getfield 22, 3) := by decide +kernel
theorem dX2_become_35 : decode cX2_become 35 = .ok (.iconst 0, 1) := by decide +kernel
theorem dX2_become_36 : decode cX2_become 36 = .ok (.aload_n 0, 1) := by decide +kernel
theorem dX2_become_37 : decode cX2_become 37 = .ok (.getfield 22, 3) := by decide +kernel
theorem dX2_become_40 : decode cX2_become 40 = .ok (.iconst 0, 1) := by decide +kernel
theorem dX2_become_41 : decode cX2_become 41 = .ok (.bipush 12, 2) := by decide +kernel
theorem dX2_become_43 : decode cX2_become 43 = .ok (.invokestatic 48, 3) := by decide +kernel
theorem dX2_become_46 : decode cX2_become 46 = .ok (.aload_n 1, 1) := by decide +kernel
theorem dX2_become_47 : decode cX2_become 47 = .ok (.getfield 25, 3) := by decide +kernel
theorem dX2_become_50 : decode cX2_become 50 = .ok (.iconst 0, 1) := by decide +kernel
theorem dX2_become_51 : decode cX2_become 51 = .ok (.aload_n 0, 1) := by decide +kernel
theorem dX2_become_52 : decode cX2_become 52 = .ok (.getfield 25, 3) := by decide +kernel
theorem dX2_become_55 : decode cX2_become 55 = .ok (.iconst 0, 1) := by decide +kernel
theorem dX2_become_56 : decode cX2_become 56 = .ok (.bipush 12, 2) := by decide +kernel
theorem dX2_become_58 : decode cX2_become 58 = .ok (.invokestatic 48, 3) := by decide +kernel
theorem dX2_become_61 : decode cX2_become 61 = .ok (.aload_n 1, 1) := by decide +kernel
theorem dX2_become_62 : decode cX2_become 62 = .ok (.getfield 28, 3) := by decide +kernel
theorem dX2_become_65 : decode cX2_become 65 = .ok (.iconst 0, 1) := by decide +kernel
theorem dX2_become_66 : decode cX2_become 66 = .ok (.aload_n 0, 1) := by decide +kernel
theorem dX2_become_67 : decode cX2_become 67 = .ok (.getfield 28, 3) := by decide +kernel
theorem dX2_become_70 : decode cX2_become 70 = .ok (.iconst 0, 1) := by decide +kernel
theorem dX2_become_71 : decode cX2_become 71 = .ok (.bipush 12, 2) := by decide +kernel
theorem dX2_become_73 : decode cX2_become 73 = .ok (.invokestatic 48, 3) := by decide +kernel
theorem dX2_become_76 : decode cX2_become 76 = .ok (.return_, 1) := by decide +kernel
theorem dX3_init_0 : decode cX3_init 0 = .ok (.aload_n 0, 1) := by decide +kernel
theorem dX3_init_1 : decode cX3_init 1 = .ok (.invokespecial 3, 3) := by decide +kernel
theorem dX3_init_4 : decode cX3_init 4 = .ok (.aload_n 0, 1) := by decide +kernel
theorem dX3_init_5 : decode cX3_init 5 = .ok (.new 9, 3) := by decide +kernel
theorem dX3_init_8 : decode cX3_init 8 = .ok (.dup, 1) := by decide +kernel
theorem dX3_init_9 : decode cX3_init 9 = .ok (.invokespecial 11, 3) := by decide +kernel
theorem dX3_init_12 : decode cX3_init 12 = .ok (.putfield 12, 3) := by decide +kernel
theorem dX3_init_15 : decode cX3_init 15 = .ok (.aload_n 0, 1) := by decide +kernel
theorem dX3_init_16 : decode cX3_init 16 = .ok (.new 18, 3) := by decide +kernel
theorem dX3_init_19 : decode cX3_init 19 = .ok (.dup, 1) := by decide +kernel
theorem dX3_init_20 : decode cX3_init 20 = .ok (.invokespecial 20, 3) := by decide +kernel
theorem dX3_init_23 : decode cX3_init 23 = .ok (.putfield 21, 3) := by decide +kernel
theorem dX3_init_26 : decode cX3_init 26 = .ok (.aload_n 0, 1) := by decide +kernel
theorem dX3_init_27 : decode cX3_init 27 = .ok (.iconst 0, 1) := by decide +kernel
theorem dX3_init_28 : decode cX3_init 28 = .ok (.putfield 25, 3) := by decide +kernel
theorem dX3_init_31 : decode cX3_init 31 = .ok (.aload_n 0, 1) := by decide +kernel
theorem dX3_init_32 : decode cX3_init 32 = .ok (.iconst 4, 1) := by decide +kernel
theorem dX3_init_33 : decode cX3_init 33 = .ok (.newarray .int, 2) := by decide +kernel
theorem dX3_init_35 : decode cX3_init 35 = .ok (.putfield 29, 3) := by decide +kernel
theorem dX3_init_38 : decode cX3_init 38 = .ok (.aload_n 0, 1) := by decide +kernel
theorem dX3_init_39 : decode cX3_init 39 = .ok (.iconst 0, 1) := by decide +kernel
theorem dX3_init_40 : decode cX3_init 40 = .ok (.putfield 33, 3) := by decide +kernel
theorem dX3_init_43 : decode cX3_init 43 = .ok (.aload_n 0, 1) := by decide +kernel
theorem dX3_init_44 : decode cX3_init 44 = .ok (.iconst 5, 1) := by decide +kernel
theorem dX3_init_45 : decode cX3_init 45 = .ok (.newarray .int, 2) := by decide +kernel
theorem dX3_init_47 : decode cX3_init 47 = .ok (.dup, 1) := by decide +kernel
theorem dX3_init_48 : decode cX3_init 48 = .ok (.iconst 0, 1) := by decide +kernel
theorem dX3_init_49 : decode cX3_init 49 = .ok (.iconst 1, 1) := by decide +kernel
theorem dX3_init_50 : decode cX3_init 50 = .ok (.iastore, 1) := by decide +kernel
theorem dX3_init_51 : decode cX3_init 51 = .ok (.dup, 1) := by decide +kernel
theorem dX3_init_52 : decode cX3_init 52 = .ok (.iconst 1, 1) := by decide +kernel
theorem dX3_init_53 : decode cX3_init 53 = .ok (.iconst 1, 1) := by decide +kernel
theorem dX3_init_54 : decode cX3_init 54 = .ok (.iastore, 1) := by decide +kernel
theorem dX3_init_55 : decode cX3_init 55 = .ok (.dup, 1) := by decide +kernel
theorem dX3_init_56 : decode cX3_init 56 = .ok (.iconst 2, 1) := by decide +kernel
theorem dX3_init_57 : decode cX3_init 57 = .ok (.iconst 1, 1) := by decide +kernel
theorem dX3_init_58 : decode cX3_init 58 = .ok (.iastore, 1) := by decide +kernel
theorem dX3_init_59 : decode cX3_init 59 = .ok (.dup, 1) := by decide +kernel
theorem dX3_init_60 : decode cX3_init 60 = .ok (.iconst 3, 1) := by decide +kernel
theorem dX3_init_61 : decode cX3_init 61 = .ok (.iconst 1, 1) := by decide +kernel
theorem dX3_init_62 : decode cX3_init 62 = .ok (.iastore, 1) := by decide +kernel
theorem dX3_init_63 : decode cX3_init 63 = .ok (.dup, 1) := by decide +kernel
theorem dX3_init_64 : decode cX3_init 64 = .ok (.iconst 4, 1) := by decide +kernel
theorem dX3_init_65 : decode cX3_init 65 = .ok (.iconst 1, 1) := by decide +kernel
theorem dX3_init_66 : decode cX3_init 66 = .ok (.iastore, 1) := by decide +kernel
theorem dX3_init_67 : decode cX3_init 67 = .ok (.putfield 36, 3) := by decide +kernel
theorem dX3_init_70 : decode cX3_init 70 = .ok (.aload_n 0, 1) := by decide +kernel
theorem dX3_init_71 : decode cX3_init 71 = .ok (.iconst 0, 1) := by decide +kernel
theorem dX3_init_72 : decode cX3_init 72 = .ok (.putfield 39, 3) := by decide +kernel
theorem dX3_init_75 : decode cX3_init 75 = .ok (.aload_n 0, 1) := by decide +kernel
theorem dX3_init_76 : decode cX3_init 76 = .ok (.iconst 1, 1) := by decide +kernel
theorem dX3_init_77 : decode cX3_init 77 = .ok (.putfield 42, 3) := by decide +kernel
theorem dX3_init_80 : decode cX3_init 80 = .ok (.aload_n 0, 1) := by decide +kernel
theorem dX3_init_81 : decode cX3_init 81 = .ok (.iconst 0, 1) := by decide +kernel
theorem dX3_init_82 : decode cX3_init 82 = .ok (.putfield 45, 3) := by decide +kernel
theorem dX3_init_85 : decode cX3_init 85 = .ok (.aload_n 0, 1) := by decide +kernel
theorem dX3_init_86 : decode cX3_init 86 = .ok (.iconst 0, 1) := by decide +kernel
theorem dX3_init_87 : decode cX3_init 87 = .ok (.putfield 48, 3) := by decide +kernel
theorem dX3_init_90 : decode cX3_init 90 = .ok (.aload_n 0, 1) := by decide +kernel
theorem dX3_init_91 : decode cX3_init 91 = .ok (.bipush 10, 2) := by decide +kernel
theorem dX3_init_93 : decode cX3_init 93 = .ok (.newarray .int, 2) := by decide +kernel
theorem dX3_init_95 : decode cX3_init 95 = .ok (.putfield 51, 3) := by decide +kernel
theorem dX3_init_98 : decode cX3_init 98 = .ok (.aload_n 0, 1) := by decide +kernel
theorem dX3_init_99 : decode cX3_init 99 = .ok (.bipush 10, 2) := by decide +kernel
theorem dX3_init_101 : decode cX3_init 101 = .ok (.newarray .int, 2) := by decide +kernel
theorem dX3_init_103 : decode cX3_init 103 = .ok (.putfield 54, 3) := by decide +kernel
theorem dX3_init_106 : decode cX3_init 106 = .ok (.aload_n 0, 1) := by decide +kernel
theorem dX3_init_107 : decode cX3_init 107 = .ok (.bipush 10, 2) := by decide +kernel
theorem dX3_init_109 : decode cX3_init 109 = .ok (.newarray .int, 2) := by decide +kernel
theorem dX3_init_111 : decode cX3_init 111 = .ok (.putfield 57, 3) := by decide +kernel
theorem dX3_init_114 : decode cX3_init 114 = .ok (.return_, 1) := by decide +kernel
theorem dX3_become_0 : decode cX3_become 0 = .ok (.aload_n 0, 1) := by decide +kernel
theorem dX3_become_1 : decode cX3_become 1 = .ok (.getfield 12, 3) := by decide +kernel
theorem dX3_become_4 : decode cX3_become 4 = .ok (.aload_n 1, 1) := by decide +kernel
theorem dX3_become_5 : decode cX3_become 5 = .ok (.getfield 12, 3) := by decide +kernel
theorem dX3_become_8 : decode cX3_become 8 = .ok (.invokevirtual 60, 3) := by decide +kernel
theorem dX3_become_11 : decode cX3_become 11 = .ok (.aload_n 0, 1) := by decide +kernel
theorem dX3_become_12 : decode cX3_become 12 = .ok (.getfield 21, 3) := by decide +kernel
theorem dX3_become_15 : decode cX3_become 15 = .ok (.aload_n 1, 1) := by decide +kernel
theorem dX3_become_16 : decode cX3_become 16 = .ok (.getfield 21, 3) := by decide +kernel
theorem dX3_become_19 : decode cX3_become 19 = .ok (.invokevirtual 64, 3) := by decide +kernel
theorem dX3_become_22 : decode cX3_become 22 = .ok (.aload_n 0, 1) := by decide +kernel
theorem dX3_become_23 : decode cX3_become 23 = .ok (.aload_n 1, 1) := by decide +kernel
theorem dX3_become_24 : decode cX3_become 24 = .ok (.getfield 25, 3) := by decide +kernel
theorem dX3_become_27 : decode cX3_become 27 = .ok (.putfield 25, 3) := by decide +kernel
theorem dX3_become_30 : decode cX3_become 30 = .ok (.aload_n 1, 1) := by decide +kernel
theorem dX3_become_31 : decode cX3_become 31 = .ok (.getfield 29, 3) := by decide +kernel
theorem dX3_become_34 : decode cX3_become 34 = .ok (.iconst 0, 1) := by decide +kernel
theorem dX3_become_35 : decode cX3_become 35 = .ok (.aload_n 0, 1) := by decide +kernel
theorem dX3_become_36 : decode cX3_become 36 = .ok (.getfield 29, 3) := by decide +kernel
theorem dX3_become_39 : decode cX3_become 39 = .ok (.iconst 0, 1) := by decide +kernel
theorem dX3_become_40 : decode cX3_become 40 = .ok (.iconst 4, 1) := by decide +kernel
theorem dX3_become_41 : decode cX3_become 41 = .ok (.invokestatic 67, 3) := by decide +kernel
theorem dX3_become_44 : decode cX3_become 44 = .ok (.aload_n 0, 1) := by decide +kernel
theorem dX3_become_45 : decode cX3_become 45 = .ok (.aload_n 1, 1) := by decide +kernel
theorem dX3_become_46 : decode cX3_become 46 = .ok (.getfield 33, 3) := by decide +kernel
theorem dX3_become_49 : decode cX3_become 49 = .ok (.putfield 33, 3) := by decide +kernel
theorem dX3_become_52 : decode cX3_become 52 = .ok (.aload_n 1, 1) := by decide +kernel
theorem dX3_become_53 : decode cX3_become 53 = .ok (.getfield 36, 3) := by decide +kernel
theorem dX3_become_56 : decode cX3_become 56 = .ok (.iconst 0, 1) := by decide +kernel
theorem dX3_become_57 : decode cX3_become 57 = .ok (.aload_n 0, 1) := by decide +kernel
theorem dX3_become_58 : decode cX3_become 58 = .ok (.getfield 36, 3) := by decide +kernel
theorem dX3_become_61 : decode cX3_become 61 = .ok (.iconst 0, 1) := by decide +kernel
theorem dX3_become_62 : decode cX3_become 62 = .ok (.iconst 5, 1) := by decide +kernel
theorem dX3_become_63 : decode cX3_become 63 = .ok (.invokestatic 67, 3) := by decide +kernel
theorem dX3_become_66 : decode cX3_become 66 = .ok (.aload_n 0, 1) := by decide +kernel
theorem dX3_become_67 : decode cX3_become 67 = .ok (.aload_n 1, 1) := by decide +kernel
theorem dX3_become_68 : decode cX3_become 68 = .ok (.getfield 39, 3) := by decide +kernel
theorem dX3_become_71 : decode cX3_become 71 = .ok (.putfield 39, 3) := by decide +kernel
theorem dX3_become_74 : decode cX3_become 74 = .ok (.aload_n 0, 1) := by decide +kernel
theorem dX3_become_75 : decode cX3_become 75 = .ok (.aload_n 1, 1) := by decide +kernel
theorem dX3_become_76 : decode cX3_become 76 = .ok (.getfield 42, 3) := by decide +kernel
theorem dX3_become_79 : decode cX3_become 79 = .ok (.putfield 42, 3) := by decide +kernel
theorem dX3_become_82 : decode cX3_become 82 = .ok (.aload_n 0, 1) := by decide +kernel
theorem dX3_become_83 : decode cX3_become 83 = .ok (.aload_n 1, 1) := by decide +kernel
theorem dX3_become_84 : decode cX3_become 84 = .ok (.getfield 45, 3) := by decide +kernel
theorem dX3_become_87 : decode cX3_become 87 = .ok (.putfield 45, 3) := by decide +kernel
theorem dX3_become_90 : decode cX3_become 90 = .ok (.aload_n 0, 1) := by decide +kernel
theorem dX3_become_91 : decode cX3_become 91 = .ok (.aload_n 1, 1) := by decide +kernel
theorem dX3_become_92 : decode cX3_become 92 = .ok (.getfield 48, 3) := by decide +kernel
theorem dX3_become_95 : decode cX3_become 95 = .ok (.putfield 48, 3) := by decide +kernel
theorem dX3_become_98 : decode cX3_become 98 = .ok (.aload_n 1, 1) := by decide +kernel
theorem dX3_become_99 : decode cX3_become 99 = .ok (.getfield 51, 3) := by decide +kernel
theorem dX3_become_102 : decode cX3_become 102 = .ok (.iconst 0, 1) := by decide +kernel
theorem dX3_become_103 : decode cX3_become 103 = .ok (.aload_n 0, 1) := by decide +kernel
theorem dX3_become_104 : decode cX3_become 104 = .ok (.getfield 51, 3) := by decide +kernel
theorem dX3_become_107 : decode cX3_become 107 = .ok (.iconst 0, 1) := by decide +kernel
theorem dX3_become_108 : decode cX3_become 108 = .ok (.bipush 10, 2) := by decide +kernel
theorem dX3_become_110 : decode cX3_become 110 = .ok (.invokestatic 67, 3) := by decide +kernel
theorem dX3_become_113 : decode cX3_become 113 = .ok (.aload_n 1, 1) := by decide +kernel
theorem dX3_become_114 : decode cX3_become 114 = .ok (.getfield 54, 3) := by decide +kernel
theorem dX3_become_117 : decode cX3_become 117 = .ok (.iconst 0, 1) := by decide +kernel
theorem dX3_become_118 : decode cX3_become 118 = .ok (.aload_n 0, 1) := by decide +kernel
theorem dX3_become_119 : decode cX3_become 119 = .ok (.getfield 54, 3) := by decide +kernel
theorem dX3_become_122 : decode cX3_become 122 = .ok (.iconst 0, 1) := by decide +kernel
theorem dX3_become_123 : decode cX3_become 123 = .ok (.bipush 10, 2) := by decide +kernel
theorem dX3_become_125 : decode cX3_become 125 = .ok (.invokestatic 67, 3) := by decide +kernel
theorem dX3_become_128 : decode cX3_become 128 = .ok (.aload_n 1, 1) := by decide +kernel
theorem dX3_become_129 : decode cX3_become 129 = .ok (.getfield 57, 3) := by decide +kernel
theorem dX3_become_132 : decode cX3_become 132 = .ok (.iconst 0, 1) := by decide +kernel
theorem dX3_become_133 : decode cX3_become 133 = .ok (.aload_n 0, 1) := by decide +kernel
theorem dX3_become_134 : decode cX3_become 134 = .ok (.getfield 57, 3) := by decide +kernel
theorem dX3_become_137 : decode cX3_become 137 = .ok (.iconst 0, 1) := by decide +kernel
theorem dX3_become_138 : decode cX3_become 138 = .ok (.bipush 10, 2) := by decide +kernel
theorem dX3_become_140 : decode cX3_become 140 = .ok (.invokestatic 67, 3) := by decide +kernel
theorem dX3_become_143 : decode cX3_become 143 = .ok (.return_, 1) := by decide +kernel
theorem dX3_hearers_0 : decode cX3_hearers 0 = .ok (.iconst 0, 1) := by decide +kernel
theorem dX3_hearers_1 : decode cX3_hearers 1 = .ok (.istore 4, 2) := by decide +kernel
theorem dX3_hearers_3 : decode cX3_hearers 3 = .ok (.iconst 0, 1) := by decide +kernel
theorem dX3_hearers_4 : decode cX3_hearers 4 = .ok (.istore 5, 2) := by decide +kernel
theorem dX3_hearers_6 : decode cX3_hearers 6 = .ok (.iload 5, 2) := by decide +kernel
theorem dX3_hearers_8 : decode cX3_hearers 8 = .ok (.aload_n 0, 1) := by decide +kernel
theorem dX3_hearers_9 : decode cX3_hearers 9 = .ok (.getfield 12, 3) := by decide +kernel
theorem dX3_hearers_12 : decode cX3_hearers 12 = .ok (.getfield 73, 3) := by decide +kernel
theorem dX3_hearers_15 : decode cX3_hearers 15 = .ok (.if_icmp .ge 60, 3) := by decide +kernel
theorem dX3_hearers_18 : decode cX3_hearers 18 = .ok (.iload_n 2, 1) := by decide +kernel
theorem dX3_hearers_19 : decode cX3_hearers 19 = .ok (.aload_n 0, 1) := by decide +kernel
theorem dX3_hearers_20 : decode cX3_hearers 20 = .ok (.getfield 12, 3) := by decide +kernel
theorem dX3_hearers_23 : decode cX3_hearers 23 = .ok (.getfield 76, 3) := by decide +kernel
theorem dX3_hearers_26 : decode cX3_hearers 26 = .ok (.iload 5, 2) := by decide +kernel
theorem dX3_hearers_28 : decode cX3_hearers 28 = .ok (.iaload, 1) := by decide +kernel
theorem dX3_hearers_29 : decode cX3_hearers 29 = .ok (.iload_n 3, 1) := by decide +kernel
theorem dX3_hearers_30 : decode cX3_hearers 30 = .ok (.invokestatic 79, 3) := by decide +kernel
theorem dX3_hearers_33 : decode cX3_hearers 33 = .ok (.istore 6, 2) := by decide +kernel
theorem dX3_hearers_35 : decode cX3_hearers 35 = .ok (.aload_n 0, 1) := by decide +kernel
theorem dX3_hearers_36 : decode cX3_hearers 36 = .ok (.getfield 12, 3) := by decide +kernel
theorem dX3_hearers_39 : decode cX3_hearers 39 = .ok (.getfield 83, 3) := by decide +kernel
theorem dX3_hearers_42 : decode cX3_hearers 42 = .ok (.iload 5, 2) := by decide +kernel
theorem dX3_hearers_44 : decode cX3_hearers 44 = .ok (.iaload, 1) := by decide +kernel
theorem dX3_hearers_45 : decode cX3_hearers 45 = .ok (.iload 6, 2) := by decide +kernel
theorem dX3_hearers_47 : decode cX3_hearers 47 = .ok (.aload_n 0, 1) := by decide +kernel
theorem dX3_hearers_48 : decode cX3_hearers 48 = .ok (.getfield 29, 3) := by decide +kernel
theorem dX3_hearers_51 : decode cX3_hearers 51 = .ok (.iload_n 1, 1) := by decide +kernel
theorem dX3_hearers_52 : decode cX3_hearers 52 = .ok (.iaload, 1) := by decide +kernel
theorem dX3_hearers_53 : decode cX3_hearers 53 = .ok (.iload_n 3, 1) := by decide +kernel
theorem dX3_hearers_54 : decode cX3_hearers 54 = .ok (.invokestatic 86, 3) := by decide +kernel
theorem dX3_hearers_57 : decode cX3_hearers 57 = .ok (.ifCond .eq 12, 3) := by decide +kernel
theorem dX3_hearers_60 : decode cX3_hearers 60 = .ok (.iload 4, 2) := by decide +kernel
theorem dX3_hearers_62 : decode cX3_hearers 62 = .ok (.iconst 1, 1) := by decide +kernel
theorem dX3_hearers_63 : decode cX3_hearers 63 = .ok (.iload 5, 2) := by decide +kernel
theorem dX3_hearers_65 : decode cX3_hearers 65 = .ok (.ishl, 1) := by decide +kernel
theorem dX3_hearers_66 : decode cX3_hearers 66 = .ok (.ior, 1) := by decide +kernel
theorem dX3_hearers_67 : decode cX3_hearers 67 = .ok (.istore 4, 2) := by decide +kernel
theorem dX3_hearers_69 : decode cX3_hearers 69 = .ok (.iinc 5 1, 3) := by decide +kernel
theorem dX3_hearers_72 : decode cX3_hearers 72 = .ok (.goto (-66), 3) := by decide +kernel
theorem dX3_hearers_75 : decode cX3_hearers 75 = .ok (.iload 4, 2) := by decide +kernel
theorem dX3_hearers_77 : decode cX3_hearers 77 = .ok (.ireturn, 1) := by decide +kernel
theorem dX3_farFrom_0 : decode cX3_farFrom 0 = .ok (.iload_n 1, 1) := by decide +kernel
theorem dX3_farFrom_1 : decode cX3_farFrom 1 = .ok (.bipush 6, 2) := by decide +kernel
theorem dX3_farFrom_3 : decode cX3_farFrom 3 = .ok (.idiv, 1) := by decide +kernel
theorem dX3_farFrom_4 : decode cX3_farFrom 4 = .ok (.iload_n 0, 1) := by decide +kernel
theorem dX3_farFrom_5 : decode cX3_farFrom 5 = .ok (.bipush 6, 2) := by decide +kernel
theorem dX3_farFrom_7 : decode cX3_farFrom 7 = .ok (.idiv, 1) := by decide +kernel
theorem dX3_farFrom_8 : decode cX3_farFrom 8 = .ok (.isub, 1) := by decide +kernel
theorem dX3_farFrom_9 : decode cX3_farFrom 9 = .ok (.istore_n 3, 1) := by decide +kernel
theorem dX3_farFrom_10 : decode cX3_farFrom 10 = .ok (.iload_n 1, 1) := by decide +kernel
theorem dX3_farFrom_11 : decode cX3_farFrom 11 = .ok (.bipush 6, 2) := by decide +kernel
theorem dX3_farFrom_13 : decode cX3_farFrom 13 = .ok (.irem, 1) := by decide +kernel
theorem dX3_farFrom_14 : decode cX3_farFrom 14 = .ok (.iload_n 0, 1) := by decide +kernel
theorem dX3_farFrom_15 : decode cX3_farFrom 15 = .ok (.bipush 6, 2) := by decide +kernel
theorem dX3_farFrom_17 : decode cX3_farFrom 17 = .ok (.irem, 1) := by decide +kernel
theorem dX3_farFrom_18 : decode cX3_farFrom 18 = .ok (.isub, 1) := by decide +kernel
theorem dX3_farFrom_19 : decode cX3_farFrom 19 = .ok (.istore 4, 2) := by decide +kernel
theorem dX3_farFrom_21 : decode cX3_farFrom 21 = .ok (.iload_n 3, 1) := by decide +kernel
theorem dX3_farFrom_22 : decode cX3_farFrom 22 = .ok (.invokestatic 90, 3) := by decide +kernel
theorem dX3_farFrom_25 : decode cX3_farFrom 25 = .ok (.iload 4, 2) := by decide +kernel
theorem dX3_farFrom_27 : decode cX3_farFrom 27 = .ok (.invokestatic 90, 3) := by decide +kernel
theorem dX3_farFrom_30 : decode cX3_farFrom 30 = .ok (.iadd, 1) := by decide +kernel
theorem dX3_farFrom_31 : decode cX3_farFrom 31 = .ok (.iload_n 2, 1) := by decide +kernel
theorem dX3_farFrom_32 : decode cX3_farFrom 32 = .ok (.iload_n 3, 1) := by decide +kernel
theorem dX3_farFrom_33 : decode cX3_farFrom 33 = .ok (.iload 4, 2) := by decide +kernel
theorem dX3_farFrom_35 : decode cX3_farFrom 35 = .ok (.invokestatic 96, 3) := by decide +kernel
theorem dX3_farFrom_38 : decode cX3_farFrom 38 = .ok (.iconst 0, 1) := by decide +kernel
theorem dX3_farFrom_39 : decode cX3_farFrom 39 = .ok (.invokestatic 99, 3) := by decide +kernel
theorem dX3_farFrom_42 : decode cX3_farFrom 42 = .ok (.isub, 1) := by decide +kernel
theorem dX3_farFrom_43 : decode cX3_farFrom 43 = .ok (.ireturn, 1) := by decide +kernel
theorem dX3_alongWind_0 : decode cX3_alongWind 0 = .ok (.iload_n 0, 1) := by decide +kernel
theorem dX3_alongWind_1 : decode cX3_alongWind 1 = .ok (.tableswitch 41 1 4 #[31, 34, 36, 38], 31) := by decide +kernel
theorem dX3_alongWind_32 : decode cX3_alongWind 32 = .ok (.iload_n 1, 1) := by decide +kernel
theorem dX3_alongWind_33 : decode cX3_alongWind 33 = .ok (.ineg, 1) := by decide +kernel
theorem dX3_alongWind_34 : decode cX3_alongWind 34 = .ok (.ireturn, 1) := by decide +kernel
theorem dX3_alongWind_35 : decode cX3_alongWind 35 = .ok (.iload_n 2, 1) := by decide +kernel
theorem dX3_alongWind_36 : decode cX3_alongWind 36 = .ok (.ireturn, 1) := by decide +kernel
theorem dX3_alongWind_37 : decode cX3_alongWind 37 = .ok (.iload_n 1, 1) := by decide +kernel
theorem dX3_alongWind_38 : decode cX3_alongWind 38 = .ok (.ireturn, 1) := by decide +kernel
theorem dX3_alongWind_39 : decode cX3_alongWind 39 = .ok (.iload_n 2, 1) := by decide +kernel
theorem dX3_alongWind_40 : decode cX3_alongWind 40 = .ok (.ineg, 1) := by decide +kernel
theorem dX3_alongWind_41 : decode cX3_alongWind 41 = .ok (.ireturn, 1) := by decide +kernel
theorem dX3_alongWind_42 : decode cX3_alongWind 42 = .ok (.iconst 0, 1) := by decide +kernel
theorem dX3_alongWind_43 : decode cX3_alongWind 43 = .ok (.ireturn, 1) := by decide +kernel
theorem dX3_kindHears_0 : decode cX3_kindHears 0 = .ok (.iload_n 0, 1) := by decide +kernel
theorem dX3_kindHears_1 : decode cX3_kindHears 1 = .ok (.tableswitch 64 1 4 #[31, 64, 44, 46], 31) := by decide +kernel
theorem dX3_kindHears_32 : decode cX3_kindHears 32 = .ok (.iload_n 1, 1) := by decide +kernel
theorem dX3_kindHears_33 : decode cX3_kindHears 33 = .ok (.iload_n 2, 1) := by decide +kernel
theorem dX3_kindHears_34 : decode cX3_kindHears 34 = .ok (.iconst 1, 1) := by decide +kernel
theorem dX3_kindHears_35 : decode cX3_kindHears 35 = .ok (.isub, 1) := by decide +kernel
theorem dX3_kindHears_36 : decode cX3_kindHears 36 = .ok (.if_icmp .gt 7, 3) := by decide +kernel
theorem dX3_kindHears_39 : decode cX3_kindHears 39 = .ok (.iconst 1, 1) := by decide +kernel
theorem dX3_kindHears_40 : decode cX3_kindHears 40 = .ok (.goto 4, 3) := by decide +kernel
theorem dX3_kindHears_43 : decode cX3_kindHears 43 = .ok (.iconst 0, 1) := by decide +kernel
theorem dX3_kindHears_44 : decode cX3_kindHears 44 = .ok (.ireturn, 1) := by decide +kernel
theorem dX3_kindHears_45 : decode cX3_kindHears 45 = .ok (.iconst 0, 1) := by decide +kernel
theorem dX3_kindHears_46 : decode cX3_kindHears 46 = .ok (.ireturn, 1) := by decide +kernel
theorem dX3_kindHears_47 : decode cX3_kindHears 47 = .ok (.iload_n 3, 1) := by decide +kernel
theorem dX3_kindHears_48 : decode cX3_kindHears 48 = .ok (.iconst 3, 1) := by decide +kernel
theorem dX3_kindHears_49 : decode cX3_kindHears 49 = .ok (.if_icmp .eq 14, 3) := by decide +kernel
theorem dX3_kindHears_52 : decode cX3_kindHears 52 = .ok (.iload_n 1, 1) := by decide +kernel
theorem dX3_kindHears_53 : decode cX3_kindHears 53 = .ok (.iload_n 2, 1) := by decide +kernel
theorem dX3_kindHears_54 : decode cX3_kindHears 54 = .ok (.iconst 1, 1) := by decide +kernel
theorem dX3_kindHears_55 : decode cX3_kindHears 55 = .ok (.isub, 1) := by decide +kernel
theorem dX3_kindHears_56 : decode cX3_kindHears 56 = .ok (.if_icmp .gt 7, 3) := by decide +kernel
theorem dX3_kindHears_59 : decode cX3_kindHears 59 = .ok (.iconst 1, 1) := by decide +kernel
theorem dX3_kindHears_60 : decode cX3_kindHears 60 = .ok (.goto 4, 3) := by decide +kernel
theorem dX3_kindHears_63 : decode cX3_kindHears 63 = .ok (.iconst 0, 1) := by decide +kernel
theorem dX3_kindHears_64 : decode cX3_kindHears 64 = .ok (.ireturn, 1) := by decide +kernel
theorem dX3_kindHears_65 : decode cX3_kindHears 65 = .ok (.iload_n 1, 1) := by decide +kernel
theorem dX3_kindHears_66 : decode cX3_kindHears 66 = .ok (.iload_n 2, 1) := by decide +kernel
theorem dX3_kindHears_67 : decode cX3_kindHears 67 = .ok (.if_icmp .gt 7, 3) := by decide +kernel
theorem dX3_kindHears_70 : decode cX3_kindHears 70 = .ok (.iconst 1, 1) := by decide +kernel
theorem dX3_kindHears_71 : decode cX3_kindHears 71 = .ok (.goto 4, 3) := by decide +kernel
theorem dX3_kindHears_74 : decode cX3_kindHears 74 = .ok (.iconst 0, 1) := by decide +kernel
theorem dX3_kindHears_75 : decode cX3_kindHears 75 = .ok (.ireturn, 1) := by decide +kernel
theorem dX3_isOwed_0 : decode cX3_isOwed 0 = .ok (.aload_n 0, 1) := by decide +kernel
theorem dX3_isOwed_1 : decode cX3_isOwed 1 = .ok (.getfield 21, 3) := by decide +kernel
theorem dX3_isOwed_4 : decode cX3_isOwed 4 = .ok (.getfield 105, 3) := by decide +kernel
theorem dX3_isOwed_7 : decode cX3_isOwed 7 = .ok (.iload_n 2, 1) := by decide +kernel
theorem dX3_isOwed_8 : decode cX3_isOwed 8 = .ok (.iaload, 1) := by decide +kernel
theorem dX3_isOwed_9 : decode cX3_isOwed 9 = .ok (.iload_n 1, 1) := by decide +kernel
theorem dX3_isOwed_10 : decode cX3_isOwed 10 = .ok (.invokestatic 108, 3) := by decide +kernel
theorem dX3_isOwed_13 : decode cX3_isOwed 13 = .ok (.ifCond .eq 5, 3) := by decide +kernel
theorem dX3_isOwed_16 : decode cX3_isOwed 16 = .ok (.iconst 0, 1) := by decide +kernel
theorem dX3_isOwed_17 : decode cX3_isOwed 17 = .ok (.ireturn, 1) := by decide +kernel
theorem dX3_isOwed_18 : decode cX3_isOwed 18 = .ok (.aload_n 0, 1) := by decide +kernel
theorem dX3_isOwed_19 : decode cX3_isOwed 19 = .ok (.getfield 21, 3) := by decide +kernel
theorem dX3_isOwed_22 : decode cX3_isOwed 22 = .ok (.getfield 112, 3) := by decide +kernel
theorem dX3_isOwed_25 : decode cX3_isOwed 25 = .ok (.iload_n 2, 1) := by decide +kernel
theorem dX3_isOwed_26 : decode cX3_isOwed 26 = .ok (.iaload, 1) := by decide +kernel
theorem dX3_isOwed_27 : decode cX3_isOwed 27 = .ok (.aload_n 0, 1) := by decide +kernel
theorem dX3_isOwed_28 : decode cX3_isOwed 28 = .ok (.getfield 12, 3) := by decide +kernel
theorem dX3_isOwed_31 : decode cX3_isOwed 31 = .ok (.getfield 115, 3) := by decide +kernel
theorem dX3_isOwed_34 : decode cX3_isOwed 34 = .ok (.iload_n 1, 1) := by decide +kernel
theorem dX3_isOwed_35 : decode cX3_isOwed 35 = .ok (.iaload, 1) := by decide +kernel
theorem dX3_isOwed_36 : decode cX3_isOwed 36 = .ok (.isub, 1) := by decide +kernel
theorem dX3_isOwed_37 : decode cX3_isOwed 37 = .ok (.istore_n 3, 1) := by decide +kernel
theorem dX3_isOwed_38 : decode cX3_isOwed 38 = .ok (.iload_n 3, 1) := by decide +kernel
theorem dX3_isOwed_39 : decode cX3_isOwed 39 = .ok (.ifCond .lt 9, 3) := by decide +kernel
theorem dX3_isOwed_42 : decode cX3_isOwed 42 = .ok (.iload_n 3, 1) := by decide +kernel
theorem dX3_isOwed_43 : decode cX3_isOwed 43 = .ok (.bipush 8, 2) := by decide +kernel
theorem dX3_isOwed_45 : decode cX3_isOwed 45 = .ok (.if_icmp .le 5, 3) := by decide +kernel
theorem dX3_isOwed_48 : decode cX3_isOwed 48 = .ok (.iconst 0, 1) := by decide +kernel
theorem dX3_isOwed_49 : decode cX3_isOwed 49 = .ok (.ireturn, 1) := by decide +kernel
theorem dX3_isOwed_50 : decode cX3_isOwed 50 = .ok (.aload_n 0, 1) := by decide +kernel
theorem dX3_isOwed_51 : decode cX3_isOwed 51 = .ok (.getfield 12, 3) := by decide +kernel
theorem dX3_isOwed_54 : decode cX3_isOwed 54 = .ok (.getfield 83, 3) := by decide +kernel
theorem dX3_isOwed_57 : decode cX3_isOwed 57 = .ok (.iload_n 1, 1) := by decide +kernel
theorem dX3_isOwed_58 : decode cX3_isOwed 58 = .ok (.iaload, 1) := by decide +kernel
theorem dX3_isOwed_59 : decode cX3_isOwed 59 = .ok (.tableswitch 83 2 5 #[29, 48, 50, 60], 29) := by decide +kernel
theorem dX3_isOwed_88 : decode cX3_isOwed 88 = .ok (.aload_n 0, 1) := by decide +kernel
theorem dX3_isOwed_89 : decode cX3_isOwed 89 = .ok (.getfield 21, 3) := by decide +kernel
theorem dX3_isOwed_92 : decode cX3_isOwed 92 = .ok (.getfield 116, 3) := by decide +kernel
theorem dX3_isOwed_95 : decode cX3_isOwed 95 = .ok (.iload_n 2, 1) := by decide +kernel
theorem dX3_isOwed_96 : decode cX3_isOwed 96 = .ok (.iaload, 1) := by decide +kernel
theorem dX3_isOwed_97 : decode cX3_isOwed 97 = .ok (.iconst 1, 1) := by decide +kernel
theorem dX3_isOwed_98 : decode cX3_isOwed 98 = .ok (.if_icmp .ne 7, 3) := by decide +kernel
theorem dX3_isOwed_101 : decode cX3_isOwed 101 = .ok (.iconst 1, 1) := by decide +kernel
theorem dX3_isOwed_102 : decode cX3_isOwed 102 = .ok (.goto 4, 3) := by decide +kernel
theorem dX3_isOwed_105 : decode cX3_isOwed 105 = .ok (.iconst 0, 1) := by decide +kernel
theorem dX3_isOwed_106 : decode cX3_isOwed 106 = .ok (.ireturn, 1) := by decide +kernel
theorem dX3_isOwed_107 : decode cX3_isOwed 107 = .ok (.iconst 0, 1) := by decide +kernel
theorem dX3_isOwed_108 : decode cX3_isOwed 108 = .ok (.ireturn, 1) := by decide +kernel
theorem dX3_isOwed_109 : decode cX3_isOwed 109 = .ok (.iload_n 3, 1) := by decide +kernel
theorem dX3_isOwed_110 : decode cX3_isOwed 110 = .ok (.ifCond .eq 7, 3) := by decide +kernel
theorem dX3_isOwed_113 : decode cX3_isOwed 113 = .ok (.iconst 1, 1) := by decide +kernel
theorem dX3_isOwed_114 : decode cX3_isOwed 114 = .ok (.goto 4, 3) := by decide +kernel
theorem dX3_isOwed_117 : decode cX3_isOwed 117 = .ok (.iconst 0, 1) := by decide +kernel
theorem dX3_isOwed_118 : decode cX3_isOwed 118 = .ok (.ireturn, 1) := by decide +kernel
theorem dX3_isOwed_119 : decode cX3_isOwed 119 = .ok (.aload_n 0, 1) := by decide +kernel
theorem dX3_isOwed_120 : decode cX3_isOwed 120 = .ok (.getfield 21, 3) := by decide +kernel
theorem dX3_isOwed_123 : decode cX3_isOwed 123 = .ok (.getfield 116, 3) := by decide +kernel
theorem dX3_isOwed_126 : decode cX3_isOwed 126 = .ok (.iload_n 2, 1) := by decide +kernel
theorem dX3_isOwed_127 : decode cX3_isOwed 127 = .ok (.iaload, 1) := by decide +kernel
theorem dX3_isOwed_128 : decode cX3_isOwed 128 = .ok (.iconst 1, 1) := by decide +kernel
theorem dX3_isOwed_129 : decode cX3_isOwed 129 = .ok (.if_icmp .eq 7, 3) := by decide +kernel
theorem dX3_isOwed_132 : decode cX3_isOwed 132 = .ok (.iload_n 3, 1) := by decide +kernel
theorem dX3_isOwed_133 : decode cX3_isOwed 133 = .ok (.ifCond .ne 7, 3) := by decide +kernel
theorem dX3_isOwed_136 : decode cX3_isOwed 136 = .ok (.iconst 1, 1) := by decide +kernel
theorem dX3_isOwed_137 : decode cX3_isOwed 137 = .ok (.goto 4, 3) := by decide +kernel
theorem dX3_isOwed_140 : decode cX3_isOwed 140 = .ok (.iconst 0, 1) := by decide +kernel
theorem dX3_isOwed_141 : decode cX3_isOwed 141 = .ok (.ireturn, 1) := by decide +kernel
theorem dX3_isOwed_142 : decode cX3_isOwed 142 = .ok (.iconst 1, 1) := by decide +kernel
theorem dX3_isOwed_143 : decode cX3_isOwed 143 = .ok (.ireturn, 1) := by decide +kernel
theorem dX3_owedAmong_0 : decode cX3_owedAmong 0 = .ok (.iconst 0, 1) := by decide +kernel
theorem dX3_owedAmong_1 : decode cX3_owedAmong 1 = .ok (.istore_n 3, 1) := by decide +kernel
theorem dX3_owedAmong_2 : decode cX3_owedAmong 2 = .ok (.iconst 0, 1) := by decide +kernel
theorem dX3_owedAmong_3 : decode cX3_owedAmong 3 = .ok (.istore 4, 2) := by decide +kernel
theorem dX3_owedAmong_5 : decode cX3_owedAmong 5 = .ok (.iload 4, 2) := by decide +kernel
theorem dX3_owedAmong_7 : decode cX3_owedAmong 7 = .ok (.aload_n 0, 1) := by decide +kernel
theorem dX3_owedAmong_8 : decode cX3_owedAmong 8 = .ok (.getfield 21, 3) := by decide +kernel
theorem dX3_owedAmong_11 : decode cX3_owedAmong 11 = .ok (.getfield 119, 3) := by decide +kernel
theorem dX3_owedAmong_14 : decode cX3_owedAmong 14 = .ok (.if_icmp .ge 35, 3) := by decide +kernel
theorem dX3_owedAmong_17 : decode cX3_owedAmong 17 = .ok (.iload_n 2, 1) := by decide +kernel
theorem dX3_owedAmong_18 : decode cX3_owedAmong 18 = .ok (.iload 4, 2) := by decide +kernel
theorem dX3_owedAmong_20 : decode cX3_owedAmong 20 = .ok (.invokestatic 108, 3) := by decide +kernel
theorem dX3_owedAmong_23 : decode cX3_owedAmong 23 = .ok (.ifCond .eq 20, 3) := by decide +kernel
theorem dX3_owedAmong_26 : decode cX3_owedAmong 26 = .ok (.aload_n 0, 1) := by decide +kernel
theorem dX3_owedAmong_27 : decode cX3_owedAmong 27 = .ok (.iload_n 1, 1) := by decide +kernel
theorem dX3_owedAmong_28 : decode cX3_owedAmong 28 = .ok (.iload 4, 2) := by decide +kernel
theorem dX3_owedAmong_30 : decode cX3_owedAmong 30 = .ok (.invokevirtual 120, 3) := by decide +kernel
theorem dX3_owedAmong_33 : decode cX3_owedAmong 33 = .ok (.ifCond .eq 10, 3) := by decide +kernel
theorem dX3_owedAmong_36 : decode cX3_owedAmong 36 = .ok (.iload_n 3, 1) := by decide +kernel
theorem dX3_owedAmong_37 : decode cX3_owedAmong 37 = .ok (.iconst 1, 1) := by decide +kernel
theorem dX3_owedAmong_38 : decode cX3_owedAmong 38 = .ok (.iload 4, 2) := by decide +kernel
theorem dX3_owedAmong_40 : decode cX3_owedAmong 40 = .ok (.ishl, 1) := by decide +kernel
theorem dX3_owedAmong_41 : decode cX3_owedAmong 41 = .ok (.ior, 1) := by decide +kernel
theorem dX3_owedAmong_42 : decode cX3_owedAmong 42 = .ok (.istore_n 3, 1) := by decide +kernel
theorem dX3_owedAmong_43 : decode cX3_owedAmong 43 = .ok (.iinc 4 1, 3) := by decide +kernel
theorem dX3_owedAmong_46 : decode cX3_owedAmong 46 = .ok (.goto (-41), 3) := by decide +kernel
theorem dX3_owedAmong_49 : decode cX3_owedAmong 49 = .ok (.iload_n 3, 1) := by decide +kernel
theorem dX3_owedAmong_50 : decode cX3_owedAmong 50 = .ok (.ireturn, 1) := by decide +kernel
theorem dX3_owedTo_0 : decode cX3_owedTo 0 = .ok (.aload_n 0, 1) := by decide +kernel
theorem dX3_owedTo_1 : decode cX3_owedTo 1 = .ok (.iload_n 1, 1) := by decide +kernel
theorem dX3_owedTo_2 : decode cX3_owedTo 2 = .ok (.iconst 1, 1) := by decide +kernel
theorem dX3_owedTo_3 : decode cX3_owedTo 3 = .ok (.aload_n 0, 1) := by decide +kernel
theorem dX3_owedTo_4 : decode cX3_owedTo 4 = .ok (.getfield 21, 3) := by decide +kernel
theorem dX3_owedTo_7 : decode cX3_owedTo 7 = .ok (.getfield 119, 3) := by decide +kernel
theorem dX3_owedTo_10 : decode cX3_owedTo 10 = .ok (.ishl, 1) := by decide +kernel
theorem dX3_owedTo_11 : decode cX3_owedTo 11 = .ok (.iconst 1, 1) := by decide +kernel
theorem dX3_owedTo_12 : decode cX3_owedTo 12 = .ok (.isub, 1) := by decide +kernel
theorem dX3_owedTo_13 : decode cX3_owedTo 13 = .ok (.invokevirtual 123, 3) := by decide +kernel
theorem dX3_owedTo_16 : decode cX3_owedTo 16 = .ok (.ireturn, 1) := by decide +kernel
theorem dX3_arrearsOf_0 : decode cX3_arrearsOf 0 = .ok (.aload_n 0, 1) := by decide +kernel
theorem dX3_arrearsOf_1 : decode cX3_arrearsOf 1 = .ok (.iload_n 1, 1) := by decide +kernel
theorem dX3_arrearsOf_2 : decode cX3_arrearsOf 2 = .ok (.iconst 1, 1) := by decide +kernel
theorem dX3_arrearsOf_3 : decode cX3_arrearsOf 3 = .ok (.aload_n 0, 1) := by decide +kernel
theorem dX3_arrearsOf_4 : decode cX3_arrearsOf 4 = .ok (.getfield 21, 3) := by decide +kernel
theorem dX3_arrearsOf_7 : decode cX3_arrearsOf 7 = .ok (.getfield 119, 3) := by decide +kernel
theorem dX3_arrearsOf_10 : decode cX3_arrearsOf 10 = .ok (.ishl, 1) := by decide +kernel
theorem dX3_arrearsOf_11 : decode cX3_arrearsOf 11 = .ok (.iconst 1, 1) := by decide +kernel
theorem dX3_arrearsOf_12 : decode cX3_arrearsOf 12 = .ok (.isub, 1) := by decide +kernel
theorem dX3_arrearsOf_13 : decode cX3_arrearsOf 13 = .ok (.aload_n 0, 1) := by decide +kernel
theorem dX3_arrearsOf_14 : decode cX3_arrearsOf 14 = .ok (.getfield 12, 3) := by decide +kernel
theorem dX3_arrearsOf_17 : decode cX3_arrearsOf 17 = .ok (.getfield 126, 3) := by decide +kernel
theorem dX3_arrearsOf_20 : decode cX3_arrearsOf 20 = .ok (.iload_n 1, 1) := by decide +kernel
theorem dX3_arrearsOf_21 : decode cX3_arrearsOf 21 = .ok (.iaload, 1) := by decide +kernel
theorem dX3_arrearsOf_22 : decode cX3_arrearsOf 22 = .ok (.iconst (-1), 1) := by decide +kernel
theorem dX3_arrearsOf_23 : decode cX3_arrearsOf 23 = .ok (.ixor, 1) := by decide +kernel
theorem dX3_arrearsOf_24 : decode cX3_arrearsOf 24 = .ok (.iand, 1) := by decide +kernel
theorem dX3_arrearsOf_25 : decode cX3_arrearsOf 25 = .ok (.invokevirtual 123, 3) := by decide +kernel
theorem dX3_arrearsOf_28 : decode cX3_arrearsOf 28 = .ok (.ireturn, 1) := by decide +kernel
theorem dX3_owedBy_0 : decode cX3_owedBy 0 = .ok (.iconst 0, 1) := by decide +kernel
theorem dX3_owedBy_1 : decode cX3_owedBy 1 = .ok (.istore_n 2, 1) := by decide +kernel
theorem dX3_owedBy_2 : decode cX3_owedBy 2 = .ok (.iconst 0, 1) := by decide +kernel
theorem dX3_owedBy_3 : decode cX3_owedBy 3 = .ok (.istore_n 3, 1) := by decide +kernel
theorem dX3_owedBy_4 : decode cX3_owedBy 4 = .ok (.iload_n 3, 1) := by decide +kernel
theorem dX3_owedBy_5 : decode cX3_owedBy 5 = .ok (.aload_n 0, 1) := by decide +kernel
theorem dX3_owedBy_6 : decode cX3_owedBy 6 = .ok (.getfield 12, 3) := by decide +kernel
theorem dX3_owedBy_9 : decode cX3_owedBy 9 = .ok (.getfield 73, 3) := by decide +kernel
theorem dX3_owedBy_12 : decode cX3_owedBy 12 = .ok (.if_icmp .ge 24, 3) := by decide +kernel
theorem dX3_owedBy_15 : decode cX3_owedBy 15 = .ok (.aload_n 0, 1) := by decide +kernel
theorem dX3_owedBy_16 : decode cX3_owedBy 16 = .ok (.iload_n 3, 1) := by decide +kernel
theorem dX3_owedBy_17 : decode cX3_owedBy 17 = .ok (.iload_n 1, 1) := by decide +kernel
theorem dX3_owedBy_18 : decode cX3_owedBy 18 = .ok (.invokevirtual 120, 3) := by decide +kernel
theorem dX3_owedBy_21 : decode cX3_owedBy 21 = .ok (.ifCond .eq 9, 3) := by decide +kernel
theorem dX3_owedBy_24 : decode cX3_owedBy 24 = .ok (.iload_n 2, 1) := by decide +kernel
theorem dX3_owedBy_25 : decode cX3_owedBy 25 = .ok (.iconst 1, 1) := by decide +kernel
theorem dX3_owedBy_26 : decode cX3_owedBy 26 = .ok (.iload_n 3, 1) := by decide +kernel
theorem dX3_owedBy_27 : decode cX3_owedBy 27 = .ok (.ishl, 1) := by decide +kernel
theorem dX3_owedBy_28 : decode cX3_owedBy 28 = .ok (.ior, 1) := by decide +kernel
theorem dX3_owedBy_29 : decode cX3_owedBy 29 = .ok (.istore_n 2, 1) := by decide +kernel
theorem dX3_owedBy_30 : decode cX3_owedBy 30 = .ok (.iinc 3 1, 3) := by decide +kernel
theorem dX3_owedBy_33 : decode cX3_owedBy 33 = .ok (.goto (-29), 3) := by decide +kernel
theorem dX3_owedBy_36 : decode cX3_owedBy 36 = .ok (.iload_n 2, 1) := by decide +kernel
theorem dX3_owedBy_37 : decode cX3_owedBy 37 = .ok (.ireturn, 1) := by decide +kernel
theorem dX3_heardOf_0 : decode cX3_heardOf 0 = .ok (.iconst 0, 1) := by decide +kernel
theorem dX3_heardOf_1 : decode cX3_heardOf 1 = .ok (.istore_n 2, 1) := by decide +kernel
theorem dX3_heardOf_2 : decode cX3_heardOf 2 = .ok (.iconst 0, 1) := by decide +kernel
theorem dX3_heardOf_3 : decode cX3_heardOf 3 = .ok (.istore_n 3, 1) := by decide +kernel
theorem dX3_heardOf_4 : decode cX3_heardOf 4 = .ok (.iload_n 3, 1) := by decide +kernel
theorem dX3_heardOf_5 : decode cX3_heardOf 5 = .ok (.aload_n 0, 1) := by decide +kernel
theorem dX3_heardOf_6 : decode cX3_heardOf 6 = .ok (.getfield 12, 3) := by decide +kernel
theorem dX3_heardOf_9 : decode cX3_heardOf 9 = .ok (.getfield 73, 3) := by decide +kernel
theorem dX3_heardOf_12 : decode cX3_heardOf 12 = .ok (.if_icmp .ge 31, 3) := by decide +kernel
theorem dX3_heardOf_15 : decode cX3_heardOf 15 = .ok (.aload_n 0, 1) := by decide +kernel
theorem dX3_heardOf_16 : decode cX3_heardOf 16 = .ok (.getfield 12, 3) := by decide +kernel
theorem dX3_heardOf_19 : decode cX3_heardOf 19 = .ok (.getfield 126, 3) := by decide +kernel
theorem dX3_heardOf_22 : decode cX3_heardOf 22 = .ok (.iload_n 3, 1) := by decide +kernel
theorem dX3_heardOf_23 : decode cX3_heardOf 23 = .ok (.iaload, 1) := by decide +kernel
theorem dX3_heardOf_24 : decode cX3_heardOf 24 = .ok (.iload_n 1, 1) := by decide +kernel
theorem dX3_heardOf_25 : decode cX3_heardOf 25 = .ok (.invokestatic 108, 3) := by decide +kernel
theorem dX3_heardOf_28 : decode cX3_heardOf 28 = .ok (.ifCond .eq 9, 3) := by decide +kernel
theorem dX3_heardOf_31 : decode cX3_heardOf 31 = .ok (.iload_n 2, 1) := by decide +kernel
theorem dX3_heardOf_32 : decode cX3_heardOf 32 = .ok (.iconst 1, 1) := by decide +kernel
theorem dX3_heardOf_33 : decode cX3_heardOf 33 = .ok (.iload_n 3, 1) := by decide +kernel
theorem dX3_heardOf_34 : decode cX3_heardOf 34 = .ok (.ishl, 1) := by decide +kernel
theorem dX3_heardOf_35 : decode cX3_heardOf 35 = .ok (.ior, 1) := by decide +kernel
theorem dX3_heardOf_36 : decode cX3_heardOf 36 = .ok (.istore_n 2, 1) := by decide +kernel
theorem dX3_heardOf_37 : decode cX3_heardOf 37 = .ok (.iinc 3 1, 3) := by decide +kernel
theorem dX3_heardOf_40 : decode cX3_heardOf 40 = .ok (.goto (-36), 3) := by decide +kernel
theorem dX3_heardOf_43 : decode cX3_heardOf 43 = .ok (.iload_n 2, 1) := by decide +kernel
theorem dX3_heardOf_44 : decode cX3_heardOf 44 = .ok (.ireturn, 1) := by decide +kernel
theorem dX3_inArrearsOf_0 : decode cX3_inArrearsOf 0 = .ok (.aload_n 0, 1) := by decide +kernel
theorem dX3_inArrearsOf_1 : decode cX3_inArrearsOf 1 = .ok (.iload_n 1, 1) := by decide +kernel
theorem dX3_inArrearsOf_2 : decode cX3_inArrearsOf 2 = .ok (.invokevirtual 129, 3) := by decide +kernel
theorem dX3_inArrearsOf_5 : decode cX3_inArrearsOf 5 = .ok (.aload_n 0, 1) := by decide +kernel
theorem dX3_inArrearsOf_6 : decode cX3_inArrearsOf 6 = .ok (.iload_n 1, 1) := by decide +kernel
theorem dX3_inArrearsOf_7 : decode cX3_inArrearsOf 7 = .ok (.invokevirtual 132, 3) := by decide +kernel
theorem dX3_inArrearsOf_10 : decode cX3_inArrearsOf 10 = .ok (.iconst (-1), 1) := by decide +kernel
theorem dX3_inArrearsOf_11 : decode cX3_inArrearsOf 11 = .ok (.ixor, 1) := by decide +kernel
theorem dX3_inArrearsOf_12 : decode cX3_inArrearsOf 12 = .ok (.iand, 1) := by decide +kernel
theorem dX3_inArrearsOf_13 : decode cX3_inArrearsOf 13 = .ok (.ireturn, 1) := by decide +kernel
theorem dX3_isLate_0 : decode cX3_isLate 0 = .ok (.aload_n 0, 1) := by decide +kernel
theorem dX3_isLate_1 : decode cX3_isLate 1 = .ok (.iload_n 1, 1) := by decide +kernel
theorem dX3_isLate_2 : decode cX3_isLate 2 = .ok (.invokevirtual 135, 3) := by decide +kernel
theorem dX3_isLate_5 : decode cX3_isLate 5 = .ok (.istore_n 2, 1) := by decide +kernel
theorem dX3_isLate_6 : decode cX3_isLate 6 = .ok (.iconst 0, 1) := by decide +kernel
theorem dX3_isLate_7 : decode cX3_isLate 7 = .ok (.istore_n 3, 1) := by decide +kernel
theorem dX3_isLate_8 : decode cX3_isLate 8 = .ok (.iload_n 3, 1) := by decide +kernel
theorem dX3_isLate_9 : decode cX3_isLate 9 = .ok (.aload_n 0, 1) := by decide +kernel
theorem dX3_isLate_10 : decode cX3_isLate 10 = .ok (.getfield 21, 3) := by decide +kernel
theorem dX3_isLate_13 : decode cX3_isLate 13 = .ok (.getfield 119, 3) := by decide +kernel
theorem dX3_isLate_16 : decode cX3_isLate 16 = .ok (.if_icmp .ge 38, 3) := by decide +kernel
theorem dX3_isLate_19 : decode cX3_isLate 19 = .ok (.iload_n 2, 1) := by decide +kernel
theorem dX3_isLate_20 : decode cX3_isLate 20 = .ok (.iload_n 3, 1) := by decide +kernel
theorem dX3_isLate_21 : decode cX3_isLate 21 = .ok (.invokestatic 108, 3) := by decide +kernel
theorem dX3_isLate_24 : decode cX3_isLate 24 = .ok (.ifCond .eq 24, 3) := by decide +kernel
theorem dX3_isLate_27 : decode cX3_isLate 27 = .ok (.aload_n 0, 1) := by decide +kernel
theorem dX3_isLate_28 : decode cX3_isLate 28 = .ok (.getfield 39, 3) := by decide +kernel
theorem dX3_isLate_31 : decode cX3_isLate 31 = .ok (.aload_n 0, 1) := by decide +kernel
theorem dX3_isLate_32 : decode cX3_isLate 32 = .ok (.getfield 21, 3) := by decide +kernel
theorem dX3_isLate_35 : decode cX3_isLate 35 = .ok (.getfield 112, 3) := by decide +kernel
theorem dX3_isLate_38 : decode cX3_isLate 38 = .ok (.iload_n 3, 1) := by decide +kernel
theorem dX3_isLate_39 : decode cX3_isLate 39 = .ok (.iaload, 1) := by decide +kernel
theorem dX3_isLate_40 : decode cX3_isLate 40 = .ok (.isub, 1) := by decide +kernel
theorem dX3_isLate_41 : decode cX3_isLate 41 = .ok (.bipush 9, 2) := by decide +kernel
theorem dX3_isLate_43 : decode cX3_isLate 43 = .ok (.if_icmp .lt 5, 3) := by decide +kernel
theorem dX3_isLate_46 : decode cX3_isLate 46 = .ok (.iconst 1, 1) := by decide +kernel
theorem dX3_isLate_47 : decode cX3_isLate 47 = .ok (.ireturn, 1) := by decide +kernel
theorem dX3_isLate_48 : decode cX3_isLate 48 = .ok (.iinc 3 1, 3) := by decide +kernel
theorem dX3_isLate_51 : decode cX3_isLate 51 = .ok (.goto (-43), 3) := by decide +kernel
theorem dX3_isLate_54 : decode cX3_isLate 54 = .ok (.iconst 0, 1) := by decide +kernel
theorem dX3_isLate_55 : decode cX3_isLate 55 = .ok (.ireturn, 1) := by decide +kernel
theorem dX3_allArrears_0 : decode cX3_allArrears 0 = .ok (.iconst 0, 1) := by decide +kernel
theorem dX3_allArrears_1 : decode cX3_allArrears 1 = .ok (.istore_n 1, 1) := by decide +kernel
theorem dX3_allArrears_2 : decode cX3_allArrears 2 = .ok (.iconst 0, 1) := by decide +kernel
theorem dX3_allArrears_3 : decode cX3_allArrears 3 = .ok (.istore_n 2, 1) := by decide +kernel
theorem dX3_allArrears_4 : decode cX3_allArrears 4 = .ok (.iload_n 2, 1) := by decide +kernel
theorem dX3_allArrears_5 : decode cX3_allArrears 5 = .ok (.aload_n 0, 1) := by decide +kernel
theorem dX3_allArrears_6 : decode cX3_allArrears 6 = .ok (.getfield 12, 3) := by decide +kernel
theorem dX3_allArrears_9 : decode cX3_allArrears 9 = .ok (.getfield 73, 3) := by decide +kernel
theorem dX3_allArrears_12 : decode cX3_allArrears 12 = .ok (.if_icmp .ge 20, 3) := by decide +kernel
theorem dX3_allArrears_15 : decode cX3_allArrears 15 = .ok (.iload_n 1, 1) := by decide +kernel
theorem dX3_allArrears_16 : decode cX3_allArrears 16 = .ok (.aload_n 0, 1) := by decide +kernel
theorem dX3_allArrears_17 : decode cX3_allArrears 17 = .ok (.iload_n 2, 1) := by decide +kernel
theorem dX3_allArrears_18 : decode cX3_allArrears 18 = .ok (.invokevirtual 135, 3) := by decide +kernel
theorem dX3_allArrears_21 : decode cX3_allArrears 21 = .ok (.invokestatic 138, 3) := by decide +kernel
theorem dX3_allArrears_24 : decode cX3_allArrears 24 = .ok (.iadd, 1) := by decide +kernel
theorem dX3_allArrears_25 : decode cX3_allArrears 25 = .ok (.istore_n 1, 1) := by decide +kernel
theorem dX3_allArrears_26 : decode cX3_allArrears 26 = .ok (.iinc 2 1, 3) := by decide +kernel
theorem dX3_allArrears_29 : decode cX3_allArrears 29 = .ok (.goto (-25), 3) := by decide +kernel
theorem dX3_allArrears_32 : decode cX3_allArrears 32 = .ok (.iload_n 1, 1) := by decide +kernel
theorem dX3_allArrears_33 : decode cX3_allArrears 33 = .ok (.ireturn, 1) := by decide +kernel
theorem dX3_paidGraves_0 : decode cX3_paidGraves 0 = .ok (.iconst 0, 1) := by decide +kernel
theorem dX3_paidGraves_1 : decode cX3_paidGraves 1 = .ok (.istore_n 1, 1) := by decide +kernel
theorem dX3_paidGraves_2 : decode cX3_paidGraves 2 = .ok (.iconst 0, 1) := by decide +kernel
theorem dX3_paidGraves_3 : decode cX3_paidGraves 3 = .ok (.istore_n 2, 1) := by decide +kernel
theorem dX3_paidGraves_4 : decode cX3_paidGraves 4 = .ok (.iload_n 2, 1) := by decide +kernel
theorem dX3_paidGraves_5 : decode cX3_paidGraves 5 = .ok (.aload_n 0, 1) := by decide +kernel
theorem dX3_paidGraves_6 : decode cX3_paidGraves 6 = .ok (.getfield 12, 3) := by decide +kernel
theorem dX3_paidGraves_9 : decode cX3_paidGraves 9 = .ok (.getfield 73, 3) := by decide +kernel
theorem dX3_paidGraves_12 : decode cX3_paidGraves 12 = .ok (.if_icmp .ge 20, 3) := by decide +kernel
theorem dX3_paidGraves_15 : decode cX3_paidGraves 15 = .ok (.aload_n 0, 1) := by decide +kernel
theorem dX3_paidGraves_16 : decode cX3_paidGraves 16 = .ok (.iload_n 2, 1) := by decide +kernel
theorem dX3_paidGraves_17 : decode cX3_paidGraves 17 = .ok (.invokevirtual 135, 3) := by decide +kernel
theorem dX3_paidGraves_20 : decode cX3_paidGraves 20 = .ok (.ifCond .ne 6, 3) := by decide +kernel
theorem dX3_paidGraves_23 : decode cX3_paidGraves 23 = .ok (.iinc 1 1, 3) := by decide +kernel
theorem dX3_paidGraves_26 : decode cX3_paidGraves 26 = .ok (.iinc 2 1, 3) := by decide +kernel
theorem dX3_paidGraves_29 : decode cX3_paidGraves 29 = .ok (.goto (-25), 3) := by decide +kernel
theorem dX3_paidGraves_32 : decode cX3_paidGraves 32 = .ok (.iload_n 1, 1) := by decide +kernel
theorem dX3_paidGraves_33 : decode cX3_paidGraves 33 = .ok (.ireturn, 1) := by decide +kernel
theorem dX3_lateGraves_0 : decode cX3_lateGraves 0 = .ok (.iconst 0, 1) := by decide +kernel
theorem dX3_lateGraves_1 : decode cX3_lateGraves 1 = .ok (.istore_n 1, 1) := by decide +kernel
theorem dX3_lateGraves_2 : decode cX3_lateGraves 2 = .ok (.iconst 0, 1) := by decide +kernel
theorem dX3_lateGraves_3 : decode cX3_lateGraves 3 = .ok (.istore_n 2, 1) := by decide +kernel
theorem dX3_lateGraves_4 : decode cX3_lateGraves 4 = .ok (.iload_n 2, 1) := by decide +kernel
theorem dX3_lateGraves_5 : decode cX3_lateGraves 5 = .ok (.aload_n 0, 1) := by decide +kernel
theorem dX3_lateGraves_6 : decode cX3_lateGraves 6 = .ok (.getfield 12, 3) := by decide +kernel
theorem dX3_lateGraves_9 : decode cX3_lateGraves 9 = .ok (.getfield 73, 3) := by decide +kernel
theorem dX3_lateGraves_12 : decode cX3_lateGraves 12 = .ok (.if_icmp .ge 20, 3) := by decide +kernel
theorem dX3_lateGraves_15 : decode cX3_lateGraves 15 = .ok (.aload_n 0, 1) := by decide +kernel
theorem dX3_lateGraves_16 : decode cX3_lateGraves 16 = .ok (.iload_n 2, 1) := by decide +kernel
theorem dX3_lateGraves_17 : decode cX3_lateGraves 17 = .ok (.invokevirtual 141, 3) := by decide +kernel
theorem dX3_lateGraves_20 : decode cX3_lateGraves 20 = .ok (.ifCond .eq 6, 3) := by decide +kernel
theorem dX3_lateGraves_23 : decode cX3_lateGraves 23 = .ok (.iinc 1 1, 3) := by decide +kernel
theorem dX3_lateGraves_26 : decode cX3_lateGraves 26 = .ok (.iinc 2 1, 3) := by decide +kernel
theorem dX3_lateGraves_29 : decode cX3_lateGraves 29 = .ok (.goto (-25), 3) := by decide +kernel
theorem dX3_lateGraves_32 : decode cX3_lateGraves 32 = .ok (.iload_n 1, 1) := by decide +kernel
theorem dX3_lateGraves_33 : decode cX3_lateGraves 33 = .ok (.ireturn, 1) := by decide +kernel
theorem dX3_firstPaidLate_0 : decode cX3_firstPaidLate 0 = .ok (.iconst 0, 1) := by decide +kernel
theorem dX3_firstPaidLate_1 : decode cX3_firstPaidLate 1 = .ok (.istore_n 2, 1) := by decide +kernel
theorem dX3_firstPaidLate_2 : decode cX3_firstPaidLate 2 = .ok (.iconst 0, 1) := by decide +kernel
theorem dX3_firstPaidLate_3 : decode cX3_firstPaidLate 3 = .ok (.istore_n 3, 1) := by decide +kernel
theorem dX3_firstPaidLate_4 : decode cX3_firstPaidLate 4 = .ok (.iload_n 3, 1) := by decide +kernel
theorem dX3_firstPaidLate_5 : decode cX3_firstPaidLate 5 = .ok (.bipush 99, 2) := by decide +kernel
theorem dX3_firstPaidLate_7 : decode cX3_firstPaidLate 7 = .ok (.if_icmp .gt 99, 3) := by decide +kernel
theorem dX3_firstPaidLate_10 : decode cX3_firstPaidLate 10 = .ok (.aload_n 0, 1) := by decide +kernel
theorem dX3_firstPaidLate_11 : decode cX3_firstPaidLate 11 = .ok (.getfield 21, 3) := by decide +kernel
theorem dX3_firstPaidLate_14 : decode cX3_firstPaidLate 14 = .ok (.iload_n 3, 1) := by decide +kernel
theorem dX3_firstPaidLate_15 : decode cX3_firstPaidLate 15 = .ok (.invokevirtual 145, 3) := by decide +kernel
theorem dX3_firstPaidLate_18 : decode cX3_firstPaidLate 18 = .ok (.istore 4, 2) := by decide +kernel
theorem dX3_firstPaidLate_20 : decode cX3_firstPaidLate 20 = .ok (.iload 4, 2) := by decide +kernel
theorem dX3_firstPaidLate_22 : decode cX3_firstPaidLate 22 = .ok (.ifCond .ne 6, 3) := by decide +kernel
theorem dX3_firstPaidLate_25 : decode cX3_firstPaidLate 25 = .ok (.goto 75, 3) := by decide +kernel
theorem dX3_firstPaidLate_28 : decode cX3_firstPaidLate 28 = .ok (.iconst 0, 1) := by decide +kernel
theorem dX3_firstPaidLate_29 : decode cX3_firstPaidLate 29 = .ok (.istore 5, 2) := by decide +kernel
theorem dX3_firstPaidLate_31 : decode cX3_firstPaidLate 31 = .ok (.iload 5, 2) := by decide +kernel
theorem dX3_firstPaidLate_33 : decode cX3_firstPaidLate 33 = .ok (.aload_n 0, 1) := by decide +kernel
theorem dX3_firstPaidLate_34 : decode cX3_firstPaidLate 34 = .ok (.getfield 12, 3) := by decide +kernel
theorem dX3_firstPaidLate_37 : decode cX3_firstPaidLate 37 = .ok (.getfield 73, 3) := by decide +kernel
theorem dX3_firstPaidLate_40 : decode cX3_firstPaidLate 40 = .ok (.if_icmp .ge 60, 3) := by decide +kernel
theorem dX3_firstPaidLate_43 : decode cX3_firstPaidLate 43 = .ok (.aload_n 0, 1) := by decide +kernel
theorem dX3_firstPaidLate_44 : decode cX3_firstPaidLate 44 = .ok (.iload 5, 2) := by decide +kernel
theorem dX3_firstPaidLate_46 : decode cX3_firstPaidLate 46 = .ok (.invokevirtual 135, 3) := by decide +kernel
theorem dX3_firstPaidLate_49 : decode cX3_firstPaidLate 49 = .ok (.iload 4, 2) := by decide +kernel
theorem dX3_firstPaidLate_51 : decode cX3_firstPaidLate 51 = .ok (.iand, 1) := by decide +kernel
theorem dX3_firstPaidLate_52 : decode cX3_firstPaidLate 52 = .ok (.invokestatic 138, 3) := by decide +kernel
theorem dX3_firstPaidLate_55 : decode cX3_firstPaidLate 55 = .ok (.istore 6, 2) := by decide +kernel
theorem dX3_firstPaidLate_57 : decode cX3_firstPaidLate 57 = .ok (.iload 6, 2) := by decide +kernel
theorem dX3_firstPaidLate_59 : decode cX3_firstPaidLate 59 = .ok (.ifCond .ne 6, 3) := by decide +kernel
theorem dX3_firstPaidLate_62 : decode cX3_firstPaidLate 62 = .ok (.goto 32, 3) := by decide +kernel
theorem dX3_firstPaidLate_65 : decode cX3_firstPaidLate 65 = .ok (.iload_n 2, 1) := by decide +kernel
theorem dX3_firstPaidLate_66 : decode cX3_firstPaidLate 66 = .ok (.iload 6, 2) := by decide +kernel
theorem dX3_firstPaidLate_68 : decode cX3_firstPaidLate 68 = .ok (.iadd, 1) := by decide +kernel
theorem dX3_firstPaidLate_69 : decode cX3_firstPaidLate 69 = .ok (.istore_n 2, 1) := by decide +kernel
theorem dX3_firstPaidLate_70 : decode cX3_firstPaidLate 70 = .ok (.iload_n 1, 1) := by decide +kernel
theorem dX3_firstPaidLate_71 : decode cX3_firstPaidLate 71 = .ok (.ifCond .le 23, 3) := by decide +kernel
theorem dX3_firstPaidLate_74 : decode cX3_firstPaidLate 74 = .ok (.aload_n 0, 1) := by decide +kernel
theorem dX3_firstPaidLate_75 : decode cX3_firstPaidLate 75 = .ok (.getfield 39, 3) := by decide +kernel
theorem dX3_firstPaidLate_78 : decode cX3_firstPaidLate 78 = .ok (.iload_n 2, 1) := by decide +kernel
theorem dX3_firstPaidLate_79 : decode cX3_firstPaidLate 79 = .ok (.iconst 1, 1) := by decide +kernel
theorem dX3_firstPaidLate_80 : decode cX3_firstPaidLate 80 = .ok (.isub, 1) := by decide +kernel
theorem dX3_firstPaidLate_81 : decode cX3_firstPaidLate 81 = .ok (.iload_n 1, 1) := by decide +kernel
theorem dX3_firstPaidLate_82 : decode cX3_firstPaidLate 82 = .ok (.idiv, 1) := by decide +kernel
theorem dX3_firstPaidLate_83 : decode cX3_firstPaidLate 83 = .ok (.iadd, 1) := by decide +kernel
theorem dX3_firstPaidLate_84 : decode cX3_firstPaidLate 84 = .ok (.iload_n 3, 1) := by decide +kernel
theorem dX3_firstPaidLate_85 : decode cX3_firstPaidLate 85 = .ok (.isub, 1) := by decide +kernel
theorem dX3_firstPaidLate_86 : decode cX3_firstPaidLate 86 = .ok (.bipush 9, 2) := by decide +kernel
theorem dX3_firstPaidLate_88 : decode cX3_firstPaidLate 88 = .ok (.if_icmp .lt 6, 3) := by decide +kernel
theorem dX3_firstPaidLate_91 : decode cX3_firstPaidLate 91 = .ok (.iload 5, 2) := by decide +kernel
theorem dX3_firstPaidLate_93 : decode cX3_firstPaidLate 93 = .ok (.ireturn, 1) := by decide +kernel
theorem dX3_firstPaidLate_94 : decode cX3_firstPaidLate 94 = .ok (.iinc 5 1, 3) := by decide +kernel
theorem dX3_firstPaidLate_97 : decode cX3_firstPaidLate 97 = .ok (.goto (-66), 3) := by decide +kernel
theorem dX3_firstPaidLate_100 : decode cX3_firstPaidLate 100 = .ok (.iinc 3 1, 3) := by decide +kernel
theorem dX3_firstPaidLate_103 : decode cX3_firstPaidLate 103 = .ok (.goto (-99), 3) := by decide +kernel
theorem dX3_firstPaidLate_106 : decode cX3_firstPaidLate 106 = .ok (.bipush (-4), 2) := by decide +kernel
theorem dX3_firstPaidLate_108 : decode cX3_firstPaidLate 108 = .ok (.ireturn, 1) := by decide +kernel
theorem dX3_wrongedOf_0 : decode cX3_wrongedOf 0 = .ok (.iconst 0, 1) := by decide +kernel
theorem dX3_wrongedOf_1 : decode cX3_wrongedOf 1 = .ok (.istore 4, 2) := by decide +kernel
theorem dX3_wrongedOf_3 : decode cX3_wrongedOf 3 = .ok (.iconst 0, 1) := by decide +kernel
theorem dX3_wrongedOf_4 : decode cX3_wrongedOf 4 = .ok (.istore 5, 2) := by decide +kernel
theorem dX3_wrongedOf_6 : decode cX3_wrongedOf 6 = .ok (.iload 5, 2) := by decide +kernel
theorem dX3_wrongedOf_8 : decode cX3_wrongedOf 8 = .ok (.aload_n 0, 1) := by decide +kernel
theorem dX3_wrongedOf_9 : decode cX3_wrongedOf 9 = .ok (.getfield 12, 3) := by decide +kernel
theorem dX3_wrongedOf_12 : decode cX3_wrongedOf 12 = .ok (.getfield 73, 3) := by decide +kernel
theorem dX3_wrongedOf_15 : decode cX3_wrongedOf 15 = .ok (.if_icmp .ge 41, 3) := by decide +kernel
theorem dX3_wrongedOf_18 : decode cX3_wrongedOf 18 = .ok (.iload_n 1, 1) := by decide +kernel
theorem dX3_wrongedOf_19 : decode cX3_wrongedOf 19 = .ok (.iload 5, 2) := by decide +kernel
theorem dX3_wrongedOf_21 : decode cX3_wrongedOf 21 = .ok (.invokestatic 108, 3) := by decide +kernel
theorem dX3_wrongedOf_24 : decode cX3_wrongedOf 24 = .ok (.ifCond .eq 26, 3) := by decide +kernel
theorem dX3_wrongedOf_27 : decode cX3_wrongedOf 27 = .ok (.aload_n 0, 1) := by decide +kernel
theorem dX3_wrongedOf_28 : decode cX3_wrongedOf 28 = .ok (.iload 5, 2) := by decide +kernel
theorem dX3_wrongedOf_30 : decode cX3_wrongedOf 30 = .ok (.iload_n 2, 1) := by decide +kernel
theorem dX3_wrongedOf_31 : decode cX3_wrongedOf 31 = .ok (.aload_n 3, 1) := by decide +kernel
theorem dX3_wrongedOf_32 : decode cX3_wrongedOf 32 = .ok (.iload 5, 2) := by decide +kernel
theorem dX3_wrongedOf_34 : decode cX3_wrongedOf 34 = .ok (.iaload, 1) := by decide +kernel
theorem dX3_wrongedOf_35 : decode cX3_wrongedOf 35 = .ok (.invokevirtual 148, 3) := by decide +kernel
theorem dX3_wrongedOf_38 : decode cX3_wrongedOf 38 = .ok (.ifCond .eq 12, 3) := by decide +kernel
theorem dX3_wrongedOf_41 : decode cX3_wrongedOf 41 = .ok (.iload 4, 2) := by decide +kernel
theorem dX3_wrongedOf_43 : decode cX3_wrongedOf 43 = .ok (.iconst 1, 1) := by decide +kernel
theorem dX3_wrongedOf_44 : decode cX3_wrongedOf 44 = .ok (.iload 5, 2) := by decide +kernel
theorem dX3_wrongedOf_46 : decode cX3_wrongedOf 46 = .ok (.ishl, 1) := by decide +kernel
theorem dX3_wrongedOf_47 : decode cX3_wrongedOf 47 = .ok (.ior, 1) := by decide +kernel
theorem dX3_wrongedOf_48 : decode cX3_wrongedOf 48 = .ok (.istore 4, 2) := by decide +kernel
theorem dX3_wrongedOf_50 : decode cX3_wrongedOf 50 = .ok (.iinc 5 1, 3) := by decide +kernel
theorem dX3_wrongedOf_53 : decode cX3_wrongedOf 53 = .ok (.goto (-47), 3) := by decide +kernel
theorem dX3_wrongedOf_56 : decode cX3_wrongedOf 56 = .ok (.iload 4, 2) := by decide +kernel
theorem dX3_wrongedOf_58 : decode cX3_wrongedOf 58 = .ok (.ireturn, 1) := by decide +kernel
theorem dX3_isWrong_0 : decode cX3_isWrong 0 = .ok (.aload_n 0, 1) := by decide +kernel
theorem dX3_isWrong_1 : decode cX3_isWrong 1 = .ok (.getfield 21, 3) := by decide +kernel
theorem dX3_isWrong_4 : decode cX3_isWrong 4 = .ok (.getfield 105, 3) := by decide +kernel
theorem dX3_isWrong_7 : decode cX3_isWrong 7 = .ok (.iload_n 2, 1) := by decide +kernel
theorem dX3_isWrong_8 : decode cX3_isWrong 8 = .ok (.iaload, 1) := by decide +kernel
theorem dX3_isWrong_9 : decode cX3_isWrong 9 = .ok (.iload_n 1, 1) := by decide +kernel
theorem dX3_isWrong_10 : decode cX3_isWrong 10 = .ok (.invokestatic 108, 3) := by decide +kernel
theorem dX3_isWrong_13 : decode cX3_isWrong 13 = .ok (.ifCond .ne 11, 3) := by decide +kernel
theorem dX3_isWrong_16 : decode cX3_isWrong 16 = .ok (.iload_n 3, 1) := by decide +kernel
theorem dX3_isWrong_17 : decode cX3_isWrong 17 = .ok (.iload_n 2, 1) := by decide +kernel
theorem dX3_isWrong_18 : decode cX3_isWrong 18 = .ok (.invokestatic 108, 3) := by decide +kernel
theorem dX3_isWrong_21 : decode cX3_isWrong 21 = .ok (.ifCond .eq 5, 3) := by decide +kernel
theorem dX3_isWrong_24 : decode cX3_isWrong 24 = .ok (.iconst 1, 1) := by decide +kernel
theorem dX3_isWrong_25 : decode cX3_isWrong 25 = .ok (.ireturn, 1) := by decide +kernel
theorem dX3_isWrong_26 : decode cX3_isWrong 26 = .ok (.aload_n 0, 1) := by decide +kernel
theorem dX3_isWrong_27 : decode cX3_isWrong 27 = .ok (.iload_n 1, 1) := by decide +kernel
theorem dX3_isWrong_28 : decode cX3_isWrong 28 = .ok (.aload_n 0, 1) := by decide +kernel
theorem dX3_isWrong_29 : decode cX3_isWrong 29 = .ok (.getfield 21, 3) := by decide +kernel
theorem dX3_isWrong_32 : decode cX3_isWrong 32 = .ok (.getfield 152, 3) := by decide +kernel
theorem dX3_isWrong_35 : decode cX3_isWrong 35 = .ok (.iload_n 2, 1) := by decide +kernel
theorem dX3_isWrong_36 : decode cX3_isWrong 36 = .ok (.iaload, 1) := by decide +kernel
theorem dX3_isWrong_37 : decode cX3_isWrong 37 = .ok (.iload_n 3, 1) := by decide +kernel
theorem dX3_isWrong_38 : decode cX3_isWrong 38 = .ok (.iconst (-1), 1) := by decide +kernel
theorem dX3_isWrong_39 : decode cX3_isWrong 39 = .ok (.ixor, 1) := by decide +kernel
theorem dX3_isWrong_40 : decode cX3_isWrong 40 = .ok (.iand, 1) := by decide +kernel
theorem dX3_isWrong_41 : decode cX3_isWrong 41 = .ok (.invokevirtual 123, 3) := by decide +kernel
theorem dX3_isWrong_44 : decode cX3_isWrong 44 = .ok (.ifCond .eq 7, 3) := by decide +kernel
theorem dX3_isWrong_47 : decode cX3_isWrong 47 = .ok (.iconst 1, 1) := by decide +kernel
theorem dX3_isWrong_48 : decode cX3_isWrong 48 = .ok (.goto 4, 3) := by decide +kernel
theorem dX3_isWrong_51 : decode cX3_isWrong 51 = .ok (.iconst 0, 1) := by decide +kernel
theorem dX3_isWrong_52 : decode cX3_isWrong 52 = .ok (.ireturn, 1) := by decide +kernel
theorem dX3_hold_0 : decode cX3_hold 0 = .ok (.aload_n 0, 1) := by decide +kernel
theorem dX3_hold_1 : decode cX3_hold 1 = .ok (.iload_n 1, 1) := by decide +kernel
theorem dX3_hold_2 : decode cX3_hold 2 = .ok (.iload_n 2, 1) := by decide +kernel
theorem dX3_hold_3 : decode cX3_hold 3 = .ok (.aload_n 0, 1) := by decide +kernel
theorem dX3_hold_4 : decode cX3_hold 4 = .ok (.getfield 33, 3) := by decide +kernel
theorem dX3_hold_7 : decode cX3_hold 7 = .ok (.invokevirtual 155, 3) := by decide +kernel
theorem dX3_hold_10 : decode cX3_hold 10 = .ok (.istore 4, 2) := by decide +kernel
theorem dX3_hold_12 : decode cX3_hold 12 = .ok (.aload_n 0, 1) := by decide +kernel
theorem dX3_hold_13 : decode cX3_hold 13 = .ok (.iload 4, 2) := by decide +kernel
theorem dX3_hold_15 : decode cX3_hold 15 = .ok (.iload_n 3, 1) := by decide +kernel
theorem dX3_hold_16 : decode cX3_hold 16 = .ok (.aload_n 0, 1) := by decide +kernel
theorem dX3_hold_17 : decode cX3_hold 17 = .ok (.getfield 12, 3) := by decide +kernel
theorem dX3_hold_20 : decode cX3_hold 20 = .ok (.getfield 126, 3) := by decide +kernel
theorem dX3_hold_23 : decode cX3_hold 23 = .ok (.invokevirtual 158, 3) := by decide +kernel
theorem dX3_hold_26 : decode cX3_hold 26 = .ok (.istore 5, 2) := by decide +kernel
theorem dX3_hold_28 : decode cX3_hold 28 = .ok (.iconst 0, 1) := by decide +kernel
theorem dX3_hold_29 : decode cX3_hold 29 = .ok (.istore 6, 2) := by decide +kernel
theorem dX3_hold_31 : decode cX3_hold 31 = .ok (.iconst 0, 1) := by decide +kernel
theorem dX3_hold_32 : decode cX3_hold 32 = .ok (.istore 7, 2) := by decide +kernel
theorem dX3_hold_34 : decode cX3_hold 34 = .ok (.iconst 0, 1) := by decide +kernel
theorem dX3_hold_35 : decode cX3_hold 35 = .ok (.istore 8, 2) := by decide +kernel
theorem dX3_hold_37 : decode cX3_hold 37 = .ok (.iload 8, 2) := by decide +kernel
theorem dX3_hold_39 : decode cX3_hold 39 = .ok (.aload_n 0, 1) := by decide +kernel
theorem dX3_hold_40 : decode cX3_hold 40 = .ok (.getfield 12, 3) := by decide +kernel
theorem dX3_hold_43 : decode cX3_hold 43 = .ok (.getfield 73, 3) := by decide +kernel
theorem dX3_hold_46 : decode cX3_hold 46 = .ok (.if_icmp .ge 128, 3) := by decide +kernel
theorem dX3_hold_49 : decode cX3_hold 49 = .ok (.iload 4, 2) := by decide +kernel
theorem dX3_hold_51 : decode cX3_hold 51 = .ok (.iload 8, 2) := by decide +kernel
theorem dX3_hold_53 : decode cX3_hold 53 = .ok (.invokestatic 108, 3) := by decide +kernel
theorem dX3_hold_56 : decode cX3_hold 56 = .ok (.ifCond .eq 64, 3) := by decide +kernel
theorem dX3_hold_59 : decode cX3_hold 59 = .ok (.aload_n 0, 1) := by decide +kernel
theorem dX3_hold_60 : decode cX3_hold 60 = .ok (.getfield 12, 3) := by decide +kernel
theorem dX3_hold_63 : decode cX3_hold 63 = .ok (.getfield 126, 3) := by decide +kernel
theorem dX3_hold_66 : decode cX3_hold 66 = .ok (.iload 8, 2) := by decide +kernel
theorem dX3_hold_68 : decode cX3_hold 68 = .ok (.iaload, 1) := by decide +kernel
theorem dX3_hold_69 : decode cX3_hold 69 = .ok (.iload_n 3, 1) := by decide +kernel
theorem dX3_hold_70 : decode cX3_hold 70 = .ok (.invokestatic 108, 3) := by decide +kernel
theorem dX3_hold_73 : decode cX3_hold 73 = .ok (.ifCond .ne 47, 3) := by decide +kernel
theorem dX3_hold_76 : decode cX3_hold 76 = .ok (.aload_n 0, 1) := by decide +kernel
theorem dX3_hold_77 : decode cX3_hold 77 = .ok (.getfield 12, 3) := by decide +kernel
theorem dX3_hold_80 : decode cX3_hold 80 = .ok (.getfield 126, 3) := by decide +kernel
theorem dX3_hold_83 : decode cX3_hold 83 = .ok (.iload 8, 2) := by decide +kernel
theorem dX3_hold_85 : decode cX3_hold 85 = .ok (.dup2, 1) := by decide +kernel
theorem dX3_hold_86 : decode cX3_hold 86 = .ok (.iaload, 1) := by decide +kernel
theorem dX3_hold_87 : decode cX3_hold 87 = .ok (.iconst 1, 1) := by decide +kernel
theorem dX3_hold_88 : decode cX3_hold 88 = .ok (.iload_n 3, 1) := by decide +kernel
theorem dX3_hold_89 : decode cX3_hold 89 = .ok (.ishl, 1) := by decide +kernel
theorem dX3_hold_90 : decode cX3_hold 90 = .ok (.ior, 1) := by decide +kernel
theorem dX3_hold_91 : decode cX3_hold 91 = .ok (.iastore, 1) := by decide +kernel
theorem dX3_hold_92 : decode cX3_hold 92 = .ok (.aload_n 0, 1) := by decide +kernel
theorem dX3_hold_93 : decode cX3_hold 93 = .ok (.getfield 12, 3) := by decide +kernel
theorem dX3_hold_96 : decode cX3_hold 96 = .ok (.getfield 162, 3) := by decide +kernel
theorem dX3_hold_99 : decode cX3_hold 99 = .ok (.iload 8, 2) := by decide +kernel
theorem dX3_hold_101 : decode cX3_hold 101 = .ok (.bipush 12, 2) := by decide +kernel
theorem dX3_hold_103 : decode cX3_hold 103 = .ok (.imul, 1) := by decide +kernel
theorem dX3_hold_104 : decode cX3_hold 104 = .ok (.iload_n 3, 1) := by decide +kernel
theorem dX3_hold_105 : decode cX3_hold 105 = .ok (.iadd, 1) := by decide +kernel
theorem dX3_hold_106 : decode cX3_hold 106 = .ok (.aload_n 0, 1) := by decide +kernel
theorem dX3_hold_107 : decode cX3_hold 107 = .ok (.getfield 45, 3) := by decide +kernel
theorem dX3_hold_110 : decode cX3_hold 110 = .ok (.iastore, 1) := by decide +kernel
theorem dX3_hold_111 : decode cX3_hold 111 = .ok (.iload 6, 2) := by decide +kernel
theorem dX3_hold_113 : decode cX3_hold 113 = .ok (.iconst 1, 1) := by decide +kernel
theorem dX3_hold_114 : decode cX3_hold 114 = .ok (.iload 8, 2) := by decide +kernel
theorem dX3_hold_116 : decode cX3_hold 116 = .ok (.ishl, 1) := by decide +kernel
theorem dX3_hold_117 : decode cX3_hold 117 = .ok (.ior, 1) := by decide +kernel
theorem dX3_hold_118 : decode cX3_hold 118 = .ok (.istore 6, 2) := by decide +kernel
theorem dX3_hold_120 : decode cX3_hold 120 = .ok (.iload 5, 2) := by decide +kernel
theorem dX3_hold_122 : decode cX3_hold 122 = .ok (.iload 8, 2) := by decide +kernel
theorem dX3_hold_124 : decode cX3_hold 124 = .ok (.invokestatic 108, 3) := by decide +kernel
theorem dX3_hold_127 : decode cX3_hold 127 = .ok (.ifCond .eq 41, 3) := by decide +kernel
theorem dX3_hold_130 : decode cX3_hold 130 = .ok (.aload_n 0, 1) := by decide +kernel
theorem dX3_hold_131 : decode cX3_hold 131 = .ok (.getfield 12, 3) := by decide +kernel
theorem dX3_hold_134 : decode cX3_hold 134 = .ok (.getfield 165, 3) := by decide +kernel
theorem dX3_hold_137 : decode cX3_hold 137 = .ok (.iload 8, 2) := by decide +kernel
theorem dX3_hold_139 : decode cX3_hold 139 = .ok (.iaload, 1) := by decide +kernel
theorem dX3_hold_140 : decode cX3_hold 140 = .ok (.bipush 99, 2) := by decide +kernel
theorem dX3_hold_142 : decode cX3_hold 142 = .ok (.if_icmp .ge 26, 3) := by decide +kernel
theorem dX3_hold_145 : decode cX3_hold 145 = .ok (.aload_n 0, 1) := by decide +kernel
theorem dX3_hold_146 : decode cX3_hold 146 = .ok (.getfield 12, 3) := by decide +kernel
theorem dX3_hold_149 : decode cX3_hold 149 = .ok (.getfield 165, 3) := by decide +kernel
theorem dX3_hold_152 : decode cX3_hold 152 = .ok (.iload 8, 2) := by decide +kernel
theorem dX3_hold_154 : decode cX3_hold 154 = .ok (.dup2, 1) := by decide +kernel
theorem dX3_hold_155 : decode cX3_hold 155 = .ok (.iaload, 1) := by decide +kernel
theorem dX3_hold_156 : decode cX3_hold 156 = .ok (.iconst 1, 1) := by decide +kernel
theorem dX3_hold_157 : decode cX3_hold 157 = .ok (.iadd, 1) := by decide +kernel
theorem dX3_hold_158 : decode cX3_hold 158 = .ok (.iastore, 1) := by decide +kernel
theorem dX3_hold_159 : decode cX3_hold 159 = .ok (.iload 7, 2) := by decide +kernel
theorem dX3_hold_161 : decode cX3_hold 161 = .ok (.iconst 1, 1) := by decide +kernel
theorem dX3_hold_162 : decode cX3_hold 162 = .ok (.iload 8, 2) := by decide +kernel
theorem dX3_hold_164 : decode cX3_hold 164 = .ok (.ishl, 1) := by decide +kernel
theorem dX3_hold_165 : decode cX3_hold 165 = .ok (.ior, 1) := by decide +kernel
theorem dX3_hold_166 : decode cX3_hold 166 = .ok (.istore 7, 2) := by decide +kernel
theorem dX3_hold_168 : decode cX3_hold 168 = .ok (.iinc 8 1, 3) := by decide +kernel
theorem dX3_hold_171 : decode cX3_hold 171 = .ok (.goto (-134), 3) := by decide +kernel
theorem dX3_hold_174 : decode cX3_hold 174 = .ok (.aload_n 0, 1) := by decide +kernel
theorem dX3_hold_175 : decode cX3_hold 175 = .ok (.dup, 1) := by decide +kernel
theorem dX3_hold_176 : decode cX3_hold 176 = .ok (.getfield 45, 3) := by decide +kernel
theorem dX3_hold_179 : decode cX3_hold 179 = .ok (.iconst 1, 1) := by decide +kernel
theorem dX3_hold_180 : decode cX3_hold 180 = .ok (.iadd, 1) := by decide +kernel
theorem dX3_hold_181 : decode cX3_hold 181 = .ok (.putfield 45, 3) := by decide +kernel
theorem dX3_hold_184 : decode cX3_hold 184 = .ok (.aload_n 0, 1) := by decide +kernel
theorem dX3_hold_185 : decode cX3_hold 185 = .ok (.iload_n 3, 1) := by decide +kernel
theorem dX3_hold_186 : decode cX3_hold 186 = .ok (.iload 6, 2) := by decide +kernel
theorem dX3_hold_188 : decode cX3_hold 188 = .ok (.iload 7, 2) := by decide +kernel
theorem dX3_hold_190 : decode cX3_hold 190 = .ok (.invokevirtual 168, 3) := by decide +kernel
theorem dX3_hold_193 : decode cX3_hold 193 = .ok (.iload 5, 2) := by decide +kernel
theorem dX3_hold_195 : decode cX3_hold 195 = .ok (.ifCond .ne 7, 3) := by decide +kernel
theorem dX3_hold_198 : decode cX3_hold 198 = .ok (.iconst 1, 1) := by decide +kernel
theorem dX3_hold_199 : decode cX3_hold 199 = .ok (.goto 4, 3) := by decide +kernel
theorem dX3_hold_202 : decode cX3_hold 202 = .ok (.iconst 0, 1) := by decide +kernel
theorem dX3_hold_203 : decode cX3_hold 203 = .ok (.ireturn, 1) := by decide +kernel
theorem dX3_keepUndo_0 : decode cX3_keepUndo 0 = .ok (.aload_n 0, 1) := by decide +kernel
theorem dX3_keepUndo_1 : decode cX3_keepUndo 1 = .ok (.getfield 48, 3) := by decide +kernel
theorem dX3_keepUndo_4 : decode cX3_keepUndo 4 = .ok (.bipush 10, 2) := by decide +kernel
theorem dX3_keepUndo_6 : decode cX3_keepUndo 6 = .ok (.if_icmp .ne 64, 3) := by decide +kernel
theorem dX3_keepUndo_9 : decode cX3_keepUndo 9 = .ok (.aload_n 0, 1) := by decide +kernel
theorem dX3_keepUndo_10 : decode cX3_keepUndo 10 = .ok (.dup, 1) := by decide +kernel
theorem dX3_keepUndo_11 : decode cX3_keepUndo 11 = .ok (.getfield 48, 3) := by decide +kernel
theorem dX3_keepUndo_14 : decode cX3_keepUndo 14 = .ok (.iconst 1, 1) := by decide +kernel
theorem dX3_keepUndo_15 : decode cX3_keepUndo 15 = .ok (.isub, 1) := by decide +kernel
theorem dX3_keepUndo_16 : decode cX3_keepUndo 16 = .ok (.putfield 48, 3) := by decide +kernel
theorem dX3_keepUndo_19 : decode cX3_keepUndo 19 = .ok (.aload_n 0, 1) := by decide +kernel
theorem dX3_keepUndo_20 : decode cX3_keepUndo 20 = .ok (.getfield 51, 3) := by decide +kernel
theorem dX3_keepUndo_23 : decode cX3_keepUndo 23 = .ok (.iconst 1, 1) := by decide +kernel
theorem dX3_keepUndo_24 : decode cX3_keepUndo 24 = .ok (.aload_n 0, 1) := by decide +kernel
theorem dX3_keepUndo_25 : decode cX3_keepUndo 25 = .ok (.getfield 51, 3) := by decide +kernel
theorem dX3_keepUndo_28 : decode cX3_keepUndo 28 = .ok (.iconst 0, 1) := by decide +kernel
theorem dX3_keepUndo_29 : decode cX3_keepUndo 29 = .ok (.aload_n 0, 1) := by decide +kernel
theorem dX3_keepUndo_30 : decode cX3_keepUndo 30 = .ok (.getfield 48, 3) := by decide +kernel
theorem dX3_keepUndo_33 : decode cX3_keepUndo 33 = .ok (.invokestatic 67, 3) := by decide +kernel
theorem dX3_keepUndo_36 : decode cX3_keepUndo 36 = .ok (.aload_n 0, 1) := by decide +kernel
theorem dX3_keepUndo_37 : decode cX3_keepUndo 37 = .ok (.getfield 54, 3) := by decide +kernel
theorem dX3_keepUndo_40 : decode cX3_keepUndo 40 = .ok (.iconst 1, 1) := by decide +kernel
theorem dX3_keepUndo_41 : decode cX3_keepUndo 41 = .ok (.aload_n 0, 1) := by decide +kernel
theorem dX3_keepUndo_42 : decode cX3_keepUndo 42 = .ok (.getfield 54, 3) := by decide +kernel
theorem dX3_keepUndo_45 : decode cX3_keepUndo 45 = .ok (.iconst 0, 1) := by decide +kernel
theorem dX3_keepUndo_46 : decode cX3_keepUndo 46 = .ok (.aload_n 0, 1) := by decide +kernel
theorem dX3_keepUndo_47 : decode cX3_keepUndo 47 = .ok (.getfield 48, 3) := by decide +kernel
theorem dX3_keepUndo_50 : decode cX3_keepUndo 50 = .ok (.invokestatic 67, 3) := by decide +kernel
theorem dX3_keepUndo_53 : decode cX3_keepUndo 53 = .ok (.aload_n 0, 1) := by decide +kernel
theorem dX3_keepUndo_54 : decode cX3_keepUndo 54 = .ok (.getfield 57, 3) := by decide +kernel
theorem dX3_keepUndo_57 : decode cX3_keepUndo 57 = .ok (.iconst 1, 1) := by decide +kernel
theorem dX3_keepUndo_58 : decode cX3_keepUndo 58 = .ok (.aload_n 0, 1) := by decide +kernel
theorem dX3_keepUndo_59 : decode cX3_keepUndo 59 = .ok (.getfield 57, 3) := by decide +kernel
theorem dX3_keepUndo_62 : decode cX3_keepUndo 62 = .ok (.iconst 0, 1) := by decide +kernel
theorem dX3_keepUndo_63 : decode cX3_keepUndo 63 = .ok (.aload_n 0, 1) := by decide +kernel
theorem dX3_keepUndo_64 : decode cX3_keepUndo 64 = .ok (.getfield 48, 3) := by decide +kernel
theorem dX3_keepUndo_67 : decode cX3_keepUndo 67 = .ok (.invokestatic 67, 3) := by decide +kernel
theorem dX3_keepUndo_70 : decode cX3_keepUndo 70 = .ok (.aload_n 0, 1) := by decide +kernel
theorem dX3_keepUndo_71 : decode cX3_keepUndo 71 = .ok (.getfield 51, 3) := by decide +kernel
theorem dX3_keepUndo_74 : decode cX3_keepUndo 74 = .ok (.aload_n 0, 1) := by decide +kernel
theorem dX3_keepUndo_75 : decode cX3_keepUndo 75 = .ok (.getfield 48, 3) := by decide +kernel
theorem dX3_keepUndo_78 : decode cX3_keepUndo 78 = .ok (.iload_n 1, 1) := by decide +kernel
theorem dX3_keepUndo_79 : decode cX3_keepUndo 79 = .ok (.iastore, 1) := by decide +kernel
theorem dX3_keepUndo_80 : decode cX3_keepUndo 80 = .ok (.aload_n 0, 1) := by decide +kernel
theorem dX3_keepUndo_81 : decode cX3_keepUndo 81 = .ok (.getfield 54, 3) := by decide +kernel
theorem dX3_keepUndo_84 : decode cX3_keepUndo 84 = .ok (.aload_n 0, 1) := by decide +kernel
theorem dX3_keepUndo_85 : decode cX3_keepUndo 85 = .ok (.getfield 48, 3) := by decide +kernel
theorem dX3_keepUndo_88 : decode cX3_keepUndo 88 = .ok (.iload_n 2, 1) := by decide +kernel
theorem dX3_keepUndo_89 : decode cX3_keepUndo 89 = .ok (.iastore, 1) := by decide +kernel
theorem dX3_keepUndo_90 : decode cX3_keepUndo 90 = .ok (.aload_n 0, 1) := by decide +kernel
theorem dX3_keepUndo_91 : decode cX3_keepUndo 91 = .ok (.getfield 57, 3) := by decide +kernel
theorem dX3_keepUndo_94 : decode cX3_keepUndo 94 = .ok (.aload_n 0, 1) := by decide +kernel
theorem dX3_keepUndo_95 : decode cX3_keepUndo 95 = .ok (.getfield 48, 3) := by decide +kernel
theorem dX3_keepUndo_98 : decode cX3_keepUndo 98 = .ok (.iload_n 3, 1) := by decide +kernel
theorem dX3_keepUndo_99 : decode cX3_keepUndo 99 = .ok (.iastore, 1) := by decide +kernel
theorem dX3_keepUndo_100 : decode cX3_keepUndo 100 = .ok (.aload_n 0, 1) := by decide +kernel
theorem dX3_keepUndo_101 : decode cX3_keepUndo 101 = .ok (.dup, 1) := by decide +kernel
theorem dX3_keepUndo_102 : decode cX3_keepUndo 102 = .ok (.getfield 48, 3) := by decide +kernel
theorem dX3_keepUndo_105 : decode cX3_keepUndo 105 = .ok (.iconst 1, 1) := by decide +kernel
theorem dX3_keepUndo_106 : decode cX3_keepUndo 106 = .ok (.iadd, 1) := by decide +kernel
theorem dX3_keepUndo_107 : decode cX3_keepUndo 107 = .ok (.putfield 48, 3) := by decide +kernel
theorem dX3_keepUndo_110 : decode cX3_keepUndo 110 = .ok (.return_, 1) := by decide +kernel
theorem dX3_unhold_0 : decode cX3_unhold 0 = .ok (.aload_n 0, 1) := by decide +kernel
theorem dX3_unhold_1 : decode cX3_unhold 1 = .ok (.getfield 48, 3) := by decide +kernel
theorem dX3_unhold_4 : decode cX3_unhold 4 = .ok (.ifCond .gt 4, 3) := by decide +kernel
theorem dX3_unhold_7 : decode cX3_unhold 7 = .ok (.return_, 1) := by decide +kernel
theorem dX3_unhold_8 : decode cX3_unhold 8 = .ok (.aload_n 0, 1) := by decide +kernel
theorem dX3_unhold_9 : decode cX3_unhold 9 = .ok (.dup, 1) := by decide +kernel
theorem dX3_unhold_10 : decode cX3_unhold 10 = .ok (.getfield 48, 3) := by decide +kernel
theorem dX3_unhold_13 : decode cX3_unhold 13 = .ok (.iconst 1, 1) := by decide +kernel
theorem dX3_unhold_14 : decode cX3_unhold 14 = .ok (.isub, 1) := by decide +kernel
theorem dX3_unhold_15 : decode cX3_unhold 15 = .ok (.putfield 48, 3) := by decide +kernel
theorem dX3_unhold_18 : decode cX3_unhold 18 = .ok (.aload_n 0, 1) := by decide +kernel
theorem dX3_unhold_19 : decode cX3_unhold 19 = .ok (.dup, 1) := by decide +kernel
theorem dX3_unhold_20 : decode cX3_unhold 20 = .ok (.getfield 45, 3) := by decide +kernel
theorem dX3_unhold_23 : decode cX3_unhold 23 = .ok (.iconst 1, 1) := by decide +kernel
theorem dX3_unhold_24 : decode cX3_unhold 24 = .ok (.isub, 1) := by decide +kernel
theorem dX3_unhold_25 : decode cX3_unhold 25 = .ok (.putfield 45, 3) := by decide +kernel
theorem dX3_unhold_28 : decode cX3_unhold 28 = .ok (.iconst 0, 1) := by decide +kernel
theorem dX3_unhold_29 : decode cX3_unhold 29 = .ok (.istore_n 1, 1) := by decide +kernel
theorem dX3_unhold_30 : decode cX3_unhold 30 = .ok (.iload_n 1, 1) := by decide +kernel
theorem dX3_unhold_31 : decode cX3_unhold 31 = .ok (.aload_n 0, 1) := by decide +kernel
theorem dX3_unhold_32 : decode cX3_unhold 32 = .ok (.getfield 12, 3) := by decide +kernel
theorem dX3_unhold_35 : decode cX3_unhold 35 = .ok (.getfield 73, 3) := by decide +kernel
theorem dX3_unhold_38 : decode cX3_unhold 38 = .ok (.if_icmp .ge 79, 3) := by decide +kernel
theorem dX3_unhold_41 : decode cX3_unhold 41 = .ok (.aload_n 0, 1) := by decide +kernel
theorem dX3_unhold_42 : decode cX3_unhold 42 = .ok (.getfield 54, 3) := by decide +kernel
theorem dX3_unhold_45 : decode cX3_unhold 45 = .ok (.aload_n 0, 1) := by decide +kernel
theorem dX3_unhold_46 : decode cX3_unhold 46 = .ok (.getfield 48, 3) := by decide +kernel
theorem dX3_unhold_49 : decode cX3_unhold 49 = .ok (.iaload, 1) := by decide +kernel
theorem dX3_unhold_50 : decode cX3_unhold 50 = .ok (.iload_n 1, 1) := by decide +kernel
theorem dX3_unhold_51 : decode cX3_unhold 51 = .ok (.invokestatic 108, 3) := by decide +kernel
theorem dX3_unhold_54 : decode cX3_unhold 54 = .ok (.ifCond .eq 28, 3) := by decide +kernel
theorem dX3_unhold_57 : decode cX3_unhold 57 = .ok (.aload_n 0, 1) := by decide +kernel
theorem dX3_unhold_58 : decode cX3_unhold 58 = .ok (.getfield 12, 3) := by decide +kernel
theorem dX3_unhold_61 : decode cX3_unhold 61 = .ok (.getfield 126, 3) := by decide +kernel
theorem dX3_unhold_64 : decode cX3_unhold 64 = .ok (.iload_n 1, 1) := by decide +kernel
theorem dX3_unhold_65 : decode cX3_unhold 65 = .ok (.dup2, 1) := by decide +kernel
theorem dX3_unhold_66 : decode cX3_unhold 66 = .ok (.iaload, 1) := by decide +kernel
theorem dX3_unhold_67 : decode cX3_unhold 67 = .ok (.iconst 1, 1) := by decide +kernel
theorem dX3_unhold_68 : decode cX3_unhold 68 = .ok (.aload_n 0, 1) := by decide +kernel
theorem dX3_unhold_69 : decode cX3_unhold 69 = .ok (.getfield 51, 3) := by decide +kernel
theorem dX3_unhold_72 : decode cX3_unhold 72 = .ok (.aload_n 0, 1) := by decide +kernel
theorem dX3_unhold_73 : decode cX3_unhold 73 = .ok (.getfield 48, 3) := by decide +kernel
theorem dX3_unhold_76 : decode cX3_unhold 76 = .ok (.iaload, 1) := by decide +kernel
theorem dX3_unhold_77 : decode cX3_unhold 77 = .ok (.ishl, 1) := by decide +kernel
theorem dX3_unhold_78 : decode cX3_unhold 78 = .ok (.iconst (-1), 1) := by decide +kernel
theorem dX3_unhold_79 : decode cX3_unhold 79 = .ok (.ixor, 1) := by decide +kernel
theorem dX3_unhold_80 : decode cX3_unhold 80 = .ok (.iand, 1) := by decide +kernel
theorem dX3_unhold_81 : decode cX3_unhold 81 = .ok (.iastore, 1) := by decide +kernel
theorem dX3_unhold_82 : decode cX3_unhold 82 = .ok (.aload_n 0, 1) := by decide +kernel
theorem dX3_unhold_83 : decode cX3_unhold 83 = .ok (.getfield 57, 3) := by decide +kernel
theorem dX3_unhold_86 : decode cX3_unhold 86 = .ok (.aload_n 0, 1) := by decide +kernel
theorem dX3_unhold_87 : decode cX3_unhold 87 = .ok (.getfield 48, 3) := by decide +kernel
theorem dX3_unhold_90 : decode cX3_unhold 90 = .ok (.iaload, 1) := by decide +kernel
theorem dX3_unhold_91 : decode cX3_unhold 91 = .ok (.iload_n 1, 1) := by decide +kernel
theorem dX3_unhold_92 : decode cX3_unhold 92 = .ok (.invokestatic 108, 3) := by decide +kernel
theorem dX3_unhold_95 : decode cX3_unhold 95 = .ok (.ifCond .eq 16, 3) := by decide +kernel
theorem dX3_unhold_98 : decode cX3_unhold 98 = .ok (.aload_n 0, 1) := by decide +kernel
theorem dX3_unhold_99 : decode cX3_unhold 99 = .ok (.getfield 12, 3) := by decide +kernel
theorem dX3_unhold_102 : decode cX3_unhold 102 = .ok (.getfield 165, 3) := by decide +kernel
theorem dX3_unhold_105 : decode cX3_unhold 105 = .ok (.iload_n 1, 1) := by decide +kernel
theorem dX3_unhold_106 : decode cX3_unhold 106 = .ok (.dup2, 1) := by decide +kernel
theorem dX3_unhold_107 : decode cX3_unhold 107 = .ok (.iaload, 1) := by decide +kernel
theorem dX3_unhold_108 : decode cX3_unhold 108 = .ok (.iconst 1, 1) := by decide +kernel
theorem dX3_unhold_109 : decode cX3_unhold 109 = .ok (.isub, 1) := by decide +kernel
theorem dX3_unhold_110 : decode cX3_unhold 110 = .ok (.iastore, 1) := by decide +kernel
theorem dX3_unhold_111 : decode cX3_unhold 111 = .ok (.iinc 1 1, 3) := by decide +kernel
theorem dX3_unhold_114 : decode cX3_unhold 114 = .ok (.goto (-84), 3) := by decide +kernel
theorem dX3_unhold_117 : decode cX3_unhold 117 = .ok (.return_, 1) := by decide +kernel
theorem dX3_drawn_0 : decode cX3_drawn 0 = .ok (.aload_n 0, 1) := by decide +kernel
theorem dX3_drawn_1 : decode cX3_drawn 1 = .ok (.aload_n 0, 1) := by decide +kernel
theorem dX3_drawn_2 : decode cX3_drawn 2 = .ok (.getfield 42, 3) := by decide +kernel
theorem dX3_drawn_5 : decode cX3_drawn 5 = .ok (.ldc 172, 2) := by decide +kernel
theorem dX3_drawn_7 : decode cX3_drawn 7 = .ok (.imul, 1) := by decide +kernel
theorem dX3_drawn_8 : decode cX3_drawn 8 = .ok (.sipush 12345, 3) := by decide +kernel
theorem dX3_drawn_11 : decode cX3_drawn 11 = .ok (.iadd, 1) := by decide +kernel
theorem dX3_drawn_12 : decode cX3_drawn 12 = .ok (.ldc 173, 2) := by decide +kernel
theorem dX3_drawn_14 : decode cX3_drawn 14 = .ok (.iand, 1) := by decide +kernel
theorem dX3_drawn_15 : decode cX3_drawn 15 = .ok (.putfield 42, 3) := by decide +kernel
theorem dX3_drawn_18 : decode cX3_drawn 18 = .ok (.iload_n 1, 1) := by decide +kernel
theorem dX3_drawn_19 : decode cX3_drawn 19 = .ok (.ifCond .le 15, 3) := by decide +kernel
theorem dX3_drawn_22 : decode cX3_drawn 22 = .ok (.aload_n 0, 1) := by decide +kernel
theorem dX3_drawn_23 : decode cX3_drawn 23 = .ok (.getfield 42, 3) := by decide +kernel
theorem dX3_drawn_26 : decode cX3_drawn 26 = .ok (.bipush 16, 2) := by decide +kernel
theorem dX3_drawn_28 : decode cX3_drawn 28 = .ok (.ishr, 1) := by decide +kernel
theorem dX3_drawn_29 : decode cX3_drawn 29 = .ok (.iload_n 1, 1) := by decide +kernel
theorem dX3_drawn_30 : decode cX3_drawn 30 = .ok (.irem, 1) := by decide +kernel
theorem dX3_drawn_31 : decode cX3_drawn 31 = .ok (.goto 4, 3) := by decide +kernel
theorem dX3_drawn_34 : decode cX3_drawn 34 = .ok (.iconst 0, 1) := by decide +kernel
theorem dX3_drawn_35 : decode cX3_drawn 35 = .ok (.ireturn, 1) := by decide +kernel
theorem dX3_heardInWrongOrder_0 : decode cX3_heardInWrongOrder 0 = .ok (.aload_n 0, 1) := by decide +kernel
theorem dX3_heardInWrongOrder_1 : decode cX3_heardInWrongOrder 1 = .ok (.getfield 12, 3) := by decide +kernel
theorem dX3_heardInWrongOrder_4 : decode cX3_heardInWrongOrder 4 = .ok (.getfield 126, 3) := by decide +kernel
theorem dX3_heardInWrongOrder_7 : decode cX3_heardInWrongOrder 7 = .ok (.iload_n 1, 1) := by decide +kernel
theorem dX3_heardInWrongOrder_8 : decode cX3_heardInWrongOrder 8 = .ok (.iaload, 1) := by decide +kernel
theorem dX3_heardInWrongOrder_9 : decode cX3_heardInWrongOrder 9 = .ok (.istore 4, 2) := by decide +kernel
theorem dX3_heardInWrongOrder_11 : decode cX3_heardInWrongOrder 11 = .ok (.aload_n 0, 1) := by decide +kernel
theorem dX3_heardInWrongOrder_12 : decode cX3_heardInWrongOrder 12 = .ok (.getfield 21, 3) := by decide +kernel
theorem dX3_heardInWrongOrder_15 : decode cX3_heardInWrongOrder 15 = .ok (.getfield 152, 3) := by decide +kernel
theorem dX3_heardInWrongOrder_18 : decode cX3_heardInWrongOrder 18 = .ok (.iload_n 3, 1) := by decide +kernel
theorem dX3_heardInWrongOrder_19 : decode cX3_heardInWrongOrder 19 = .ok (.iaload, 1) := by decide +kernel
theorem dX3_heardInWrongOrder_20 : decode cX3_heardInWrongOrder 20 = .ok (.iload_n 2, 1) := by decide +kernel
theorem dX3_heardInWrongOrder_21 : decode cX3_heardInWrongOrder 21 = .ok (.invokestatic 108, 3) := by decide +kernel
theorem dX3_heardInWrongOrder_24 : decode cX3_heardInWrongOrder 24 = .ok (.ifCond .eq 21, 3) := by decide +kernel
theorem dX3_heardInWrongOrder_27 : decode cX3_heardInWrongOrder 27 = .ok (.iload 4, 2) := by decide +kernel
theorem dX3_heardInWrongOrder_29 : decode cX3_heardInWrongOrder 29 = .ok (.iload_n 2, 1) := by decide +kernel
theorem dX3_heardInWrongOrder_30 : decode cX3_heardInWrongOrder 30 = .ok (.invokestatic 108, 3) := by decide +kernel
theorem dX3_heardInWrongOrder_33 : decode cX3_heardInWrongOrder 33 = .ok (.ifCond .eq 12, 3) := by decide +kernel
theorem dX3_heardInWrongOrder_36 : decode cX3_heardInWrongOrder 36 = .ok (.iload 4, 2) := by decide +kernel
theorem dX3_heardInWrongOrder_38 : decode cX3_heardInWrongOrder 38 = .ok (.iload_n 3, 1) := by decide +kernel
theorem dX3_heardInWrongOrder_39 : decode cX3_heardInWrongOrder 39 = .ok (.invokestatic 108, 3) := by decide +kernel
theorem dX3_heardInWrongOrder_42 : decode cX3_heardInWrongOrder 42 = .ok (.ifCond .ne 5, 3) := by decide +kernel
theorem dX3_heardInWrongOrder_45 : decode cX3_heardInWrongOrder 45 = .ok (.iconst 0, 1) := by decide +kernel
theorem dX3_heardInWrongOrder_46 : decode cX3_heardInWrongOrder 46 = .ok (.ireturn, 1) := by decide +kernel
theorem dX3_heardInWrongOrder_47 : decode cX3_heardInWrongOrder 47 = .ok (.aload_n 0, 1) := by decide +kernel
theorem dX3_heardInWrongOrder_48 : decode cX3_heardInWrongOrder 48 = .ok (.getfield 12, 3) := by decide +kernel
theorem dX3_heardInWrongOrder_51 : decode cX3_heardInWrongOrder 51 = .ok (.getfield 162, 3) := by decide +kernel
theorem dX3_heardInWrongOrder_54 : decode cX3_heardInWrongOrder 54 = .ok (.iload_n 1, 1) := by decide +kernel
theorem dX3_heardInWrongOrder_55 : decode cX3_heardInWrongOrder 55 = .ok (.bipush 12, 2) := by decide +kernel
theorem dX3_heardInWrongOrder_57 : decode cX3_heardInWrongOrder 57 = .ok (.imul, 1) := by decide +kernel
theorem dX3_heardInWrongOrder_58 : decode cX3_heardInWrongOrder 58 = .ok (.iload_n 3, 1) := by decide +kernel
theorem dX3_heardInWrongOrder_59 : decode cX3_heardInWrongOrder 59 = .ok (.iadd, 1) := by decide +kernel
theorem dX3_heardInWrongOrder_60 : decode cX3_heardInWrongOrder 60 = .ok (.iaload, 1) := by decide +kernel
theorem dX3_heardInWrongOrder_61 : decode cX3_heardInWrongOrder 61 = .ok (.aload_n 0, 1) := by decide +kernel
theorem dX3_heardInWrongOrder_62 : decode cX3_heardInWrongOrder 62 = .ok (.getfield 12, 3) := by decide +kernel
theorem dX3_heardInWrongOrder_65 : decode cX3_heardInWrongOrder 65 = .ok (.getfield 162, 3) := by decide +kernel
theorem dX3_heardInWrongOrder_68 : decode cX3_heardInWrongOrder 68 = .ok (.iload_n 1, 1) := by decide +kernel
theorem dX3_heardInWrongOrder_69 : decode cX3_heardInWrongOrder 69 = .ok (.bipush 12, 2) := by decide +kernel
theorem dX3_heardInWrongOrder_71 : decode cX3_heardInWrongOrder 71 = .ok (.imul, 1) := by decide +kernel
theorem dX3_heardInWrongOrder_72 : decode cX3_heardInWrongOrder 72 = .ok (.iload_n 2, 1) := by decide +kernel
theorem dX3_heardInWrongOrder_73 : decode cX3_heardInWrongOrder 73 = .ok (.iadd, 1) := by decide +kernel
theorem dX3_heardInWrongOrder_74 : decode cX3_heardInWrongOrder 74 = .ok (.iaload, 1) := by decide +kernel
theorem dX3_heardInWrongOrder_75 : decode cX3_heardInWrongOrder 75 = .ok (.if_icmp .ge 7, 3) := by decide +kernel
theorem dX3_heardInWrongOrder_78 : decode cX3_heardInWrongOrder 78 = .ok (.iconst 1, 1) := by decide +kernel
theorem dX3_heardInWrongOrder_79 : decode cX3_heardInWrongOrder 79 = .ok (.goto 4, 3) := by decide +kernel
theorem dX3_heardInWrongOrder_82 : decode cX3_heardInWrongOrder 82 = .ok (.iconst 0, 1) := by decide +kernel
theorem dX3_heardInWrongOrder_83 : decode cX3_heardInWrongOrder 83 = .ok (.ireturn, 1) := by decide +kernel
theorem dX3_allWeights_0 : decode cX3_allWeights 0 = .ok (.iconst 0, 1) := by decide +kernel
theorem dX3_allWeights_1 : decode cX3_allWeights 1 = .ok (.istore_n 1, 1) := by decide +kernel
theorem dX3_allWeights_2 : decode cX3_allWeights 2 = .ok (.iconst 0, 1) := by decide +kernel
theorem dX3_allWeights_3 : decode cX3_allWeights 3 = .ok (.istore_n 2, 1) := by decide +kernel
theorem dX3_allWeights_4 : decode cX3_allWeights 4 = .ok (.iload_n 2, 1) := by decide +kernel
theorem dX3_allWeights_5 : decode cX3_allWeights 5 = .ok (.iconst 5, 1) := by decide +kernel
theorem dX3_allWeights_6 : decode cX3_allWeights 6 = .ok (.if_icmp .ge 18, 3) := by decide +kernel
theorem dX3_allWeights_9 : decode cX3_allWeights 9 = .ok (.iload_n 1, 1) := by decide +kernel
theorem dX3_allWeights_10 : decode cX3_allWeights 10 = .ok (.aload_n 0, 1) := by decide +kernel
theorem dX3_allWeights_11 : decode cX3_allWeights 11 = .ok (.getfield 36, 3) := by decide +kernel
theorem dX3_allWeights_14 : decode cX3_allWeights 14 = .ok (.iload_n 2, 1) := by decide +kernel
theorem dX3_allWeights_15 : decode cX3_allWeights 15 = .ok (.iaload, 1) := by decide +kernel
theorem dX3_allWeights_16 : decode cX3_allWeights 16 = .ok (.iadd, 1) := by decide +kernel
theorem dX3_allWeights_17 : decode cX3_allWeights 17 = .ok (.istore_n 1, 1) := by decide +kernel
theorem dX3_allWeights_18 : decode cX3_allWeights 18 = .ok (.iinc 2 1, 3) := by decide +kernel
theorem dX3_allWeights_21 : decode cX3_allWeights 21 = .ok (.goto (-17), 3) := by decide +kernel
theorem dX3_allWeights_24 : decode cX3_allWeights 24 = .ok (.iload_n 1, 1) := by decide +kernel
theorem dX3_allWeights_25 : decode cX3_allWeights 25 = .ok (.ireturn, 1) := by decide +kernel
theorem dX3_weightsOfHearing_0 : decode cX3_weightsOfHearing 0 = .ok (.iconst 0, 1) := by decide +kernel
theorem dX3_weightsOfHearing_1 : decode cX3_weightsOfHearing 1 = .ok (.istore 4, 2) := by decide +kernel
theorem dX3_weightsOfHearing_3 : decode cX3_weightsOfHearing 3 = .ok (.iconst 0, 1) := by decide +kernel
theorem dX3_weightsOfHearing_4 : decode cX3_weightsOfHearing 4 = .ok (.istore 5, 2) := by decide +kernel
theorem dX3_weightsOfHearing_6 : decode cX3_weightsOfHearing 6 = .ok (.iload 5, 2) := by decide +kernel
theorem dX3_weightsOfHearing_8 : decode cX3_weightsOfHearing 8 = .ok (.iconst 5, 1) := by decide +kernel
theorem dX3_weightsOfHearing_9 : decode cX3_weightsOfHearing 9 = .ok (.if_icmp .ge 36, 3) := by decide +kernel
theorem dX3_weightsOfHearing_12 : decode cX3_weightsOfHearing 12 = .ok (.iload_n 3, 1) := by decide +kernel
theorem dX3_weightsOfHearing_13 : decode cX3_weightsOfHearing 13 = .ok (.aload_n 0, 1) := by decide +kernel
theorem dX3_weightsOfHearing_14 : decode cX3_weightsOfHearing 14 = .ok (.iload_n 1, 1) := by decide +kernel
theorem dX3_weightsOfHearing_15 : decode cX3_weightsOfHearing 15 = .ok (.iload_n 2, 1) := by decide +kernel
theorem dX3_weightsOfHearing_16 : decode cX3_weightsOfHearing 16 = .ok (.iload 5, 2) := by decide +kernel
theorem dX3_weightsOfHearing_18 : decode cX3_weightsOfHearing 18 = .ok (.invokevirtual 155, 3) := by decide +kernel
theorem dX3_weightsOfHearing_21 : decode cX3_weightsOfHearing 21 = .ok (.iconst (-1), 1) := by decide +kernel
theorem dX3_weightsOfHearing_22 : decode cX3_weightsOfHearing 22 = .ok (.ixor, 1) := by decide +kernel
theorem dX3_weightsOfHearing_23 : decode cX3_weightsOfHearing 23 = .ok (.iand, 1) := by decide +kernel
theorem dX3_weightsOfHearing_24 : decode cX3_weightsOfHearing 24 = .ok (.ifCond .ne 15, 3) := by decide +kernel
theorem dX3_weightsOfHearing_27 : decode cX3_weightsOfHearing 27 = .ok (.iload 4, 2) := by decide +kernel
theorem dX3_weightsOfHearing_29 : decode cX3_weightsOfHearing 29 = .ok (.aload_n 0, 1) := by decide +kernel
theorem dX3_weightsOfHearing_30 : decode cX3_weightsOfHearing 30 = .ok (.getfield 36, 3) := by decide +kernel
theorem dX3_weightsOfHearing_33 : decode cX3_weightsOfHearing 33 = .ok (.iload 5, 2) := by decide +kernel
theorem dX3_weightsOfHearing_35 : decode cX3_weightsOfHearing 35 = .ok (.iaload, 1) := by decide +kernel
theorem dX3_weightsOfHearing_36 : decode cX3_weightsOfHearing 36 = .ok (.iadd, 1) := by decide +kernel
theorem dX3_weightsOfHearing_37 : decode cX3_weightsOfHearing 37 = .ok (.istore 4, 2) := by decide +kernel
theorem dX3_weightsOfHearing_39 : decode cX3_weightsOfHearing 39 = .ok (.iinc 5 1, 3) := by decide +kernel
theorem dX3_weightsOfHearing_42 : decode cX3_weightsOfHearing 42 = .ok (.goto (-36), 3) := by decide +kernel
theorem dX3_weightsOfHearing_45 : decode cX3_weightsOfHearing 45 = .ok (.iload 4, 2) := by decide +kernel
theorem dX3_weightsOfHearing_47 : decode cX3_weightsOfHearing 47 = .ok (.ireturn, 1) := by decide +kernel
theorem dX4_init_0 : decode cX4_init 0 = .ok (.aload_n 0, 1) := by decide +kernel
theorem dX4_init_1 : decode cX4_init 1 = .ok (.invokespecial 3, 3) := by decide +kernel
theorem dX4_init_4 : decode cX4_init 4 = .ok (.aload_n 0, 1) := by decide +kernel
theorem dX4_init_5 : decode cX4_init 5 = .ok (.iconst 0, 1) := by decide +kernel
theorem dX4_init_6 : decode cX4_init 6 = .ok (.putfield 9, 3) := by decide +kernel
theorem dX4_init_9 : decode cX4_init 9 = .ok (.aload_n 0, 1) := by decide +kernel
theorem dX4_init_10 : decode cX4_init 10 = .ok (.iconst 0, 1) := by decide +kernel
theorem dX4_init_11 : decode cX4_init 11 = .ok (.putfield 15, 3) := by decide +kernel
theorem dX4_init_14 : decode cX4_init 14 = .ok (.aload_n 0, 1) := by decide +kernel
theorem dX4_init_15 : decode cX4_init 15 = .ok (.iconst 0, 1) := by decide +kernel
theorem dX4_init_16 : decode cX4_init 16 = .ok (.putfield 19, 3) := by decide +kernel
theorem dX4_init_19 : decode cX4_init 19 = .ok (.aload_n 0, 1) := by decide +kernel
theorem dX4_init_20 : decode cX4_init 20 = .ok (.bipush 36, 2) := by decide +kernel
theorem dX4_init_22 : decode cX4_init 22 = .ok (.newarray .long, 2) := by decide +kernel
theorem dX4_init_24 : decode cX4_init 24 = .ok (.putfield 22, 3) := by decide +kernel
theorem dX4_init_27 : decode cX4_init 27 = .ok (.return_, 1) := by decide +kernel
theorem dX4_renew_0 : decode cX4_renew 0 = .ok (.aload_n 0, 1) := by decide +kernel
theorem dX4_renew_1 : decode cX4_renew 1 = .ok (.iconst 1, 1) := by decide +kernel
theorem dX4_renew_2 : decode cX4_renew 2 = .ok (.putfield 9, 3) := by decide +kernel
theorem dX4_renew_5 : decode cX4_renew 5 = .ok (.aload_n 0, 1) := by decide +kernel
theorem dX4_renew_6 : decode cX4_renew 6 = .ok (.iload_n 1, 1) := by decide +kernel
theorem dX4_renew_7 : decode cX4_renew 7 = .ok (.putfield 15, 3) := by decide +kernel
theorem dX4_renew_10 : decode cX4_renew 10 = .ok (.aload_n 0, 1) := by decide +kernel
theorem dX4_renew_11 : decode cX4_renew 11 = .ok (.iload_n 2, 1) := by decide +kernel
theorem dX4_renew_12 : decode cX4_renew 12 = .ok (.putfield 19, 3) := by decide +kernel
theorem dX4_renew_15 : decode cX4_renew 15 = .ok (.aload_n 0, 1) := by decide +kernel
theorem dX4_renew_16 : decode cX4_renew 16 = .ok (.getfield 22, 3) := by decide +kernel
theorem dX4_renew_19 : decode cX4_renew 19 = .ok (.lconst 0, 1) := by decide +kernel
theorem dX4_renew_20 : decode cX4_renew 20 = .ok (.invokestatic 26, 3) := by decide +kernel
theorem dX4_renew_23 : decode cX4_renew 23 = .ok (.return_, 1) := by decide +kernel
theorem dX4_reaches_0 : decode cX4_reaches 0 = .ok (.iload_n 1, 1) := by decide +kernel
theorem dX4_reaches_1 : decode cX4_reaches 1 = .ok (.ifCond .lt 21, 3) := by decide +kernel
theorem dX4_reaches_4 : decode cX4_reaches 4 = .ok (.iload_n 2, 1) := by decide +kernel
theorem dX4_reaches_5 : decode cX4_reaches 5 = .ok (.ifCond .lt 17, 3) := by decide +kernel
theorem dX4_reaches_8 : decode cX4_reaches 8 = .ok (.iload_n 1, 1) := by decide +kernel
theorem dX4_reaches_9 : decode cX4_reaches 9 = .ok (.aload_n 0, 1) := by decide +kernel
theorem dX4_reaches_10 : decode cX4_reaches 10 = .ok (.getfield 19, 3) := by decide +kernel
theorem dX4_reaches_13 : decode cX4_reaches 13 = .ok (.iload_n 2, 1) := by decide +kernel
theorem dX4_reaches_14 : decode cX4_reaches 14 = .ok (.isub, 1) := by decide +kernel
theorem dX4_reaches_15 : decode cX4_reaches 15 = .ok (.if_icmp .gt 7, 3) := by decide +kernel
theorem dX4_reaches_18 : decode cX4_reaches 18 = .ok (.iconst 1, 1) := by decide +kernel
theorem dX4_reaches_19 : decode cX4_reaches 19 = .ok (.goto 4, 3) := by decide +kernel
theorem dX4_reaches_22 : decode cX4_reaches 22 = .ok (.iconst 0, 1) := by decide +kernel
theorem dX4_reaches_23 : decode cX4_reaches 23 = .ok (.ireturn, 1) := by decide +kernel
theorem dX4_put_0 : decode cX4_put 0 = .ok (.iload_n 1, 1) := by decide +kernel
theorem dX4_put_1 : decode cX4_put 1 = .ok (.ifCond .lt 11, 3) := by decide +kernel
theorem dX4_put_4 : decode cX4_put 4 = .ok (.iload_n 1, 1) := by decide +kernel
theorem dX4_put_5 : decode cX4_put 5 = .ok (.aload_n 0, 1) := by decide +kernel
theorem dX4_put_6 : decode cX4_put 6 = .ok (.getfield 19, 3) := by decide +kernel
theorem dX4_put_9 : decode cX4_put 9 = .ok (.if_icmp .lt 4, 3) := by decide +kernel
theorem dX4_put_12 : decode cX4_put 12 = .ok (.return_, 1) := by decide +kernel
theorem dX4_put_13 : decode cX4_put 13 = .ok (.aload_n 0, 1) := by decide +kernel
theorem dX4_put_14 : decode cX4_put 14 = .ok (.getfield 22, 3) := by decide +kernel
theorem dX4_put_17 : decode cX4_put 17 = .ok (.iload_n 1, 1) := by decide +kernel
theorem dX4_put_18 : decode cX4_put 18 = .ok (.aload_n 0, 1) := by decide +kernel
theorem dX4_put_19 : decode cX4_put 19 = .ok (.lload_n 2, 1) := by decide +kernel
theorem dX4_put_20 : decode cX4_put 20 = .ok (.invokevirtual 32, 3) := by decide +kernel
theorem dX4_put_23 : decode cX4_put 23 = .ok (.lastore, 1) := by decide +kernel
theorem dX4_put_24 : decode cX4_put 24 = .ok (.return_, 1) := by decide +kernel
theorem dX4_cut_0 : decode cX4_cut 0 = .ok (.aload_n 0, 1) := by decide +kernel
theorem dX4_cut_1 : decode cX4_cut 1 = .ok (.getfield 15, 3) := by decide +kernel
theorem dX4_cut_4 : decode cX4_cut 4 = .ok (.tableswitch 42 0 2 #[28, 33, 38], 28) := by decide +kernel
theorem dX4_cut_32 : decode cX4_cut 32 = .ok (.lload_n 1, 1) := by decide +kernel
theorem dX4_cut_33 : decode cX4_cut 33 = .ok (.l2i, 1) := by decide +kernel
theorem dX4_cut_34 : decode cX4_cut 34 = .ok (.i2b, 1) := by decide +kernel
theorem dX4_cut_35 : decode cX4_cut 35 = .ok (.i2l, 1) := by decide +kernel
theorem dX4_cut_36 : decode cX4_cut 36 = .ok (.lreturn, 1) := by decide +kernel
theorem dX4_cut_37 : decode cX4_cut 37 = .ok (.lload_n 1, 1) := by decide +kernel
theorem dX4_cut_38 : decode cX4_cut 38 = .ok (.l2i, 1) := by decide +kernel
theorem dX4_cut_39 : decode cX4_cut 39 = .ok (.i2s, 1) := by decide +kernel
theorem dX4_cut_40 : decode cX4_cut 40 = .ok (.i2l, 1) := by decide +kernel
theorem dX4_cut_41 : decode cX4_cut 41 = .ok (.lreturn, 1) := by decide +kernel
theorem dX4_cut_42 : decode cX4_cut 42 = .ok (.lload_n 1, 1) := by decide +kernel
theorem dX4_cut_43 : decode cX4_cut 43 = .ok (.l2i, 1) := by decide +kernel
theorem dX4_cut_44 : decode cX4_cut 44 = .ok (.i2l, 1) := by decide +kernel
theorem dX4_cut_45 : decode cX4_cut 45 = .ok (.lreturn, 1) := by decide +kernel
theorem dX4_cut_46 : decode cX4_cut 46 = .ok (.lload_n 1, 1) := by decide +kernel
theorem dX4_cut_47 : decode cX4_cut 47 = .ok (.lreturn, 1) := by decide +kernel
theorem dX5_init_0 : decode cX5_init 0 = .ok (.aload_n 0, 1) := by decide +kernel
theorem dX5_init_1 : decode cX5_init 1 = .ok (.invokespecial 3, 3) := by decide +kernel
theorem dX5_init_4 : decode cX5_init 4 = .ok (.aload_n 0, 1) := by decide +kernel
theorem dX5_init_5 : decode cX5_init 5 = .ok (.iconst 0, 1) := by decide +kernel
theorem dX5_init_6 : decode cX5_init 6 = .ok (.putfield 9, 3) := by decide +kernel
theorem dX5_init_9 : decode cX5_init 9 = .ok (.aload_n 0, 1) := by decide +kernel
theorem dX5_init_10 : decode cX5_init 10 = .ok (.iconst 0, 1) := by decide +kernel
theorem dX5_init_11 : decode cX5_init 11 = .ok (.putfield 15, 3) := by decide +kernel
theorem dX5_init_14 : decode cX5_init 14 = .ok (.aload_n 0, 1) := by decide +kernel
theorem dX5_init_15 : decode cX5_init 15 = .ok (.sipush 160, 3) := by decide +kernel
theorem dX5_init_18 : decode cX5_init 18 = .ok (.newarray .byte, 2) := by decide +kernel
theorem dX5_init_20 : decode cX5_init 20 = .ok (.putfield 18, 3) := by decide +kernel
theorem dX5_init_23 : decode cX5_init 23 = .ok (.return_, 1) := by decide +kernel
theorem dX5_add_0 : decode cX5_add 0 = .ok (.aload_n 0, 1) := by decide +kernel
theorem dX5_add_1 : decode cX5_add 1 = .ok (.getfield 9, 3) := by decide +kernel
theorem dX5_add_4 : decode cX5_add 4 = .ok (.sipush 160, 3) := by decide +kernel
theorem dX5_add_7 : decode cX5_add 7 = .ok (.if_icmp .lt 4, 3) := by decide +kernel
theorem dX5_add_10 : decode cX5_add 10 = .ok (.return_, 1) := by decide +kernel
theorem dX5_add_11 : decode cX5_add 11 = .ok (.aload_n 0, 1) := by decide +kernel
theorem dX5_add_12 : decode cX5_add 12 = .ok (.getfield 18, 3) := by decide +kernel
theorem dX5_add_15 : decode cX5_add 15 = .ok (.aload_n 0, 1) := by decide +kernel
theorem dX5_add_16 : decode cX5_add 16 = .ok (.getfield 9, 3) := by decide +kernel
theorem dX5_add_19 : decode cX5_add 19 = .ok (.iload_n 1, 1) := by decide +kernel
theorem dX5_add_20 : decode cX5_add 20 = .ok (.i2b, 1) := by decide +kernel
theorem dX5_add_21 : decode cX5_add 21 = .ok (.bastore, 1) := by decide +kernel
theorem dX5_add_22 : decode cX5_add 22 = .ok (.aload_n 0, 1) := by decide +kernel
theorem dX5_add_23 : decode cX5_add 23 = .ok (.dup, 1) := by decide +kernel
theorem dX5_add_24 : decode cX5_add 24 = .ok (.getfield 9, 3) := by decide +kernel
theorem dX5_add_27 : decode cX5_add 27 = .ok (.iconst 1, 1) := by decide +kernel
theorem dX5_add_28 : decode cX5_add 28 = .ok (.iadd, 1) := by decide +kernel
theorem dX5_add_29 : decode cX5_add 29 = .ok (.putfield 9, 3) := by decide +kernel
theorem dX5_add_32 : decode cX5_add 32 = .ok (.return_, 1) := by decide +kernel
theorem dX5_faultHere_0 : decode cX5_faultHere 0 = .ok (.bipush (-20), 2) := by decide +kernel
theorem dX5_faultHere_2 : decode cX5_faultHere 2 = .ok (.aload_n 0, 1) := by decide +kernel
theorem dX5_faultHere_3 : decode cX5_faultHere 3 = .ok (.getfield 15, 3) := by decide +kernel
theorem dX5_faultHere_6 : decode cX5_faultHere 6 = .ok (.isub, 1) := by decide +kernel
theorem dX5_faultHere_7 : decode cX5_faultHere 7 = .ok (.ireturn, 1) := by decide +kernel
theorem dX5_takeYard_0 : decode cX5_takeYard 0 = .ok (.aload_n 0, 1) := by decide +kernel
theorem dX5_takeYard_1 : decode cX5_takeYard 1 = .ok (.iconst 0, 1) := by decide +kernel
theorem dX5_takeYard_2 : decode cX5_takeYard 2 = .ok (.putfield 15, 3) := by decide +kernel
theorem dX5_takeYard_5 : decode cX5_takeYard 5 = .ok (.aload_n 1, 1) := by decide +kernel
theorem dX5_takeYard_6 : decode cX5_takeYard 6 = .ok (.iconst 0, 1) := by decide +kernel
theorem dX5_takeYard_7 : decode cX5_takeYard 7 = .ok (.putfield 22, 3) := by decide +kernel
theorem dX5_takeYard_10 : decode cX5_takeYard 10 = .ok (.iconst 0, 1) := by decide +kernel
theorem dX5_takeYard_11 : decode cX5_takeYard 11 = .ok (.istore_n 2, 1) := by decide +kernel
theorem dX5_takeYard_12 : decode cX5_takeYard 12 = .ok (.iload_n 2, 1) := by decide +kernel
theorem dX5_takeYard_13 : decode cX5_takeYard 13 = .ok (.bipush 10, 2) := by decide +kernel
theorem dX5_takeYard_15 : decode cX5_takeYard 15 = .ok (.if_icmp .ge 46, 3) := by decide +kernel
theorem dX5_takeYard_18 : decode cX5_takeYard 18 = .ok (.aload_n 0, 1) := by decide +kernel
theorem dX5_takeYard_19 : decode cX5_takeYard 19 = .ok (.aload_n 1, 1) := by decide +kernel
theorem dX5_takeYard_20 : decode cX5_takeYard 20 = .ok (.invokevirtual 25, 3) := by decide +kernel
theorem dX5_takeYard_23 : decode cX5_takeYard 23 = .ok (.ifCond .ne 5, 3) := by decide +kernel
theorem dX5_takeYard_26 : decode cX5_takeYard 26 = .ok (.iconst 0, 1) := by decide +kernel
theorem dX5_takeYard_27 : decode cX5_takeYard 27 = .ok (.ireturn, 1) := by decide +kernel
theorem dX5_takeYard_28 : decode cX5_takeYard 28 = .ok (.aload_n 0, 1) := by decide +kernel
theorem dX5_takeYard_29 : decode cX5_takeYard 29 = .ok (.invokevirtual 29, 3) := by decide +kernel
theorem dX5_takeYard_32 : decode cX5_takeYard 32 = .ok (.iconst (-1), 1) := by decide +kernel
theorem dX5_takeYard_33 : decode cX5_takeYard 33 = .ok (.if_icmp .ne 5, 3) := by decide +kernel
theorem dX5_takeYard_36 : decode cX5_takeYard 36 = .ok (.iconst 1, 1) := by decide +kernel
theorem dX5_takeYard_37 : decode cX5_takeYard 37 = .ok (.ireturn, 1) := by decide +kernel
theorem dX5_takeYard_38 : decode cX5_takeYard 38 = .ok (.iload_n 2, 1) := by decide +kernel
theorem dX5_takeYard_39 : decode cX5_takeYard 39 = .ok (.bipush 9, 2) := by decide +kernel
theorem dX5_takeYard_41 : decode cX5_takeYard 41 = .ok (.if_icmp .eq 12, 3) := by decide +kernel
theorem dX5_takeYard_44 : decode cX5_takeYard 44 = .ok (.aload_n 0, 1) := by decide +kernel
theorem dX5_takeYard_45 : decode cX5_takeYard 45 = .ok (.bipush 44, 2) := by decide +kernel
theorem dX5_takeYard_47 : decode cX5_takeYard 47 = .ok (.invokevirtual 33, 3) := by decide +kernel
theorem dX5_takeYard_50 : decode cX5_takeYard 50 = .ok (.ifCond .ne 5, 3) := by decide +kernel
theorem dX5_takeYard_53 : decode cX5_takeYard 53 = .ok (.iconst 0, 1) := by decide +kernel
theorem dX5_takeYard_54 : decode cX5_takeYard 54 = .ok (.ireturn, 1) := by decide +kernel
theorem dX5_takeYard_55 : decode cX5_takeYard 55 = .ok (.iinc 2 1, 3) := by decide +kernel
theorem dX5_takeYard_58 : decode cX5_takeYard 58 = .ok (.goto (-46), 3) := by decide +kernel
theorem dX5_takeYard_61 : decode cX5_takeYard 61 = .ok (.iconst 0, 1) := by decide +kernel
theorem dX5_takeYard_62 : decode cX5_takeYard 62 = .ok (.ireturn, 1) := by decide +kernel
theorem dX5_takeGrave_0 : decode cX5_takeGrave 0 = .ok (.aload_n 0, 1) := by decide +kernel
theorem dX5_takeGrave_1 : decode cX5_takeGrave 1 = .ok (.invokevirtual 29, 3) := by decide +kernel
theorem dX5_takeGrave_4 : decode cX5_takeGrave 4 = .ok (.invokestatic 37, 3) := by decide +kernel
theorem dX5_takeGrave_7 : decode cX5_takeGrave 7 = .ok (.istore_n 2, 1) := by decide +kernel
theorem dX5_takeGrave_8 : decode cX5_takeGrave 8 = .ok (.iload_n 2, 1) := by decide +kernel
theorem dX5_takeGrave_9 : decode cX5_takeGrave 9 = .ok (.ifCond .ge 5, 3) := by decide +kernel
theorem dX5_takeGrave_12 : decode cX5_takeGrave 12 = .ok (.iconst 0, 1) := by decide +kernel
theorem dX5_takeGrave_13 : decode cX5_takeGrave 13 = .ok (.ireturn, 1) := by decide +kernel
theorem dX5_takeGrave_14 : decode cX5_takeGrave 14 = .ok (.aload_n 0, 1) := by decide +kernel
theorem dX5_takeGrave_15 : decode cX5_takeGrave 15 = .ok (.dup, 1) := by decide +kernel
theorem dX5_takeGrave_16 : decode cX5_takeGrave 16 = .ok (.getfield 15, 3) := by decide +kernel
theorem dX5_takeGrave_19 : decode cX5_takeGrave 19 = .ok (.iconst 1, 1) := by decide +kernel
theorem dX5_takeGrave_20 : decode cX5_takeGrave 20 = .ok (.iadd, 1) := by decide +kernel
theorem dX5_takeGrave_21 : decode cX5_takeGrave 21 = .ok (.putfield 15, 3) := by decide +kernel
theorem dX5_takeGrave_24 : decode cX5_takeGrave 24 = .ok (.aload_n 0, 1) := by decide +kernel
theorem dX5_takeGrave_25 : decode cX5_takeGrave 25 = .ok (.bipush 6, 2) := by decide +kernel
theorem dX5_takeGrave_27 : decode cX5_takeGrave 27 = .ok (.invokevirtual 41, 3) := by decide +kernel
theorem dX5_takeGrave_30 : decode cX5_takeGrave 30 = .ok (.istore_n 3, 1) := by decide +kernel
theorem dX5_takeGrave_31 : decode cX5_takeGrave 31 = .ok (.iload_n 3, 1) := by decide +kernel
theorem dX5_takeGrave_32 : decode cX5_takeGrave 32 = .ok (.ifCond .ge 5, 3) := by decide +kernel
theorem dX5_takeGrave_35 : decode cX5_takeGrave 35 = .ok (.iconst 0, 1) := by decide +kernel
theorem dX5_takeGrave_36 : decode cX5_takeGrave 36 = .ok (.ireturn, 1) := by decide +kernel
theorem dX5_takeGrave_37 : decode cX5_takeGrave 37 = .ok (.aload_n 0, 1) := by decide +kernel
theorem dX5_takeGrave_38 : decode cX5_takeGrave 38 = .ok (.bipush 6, 2) := by decide +kernel
theorem dX5_takeGrave_40 : decode cX5_takeGrave 40 = .ok (.invokevirtual 41, 3) := by decide +kernel
theorem dX5_takeGrave_43 : decode cX5_takeGrave 43 = .ok (.istore 4, 2) := by decide +kernel
theorem dX5_takeGrave_45 : decode cX5_takeGrave 45 = .ok (.iload 4, 2) := by decide +kernel
theorem dX5_takeGrave_47 : decode cX5_takeGrave 47 = .ok (.ifCond .lt 12, 3) := by decide +kernel
theorem dX5_takeGrave_50 : decode cX5_takeGrave 50 = .ok (.aload_n 0, 1) := by decide +kernel
theorem dX5_takeGrave_51 : decode cX5_takeGrave 51 = .ok (.bipush 64, 2) := by decide +kernel
theorem dX5_takeGrave_53 : decode cX5_takeGrave 53 = .ok (.invokevirtual 33, 3) := by decide +kernel
theorem dX5_takeGrave_56 : decode cX5_takeGrave 56 = .ok (.ifCond .ne 5, 3) := by decide +kernel
theorem dX5_takeGrave_59 : decode cX5_takeGrave 59 = .ok (.iconst 0, 1) := by decide +kernel
theorem dX5_takeGrave_60 : decode cX5_takeGrave 60 = .ok (.ireturn, 1) := by decide +kernel
theorem dX5_takeGrave_61 : decode cX5_takeGrave 61 = .ok (.aload_n 0, 1) := by decide +kernel
theorem dX5_takeGrave_62 : decode cX5_takeGrave 62 = .ok (.bipush 89, 2) := by decide +kernel
theorem dX5_takeGrave_64 : decode cX5_takeGrave 64 = .ok (.invokevirtual 44, 3) := by decide +kernel
theorem dX5_takeGrave_67 : decode cX5_takeGrave 67 = .ok (.istore 5, 2) := by decide +kernel
theorem dX5_takeGrave_69 : decode cX5_takeGrave 69 = .ok (.iload 5, 2) := by decide +kernel
theorem dX5_takeGrave_71 : decode cX5_takeGrave 71 = .ok (.ifCond .ge 5, 3) := by decide +kernel
theorem dX5_takeGrave_74 : decode cX5_takeGrave 74 = .ok (.iconst 0, 1) := by decide +kernel
theorem dX5_takeGrave_75 : decode cX5_takeGrave 75 = .ok (.ireturn, 1) := by decide +kernel
theorem dX5_takeGrave_76 : decode cX5_takeGrave 76 = .ok (.aload_n 1, 1) := by decide +kernel
theorem dX5_takeGrave_77 : decode cX5_takeGrave 77 = .ok (.iload_n 2, 1) := by decide +kernel
theorem dX5_takeGrave_78 : decode cX5_takeGrave 78 = .ok (.bipush 6, 2) := by decide +kernel
theorem dX5_takeGrave_80 : decode cX5_takeGrave 80 = .ok (.iload_n 3, 1) := by decide +kernel
theorem dX5_takeGrave_81 : decode cX5_takeGrave 81 = .ok (.imul, 1) := by decide +kernel
theorem dX5_takeGrave_82 : decode cX5_takeGrave 82 = .ok (.iload 4, 2) := by decide +kernel
theorem dX5_takeGrave_84 : decode cX5_takeGrave 84 = .ok (.iadd, 1) := by decide +kernel
theorem dX5_takeGrave_85 : decode cX5_takeGrave 85 = .ok (.iload 5, 2) := by decide +kernel
theorem dX5_takeGrave_87 : decode cX5_takeGrave 87 = .ok (.invokevirtual 47, 3) := by decide +kernel
theorem dX5_takeGrave_90 : decode cX5_takeGrave 90 = .ok (.iconst 1, 1) := by decide +kernel
theorem dX5_takeGrave_91 : decode cX5_takeGrave 91 = .ok (.ireturn, 1) := by decide +kernel
theorem dX5_kindOf_0 : decode cX5_kindOf 0 = .ok (.iload_n 0, 1) := by decide +kernel
theorem dX5_kindOf_1 : decode cX5_kindOf 1 = .ok (.tableswitch 79 100 112 #[69, 73, 75, 79, 79, 71, 79, 79, 79, 79, 77, 79, 67], 67) := by decide +kernel
theorem dX5_kindOf_68 : decode cX5_kindOf 68 = .ok (.iconst 0, 1) := by decide +kernel
theorem dX5_kindOf_69 : decode cX5_kindOf 69 = .ok (.ireturn, 1) := by decide +kernel
theorem dX5_kindOf_70 : decode cX5_kindOf 70 = .ok (.iconst 1, 1) := by decide +kernel
theorem dX5_kindOf_71 : decode cX5_kindOf 71 = .ok (.ireturn, 1) := by decide +kernel
theorem dX5_kindOf_72 : decode cX5_kindOf 72 = .ok (.iconst 2, 1) := by decide +kernel
theorem dX5_kindOf_73 : decode cX5_kindOf 73 = .ok (.ireturn, 1) := by decide +kernel
theorem dX5_kindOf_74 : decode cX5_kindOf 74 = .ok (.iconst 3, 1) := by decide +kernel
theorem dX5_kindOf_75 : decode cX5_kindOf 75 = .ok (.ireturn, 1) := by decide +kernel
theorem dX5_kindOf_76 : decode cX5_kindOf 76 = .ok (.iconst 4, 1) := by decide +kernel
theorem dX5_kindOf_77 : decode cX5_kindOf 77 = .ok (.ireturn, 1) := by decide +kernel
theorem dX5_kindOf_78 : decode cX5_kindOf 78 = .ok (.iconst 5, 1) := by decide +kernel
theorem dX5_kindOf_79 : decode cX5_kindOf 79 = .ok (.ireturn, 1) := by decide +kernel
theorem dX5_kindOf_80 : decode cX5_kindOf 80 = .ok (.iconst (-1), 1) := by decide +kernel
theorem dX5_kindOf_81 : decode cX5_kindOf 81 = .ok (.ireturn, 1) := by decide +kernel
theorem dX5_takePaper_0 : decode cX5_takePaper 0 = .ok (.aload_n 0, 1) := by decide +kernel
theorem dX5_takePaper_1 : decode cX5_takePaper 1 = .ok (.iconst 0, 1) := by decide +kernel
theorem dX5_takePaper_2 : decode cX5_takePaper 2 = .ok (.putfield 15, 3) := by decide +kernel
theorem dX5_takePaper_5 : decode cX5_takePaper 5 = .ok (.aload_n 1, 1) := by decide +kernel
theorem dX5_takePaper_6 : decode cX5_takePaper 6 = .ok (.invokevirtual 51, 3) := by decide +kernel
theorem dX5_takePaper_9 : decode cX5_takePaper 9 = .ok (.iconst 0, 1) := by decide +kernel
theorem dX5_takePaper_10 : decode cX5_takePaper 10 = .ok (.istore_n 2, 1) := by decide +kernel
theorem dX5_takePaper_11 : decode cX5_takePaper 11 = .ok (.iload_n 2, 1) := by decide +kernel
theorem dX5_takePaper_12 : decode cX5_takePaper 12 = .ok (.bipush 12, 2) := by decide +kernel
theorem dX5_takePaper_14 : decode cX5_takePaper 14 = .ok (.if_icmp .ge 46, 3) := by decide +kernel
theorem dX5_takePaper_17 : decode cX5_takePaper 17 = .ok (.aload_n 0, 1) := by decide +kernel
theorem dX5_takePaper_18 : decode cX5_takePaper 18 = .ok (.aload_n 1, 1) := by decide +kernel
theorem dX5_takePaper_19 : decode cX5_takePaper 19 = .ok (.invokevirtual 56, 3) := by decide +kernel
theorem dX5_takePaper_22 : decode cX5_takePaper 22 = .ok (.ifCond .ne 5, 3) := by decide +kernel
theorem dX5_takePaper_25 : decode cX5_takePaper 25 = .ok (.iconst 0, 1) := by decide +kernel
theorem dX5_takePaper_26 : decode cX5_takePaper 26 = .ok (.ireturn, 1) := by decide +kernel
theorem dX5_takePaper_27 : decode cX5_takePaper 27 = .ok (.aload_n 0, 1) := by decide +kernel
theorem dX5_takePaper_28 : decode cX5_takePaper 28 = .ok (.invokevirtual 29, 3) := by decide +kernel
theorem dX5_takePaper_31 : decode cX5_takePaper 31 = .ok (.iconst (-1), 1) := by decide +kernel
theorem dX5_takePaper_32 : decode cX5_takePaper 32 = .ok (.if_icmp .ne 5, 3) := by decide +kernel
theorem dX5_takePaper_35 : decode cX5_takePaper 35 = .ok (.iconst 1, 1) := by decide +kernel
theorem dX5_takePaper_36 : decode cX5_takePaper 36 = .ok (.ireturn, 1) := by decide +kernel
theorem dX5_takePaper_37 : decode cX5_takePaper 37 = .ok (.iload_n 2, 1) := by decide +kernel
theorem dX5_takePaper_38 : decode cX5_takePaper 38 = .ok (.bipush 11, 2) := by decide +kernel
theorem dX5_takePaper_40 : decode cX5_takePaper 40 = .ok (.if_icmp .eq 12, 3) := by decide +kernel
theorem dX5_takePaper_43 : decode cX5_takePaper 43 = .ok (.aload_n 0, 1) := by decide +kernel
theorem dX5_takePaper_44 : decode cX5_takePaper 44 = .ok (.bipush 44, 2) := by decide +kernel
theorem dX5_takePaper_46 : decode cX5_takePaper 46 = .ok (.invokevirtual 33, 3) := by decide +kernel
theorem dX5_takePaper_49 : decode cX5_takePaper 49 = .ok (.ifCond .ne 5, 3) := by decide +kernel
theorem dX5_takePaper_52 : decode cX5_takePaper 52 = .ok (.iconst 0, 1) := by decide +kernel
theorem dX5_takePaper_53 : decode cX5_takePaper 53 = .ok (.ireturn, 1) := by decide +kernel
theorem dX5_takePaper_54 : decode cX5_takePaper 54 = .ok (.iinc 2 1, 3) := by decide +kernel
theorem dX5_takePaper_57 : decode cX5_takePaper 57 = .ok (.goto (-46), 3) := by decide +kernel
theorem dX5_takePaper_60 : decode cX5_takePaper 60 = .ok (.iconst 0, 1) := by decide +kernel
theorem dX5_takePaper_61 : decode cX5_takePaper 61 = .ok (.ireturn, 1) := by decide +kernel
theorem dX5_takeNews_0 : decode cX5_takeNews 0 = .ok (.aload_n 0, 1) := by decide +kernel
theorem dX5_takeNews_1 : decode cX5_takeNews 1 = .ok (.bipush 99, 2) := by decide +kernel
theorem dX5_takeNews_3 : decode cX5_takeNews 3 = .ok (.invokevirtual 44, 3) := by decide +kernel
theorem dX5_takeNews_6 : decode cX5_takeNews 6 = .ok (.istore_n 2, 1) := by decide +kernel
theorem dX5_takeNews_7 : decode cX5_takeNews 7 = .ok (.iload_n 2, 1) := by decide +kernel
theorem dX5_takeNews_8 : decode cX5_takeNews 8 = .ok (.ifCond .ge 5, 3) := by decide +kernel
theorem dX5_takeNews_11 : decode cX5_takeNews 11 = .ok (.iconst 0, 1) := by decide +kernel
theorem dX5_takeNews_12 : decode cX5_takeNews 12 = .ok (.ireturn, 1) := by decide +kernel
theorem dX5_takeNews_13 : decode cX5_takeNews 13 = .ok (.aload_n 0, 1) := by decide +kernel
theorem dX5_takeNews_14 : decode cX5_takeNews 14 = .ok (.bipush 115, 2) := by decide +kernel
theorem dX5_takeNews_16 : decode cX5_takeNews 16 = .ok (.invokevirtual 33, 3) := by decide +kernel
theorem dX5_takeNews_19 : decode cX5_takeNews 19 = .ok (.ifCond .eq 7, 3) := by decide +kernel
theorem dX5_takeNews_22 : decode cX5_takeNews 22 = .ok (.iconst 1, 1) := by decide +kernel
theorem dX5_takeNews_23 : decode cX5_takeNews 23 = .ok (.goto 4, 3) := by decide +kernel
theorem dX5_takeNews_26 : decode cX5_takeNews 26 = .ok (.iconst 0, 1) := by decide +kernel
theorem dX5_takeNews_27 : decode cX5_takeNews 27 = .ok (.istore_n 3, 1) := by decide +kernel
theorem dX5_takeNews_28 : decode cX5_takeNews 28 = .ok (.aload_n 0, 1) := by decide +kernel
theorem dX5_takeNews_29 : decode cX5_takeNews 29 = .ok (.bipush 60, 2) := by decide +kernel
theorem dX5_takeNews_31 : decode cX5_takeNews 31 = .ok (.invokevirtual 33, 3) := by decide +kernel
theorem dX5_takeNews_34 : decode cX5_takeNews 34 = .ok (.ifCond .eq 12, 3) := by decide +kernel
theorem dX5_takeNews_37 : decode cX5_takeNews 37 = .ok (.aload_n 0, 1) := by decide +kernel
theorem dX5_takeNews_38 : decode cX5_takeNews 38 = .ok (.aload_n 1, 1) := by decide +kernel
theorem dX5_takeNews_39 : decode cX5_takeNews 39 = .ok (.iload_n 2, 1) := by decide +kernel
theorem dX5_takeNews_40 : decode cX5_takeNews 40 = .ok (.invokevirtual 60, 3) := by decide +kernel
theorem dX5_takeNews_43 : decode cX5_takeNews 43 = .ok (.goto 4, 3) := by decide +kernel
theorem dX5_takeNews_46 : decode cX5_takeNews 46 = .ok (.iconst 0, 1) := by decide +kernel
theorem dX5_takeNews_47 : decode cX5_takeNews 47 = .ok (.istore 4, 2) := by decide +kernel
theorem dX5_takeNews_49 : decode cX5_takeNews 49 = .ok (.iload 4, 2) := by decide +kernel
theorem dX5_takeNews_51 : decode cX5_takeNews 51 = .ok (.ifCond .ge 5, 3) := by decide +kernel
theorem dX5_takeNews_54 : decode cX5_takeNews 54 = .ok (.iconst 0, 1) := by decide +kernel
theorem dX5_takeNews_55 : decode cX5_takeNews 55 = .ok (.ireturn, 1) := by decide +kernel
theorem dX5_takeNews_56 : decode cX5_takeNews 56 = .ok (.aload_n 0, 1) := by decide +kernel
theorem dX5_takeNews_57 : decode cX5_takeNews 57 = .ok (.bipush 33, 2) := by decide +kernel
theorem dX5_takeNews_59 : decode cX5_takeNews 59 = .ok (.invokevirtual 33, 3) := by decide +kernel
theorem dX5_takeNews_62 : decode cX5_takeNews 62 = .ok (.ifCond .eq 10, 3) := by decide +kernel
theorem dX5_takeNews_65 : decode cX5_takeNews 65 = .ok (.aload_n 0, 1) := by decide +kernel
theorem dX5_takeNews_66 : decode cX5_takeNews 66 = .ok (.invokevirtual 64, 3) := by decide +kernel
theorem dX5_takeNews_69 : decode cX5_takeNews 69 = .ok (.goto 4, 3) := by decide +kernel
theorem dX5_takeNews_72 : decode cX5_takeNews 72 = .ok (.iconst 0, 1) := by decide +kernel
theorem dX5_takeNews_73 : decode cX5_takeNews 73 = .ok (.istore 5, 2) := by decide +kernel
theorem dX5_takeNews_75 : decode cX5_takeNews 75 = .ok (.iload 5, 2) := by decide +kernel
theorem dX5_takeNews_77 : decode cX5_takeNews 77 = .ok (.ifCond .ge 5, 3) := by decide +kernel
theorem dX5_takeNews_80 : decode cX5_takeNews 80 = .ok (.iconst 0, 1) := by decide +kernel
theorem dX5_takeNews_81 : decode cX5_takeNews 81 = .ok (.ireturn, 1) := by decide +kernel
theorem dX5_takeNews_82 : decode cX5_takeNews 82 = .ok (.aload_n 1, 1) := by decide +kernel
theorem dX5_takeNews_83 : decode cX5_takeNews 83 = .ok (.iload_n 2, 1) := by decide +kernel
theorem dX5_takeNews_84 : decode cX5_takeNews 84 = .ok (.iload 4, 2) := by decide +kernel
theorem dX5_takeNews_86 : decode cX5_takeNews 86 = .ok (.iload 5, 2) := by decide +kernel
theorem dX5_takeNews_88 : decode cX5_takeNews 88 = .ok (.iload_n 3, 1) := by decide +kernel
theorem dX5_takeNews_89 : decode cX5_takeNews 89 = .ok (.invokevirtual 67, 3) := by decide +kernel
theorem dX5_takeNews_92 : decode cX5_takeNews 92 = .ok (.iconst 1, 1) := by decide +kernel
theorem dX5_takeNews_93 : decode cX5_takeNews 93 = .ok (.ireturn, 1) := by decide +kernel
theorem dX5_takeAhead_0 : decode cX5_takeAhead 0 = .ok (.iconst 0, 1) := by decide +kernel
theorem dX5_takeAhead_1 : decode cX5_takeAhead 1 = .ok (.istore_n 3, 1) := by decide +kernel
theorem dX5_takeAhead_2 : decode cX5_takeAhead 2 = .ok (.iconst 0, 1) := by decide +kernel
theorem dX5_takeAhead_3 : decode cX5_takeAhead 3 = .ok (.istore 4, 2) := by decide +kernel
theorem dX5_takeAhead_5 : decode cX5_takeAhead 5 = .ok (.iload 4, 2) := by decide +kernel
theorem dX5_takeAhead_7 : decode cX5_takeAhead 7 = .ok (.bipush 12, 2) := by decide +kernel
theorem dX5_takeAhead_9 : decode cX5_takeAhead 9 = .ok (.if_icmp .ge 72, 3) := by decide +kernel
theorem dX5_takeAhead_12 : decode cX5_takeAhead 12 = .ok (.aload_n 0, 1) := by decide +kernel
theorem dX5_takeAhead_13 : decode cX5_takeAhead 13 = .ok (.invokevirtual 29, 3) := by decide +kernel
theorem dX5_takeAhead_16 : decode cX5_takeAhead 16 = .ok (.bipush 97, 2) := by decide +kernel
theorem dX5_takeAhead_18 : decode cX5_takeAhead 18 = .ok (.isub, 1) := by decide +kernel
theorem dX5_takeAhead_19 : decode cX5_takeAhead 19 = .ok (.istore 5, 2) := by decide +kernel
theorem dX5_takeAhead_21 : decode cX5_takeAhead 21 = .ok (.iload 5, 2) := by decide +kernel
theorem dX5_takeAhead_23 : decode cX5_takeAhead 23 = .ok (.ifCond .lt 58, 3) := by decide +kernel
theorem dX5_takeAhead_26 : decode cX5_takeAhead 26 = .ok (.iload 5, 2) := by decide +kernel
theorem dX5_takeAhead_28 : decode cX5_takeAhead 28 = .ok (.aload_n 1, 1) := by decide +kernel
theorem dX5_takeAhead_29 : decode cX5_takeAhead 29 = .ok (.getfield 70, 3) := by decide +kernel
theorem dX5_takeAhead_32 : decode cX5_takeAhead 32 = .ok (.if_icmp .ge 49, 3) := by decide +kernel
theorem dX5_takeAhead_35 : decode cX5_takeAhead 35 = .ok (.iload_n 3, 1) := by decide +kernel
theorem dX5_takeAhead_36 : decode cX5_takeAhead 36 = .ok (.iload 5, 2) := by decide +kernel
theorem dX5_takeAhead_38 : decode cX5_takeAhead 38 = .ok (.invokestatic 71, 3) := by decide +kernel
theorem dX5_takeAhead_41 : decode cX5_takeAhead 41 = .ok (.ifCond .ne 40, 3) := by decide +kernel
theorem dX5_takeAhead_44 : decode cX5_takeAhead 44 = .ok (.aload_n 1, 1) := by decide +kernel
theorem dX5_takeAhead_45 : decode cX5_takeAhead 45 = .ok (.getfield 75, 3) := by decide +kernel
theorem dX5_takeAhead_48 : decode cX5_takeAhead 48 = .ok (.iload 5, 2) := by decide +kernel
theorem dX5_takeAhead_50 : decode cX5_takeAhead 50 = .ok (.iaload, 1) := by decide +kernel
theorem dX5_takeAhead_51 : decode cX5_takeAhead 51 = .ok (.iload_n 2, 1) := by decide +kernel
theorem dX5_takeAhead_52 : decode cX5_takeAhead 52 = .ok (.if_icmp .le 6, 3) := by decide +kernel
theorem dX5_takeAhead_55 : decode cX5_takeAhead 55 = .ok (.goto 26, 3) := by decide +kernel
theorem dX5_takeAhead_58 : decode cX5_takeAhead 58 = .ok (.iload_n 3, 1) := by decide +kernel
theorem dX5_takeAhead_59 : decode cX5_takeAhead 59 = .ok (.iconst 1, 1) := by decide +kernel
theorem dX5_takeAhead_60 : decode cX5_takeAhead 60 = .ok (.iload 5, 2) := by decide +kernel
theorem dX5_takeAhead_62 : decode cX5_takeAhead 62 = .ok (.ishl, 1) := by decide +kernel
theorem dX5_takeAhead_63 : decode cX5_takeAhead 63 = .ok (.ior, 1) := by decide +kernel
theorem dX5_takeAhead_64 : decode cX5_takeAhead 64 = .ok (.istore_n 3, 1) := by decide +kernel
theorem dX5_takeAhead_65 : decode cX5_takeAhead 65 = .ok (.aload_n 0, 1) := by decide +kernel
theorem dX5_takeAhead_66 : decode cX5_takeAhead 66 = .ok (.dup, 1) := by decide +kernel
theorem dX5_takeAhead_67 : decode cX5_takeAhead 67 = .ok (.getfield 15, 3) := by decide +kernel
theorem dX5_takeAhead_70 : decode cX5_takeAhead 70 = .ok (.iconst 1, 1) := by decide +kernel
theorem dX5_takeAhead_71 : decode cX5_takeAhead 71 = .ok (.iadd, 1) := by decide +kernel
theorem dX5_takeAhead_72 : decode cX5_takeAhead 72 = .ok (.putfield 15, 3) := by decide +kernel
theorem dX5_takeAhead_75 : decode cX5_takeAhead 75 = .ok (.iinc 4 1, 3) := by decide +kernel
theorem dX5_takeAhead_78 : decode cX5_takeAhead 78 = .ok (.goto (-73), 3) := by decide +kernel
theorem dX5_takeAhead_81 : decode cX5_takeAhead 81 = .ok (.iload_n 3, 1) := by decide +kernel
theorem dX5_takeAhead_82 : decode cX5_takeAhead 82 = .ok (.ifCond .ne 7, 3) := by decide +kernel
theorem dX5_takeAhead_85 : decode cX5_takeAhead 85 = .ok (.iconst (-1), 1) := by decide +kernel
theorem dX5_takeAhead_86 : decode cX5_takeAhead 86 = .ok (.goto 4, 3) := by decide +kernel
theorem dX5_takeAhead_89 : decode cX5_takeAhead 89 = .ok (.iload_n 3, 1) := by decide +kernel
theorem dX5_takeAhead_90 : decode cX5_takeAhead 90 = .ok (.ireturn, 1) := by decide +kernel
theorem dX5_takeBarred_0 : decode cX5_takeBarred 0 = .ok (.iconst 0, 1) := by decide +kernel
theorem dX5_takeBarred_1 : decode cX5_takeBarred 1 = .ok (.istore_n 1, 1) := by decide +kernel
theorem dX5_takeBarred_2 : decode cX5_takeBarred 2 = .ok (.iconst 0, 1) := by decide +kernel
theorem dX5_takeBarred_3 : decode cX5_takeBarred 3 = .ok (.istore_n 2, 1) := by decide +kernel
theorem dX5_takeBarred_4 : decode cX5_takeBarred 4 = .ok (.iload_n 2, 1) := by decide +kernel
theorem dX5_takeBarred_5 : decode cX5_takeBarred 5 = .ok (.bipush 10, 2) := by decide +kernel
theorem dX5_takeBarred_7 : decode cX5_takeBarred 7 = .ok (.if_icmp .ge 54, 3) := by decide +kernel
theorem dX5_takeBarred_10 : decode cX5_takeBarred 10 = .ok (.aload_n 0, 1) := by decide +kernel
theorem dX5_takeBarred_11 : decode cX5_takeBarred 11 = .ok (.invokevirtual 29, 3) := by decide +kernel
theorem dX5_takeBarred_14 : decode cX5_takeBarred 14 = .ok (.bipush 48, 2) := by decide +kernel
theorem dX5_takeBarred_16 : decode cX5_takeBarred 16 = .ok (.isub, 1) := by decide +kernel
theorem dX5_takeBarred_17 : decode cX5_takeBarred 17 = .ok (.istore_n 3, 1) := by decide +kernel
theorem dX5_takeBarred_18 : decode cX5_takeBarred 18 = .ok (.iload_n 3, 1) := by decide +kernel
theorem dX5_takeBarred_19 : decode cX5_takeBarred 19 = .ok (.ifCond .lt 42, 3) := by decide +kernel
theorem dX5_takeBarred_22 : decode cX5_takeBarred 22 = .ok (.iload_n 3, 1) := by decide +kernel
theorem dX5_takeBarred_23 : decode cX5_takeBarred 23 = .ok (.bipush 10, 2) := by decide +kernel
theorem dX5_takeBarred_25 : decode cX5_takeBarred 25 = .ok (.if_icmp .ge 36, 3) := by decide +kernel
theorem dX5_takeBarred_28 : decode cX5_takeBarred 28 = .ok (.iload_n 1, 1) := by decide +kernel
theorem dX5_takeBarred_29 : decode cX5_takeBarred 29 = .ok (.iload_n 3, 1) := by decide +kernel
theorem dX5_takeBarred_30 : decode cX5_takeBarred 30 = .ok (.invokestatic 71, 3) := by decide +kernel
theorem dX5_takeBarred_33 : decode cX5_takeBarred 33 = .ok (.ifCond .eq 6, 3) := by decide +kernel
theorem dX5_takeBarred_36 : decode cX5_takeBarred 36 = .ok (.goto 25, 3) := by decide +kernel
theorem dX5_takeBarred_39 : decode cX5_takeBarred 39 = .ok (.iload_n 1, 1) := by decide +kernel
theorem dX5_takeBarred_40 : decode cX5_takeBarred 40 = .ok (.iconst 1, 1) := by decide +kernel
theorem dX5_takeBarred_41 : decode cX5_takeBarred 41 = .ok (.iload_n 3, 1) := by decide +kernel
theorem dX5_takeBarred_42 : decode cX5_takeBarred 42 = .ok (.ishl, 1) := by decide +kernel
theorem dX5_takeBarred_43 : decode cX5_takeBarred 43 = .ok (.ior, 1) := by decide +kernel
theorem dX5_takeBarred_44 : decode cX5_takeBarred 44 = .ok (.istore_n 1, 1) := by decide +kernel
theorem dX5_takeBarred_45 : decode cX5_takeBarred 45 = .ok (.aload_n 0, 1) := by decide +kernel
theorem dX5_takeBarred_46 : decode cX5_takeBarred 46 = .ok (.dup, 1) := by decide +kernel
theorem dX5_takeBarred_47 : decode cX5_takeBarred 47 = .ok (.getfield 15, 3) := by decide +kernel
theorem dX5_takeBarred_50 : decode cX5_takeBarred 50 = .ok (.iconst 1, 1) := by decide +kernel
theorem dX5_takeBarred_51 : decode cX5_takeBarred 51 = .ok (.iadd, 1) := by decide +kernel
theorem dX5_takeBarred_52 : decode cX5_takeBarred 52 = .ok (.putfield 15, 3) := by decide +kernel
theorem dX5_takeBarred_55 : decode cX5_takeBarred 55 = .ok (.iinc 2 1, 3) := by decide +kernel
theorem dX5_takeBarred_58 : decode cX5_takeBarred 58 = .ok (.goto (-54), 3) := by decide +kernel
theorem dX5_takeBarred_61 : decode cX5_takeBarred 61 = .ok (.iload_n 1, 1) := by decide +kernel
theorem dX5_takeBarred_62 : decode cX5_takeBarred 62 = .ok (.ifCond .ne 7, 3) := by decide +kernel
theorem dX5_takeBarred_65 : decode cX5_takeBarred 65 = .ok (.iconst (-1), 1) := by decide +kernel
theorem dX5_takeBarred_66 : decode cX5_takeBarred 66 = .ok (.goto 4, 3) := by decide +kernel
theorem dX5_takeBarred_69 : decode cX5_takeBarred 69 = .ok (.iload_n 1, 1) := by decide +kernel
theorem dX5_takeBarred_70 : decode cX5_takeBarred 70 = .ok (.ireturn, 1) := by decide +kernel
theorem dX5_takeDay_0 : decode cX5_takeDay 0 = .ok (.aload_n 0, 1) := by decide +kernel
theorem dX5_takeDay_1 : decode cX5_takeDay 1 = .ok (.iconst 0, 1) := by decide +kernel
theorem dX5_takeDay_2 : decode cX5_takeDay 2 = .ok (.putfield 15, 3) := by decide +kernel
theorem dX5_takeDay_5 : decode cX5_takeDay 5 = .ok (.iconst 0, 1) := by decide +kernel
theorem dX5_takeDay_6 : decode cX5_takeDay 6 = .ok (.istore 4, 2) := by decide +kernel
theorem dX5_takeDay_8 : decode cX5_takeDay 8 = .ok (.iload 4, 2) := by decide +kernel
theorem dX5_takeDay_10 : decode cX5_takeDay 10 = .ok (.aload_n 1, 1) := by decide +kernel
theorem dX5_takeDay_11 : decode cX5_takeDay 11 = .ok (.arraylength, 1) := by decide +kernel
theorem dX5_takeDay_12 : decode cX5_takeDay 12 = .ok (.if_icmp .ge 52, 3) := by decide +kernel
theorem dX5_takeDay_15 : decode cX5_takeDay 15 = .ok (.aload_n 1, 1) := by decide +kernel
theorem dX5_takeDay_16 : decode cX5_takeDay 16 = .ok (.iload 4, 2) := by decide +kernel
theorem dX5_takeDay_18 : decode cX5_takeDay 18 = .ok (.aload_n 0, 1) := by decide +kernel
theorem dX5_takeDay_19 : decode cX5_takeDay 19 = .ok (.iload_n 2, 1) := by decide +kernel
theorem dX5_takeDay_20 : decode cX5_takeDay 20 = .ok (.iload_n 3, 1) := by decide +kernel
theorem dX5_takeDay_21 : decode cX5_takeDay 21 = .ok (.invokevirtual 79, 3) := by decide +kernel
theorem dX5_takeDay_24 : decode cX5_takeDay 24 = .ok (.iastore, 1) := by decide +kernel
theorem dX5_takeDay_25 : decode cX5_takeDay 25 = .ok (.aload_n 1, 1) := by decide +kernel
theorem dX5_takeDay_26 : decode cX5_takeDay 26 = .ok (.iload 4, 2) := by decide +kernel
theorem dX5_takeDay_28 : decode cX5_takeDay 28 = .ok (.iaload, 1) := by decide +kernel
theorem dX5_takeDay_29 : decode cX5_takeDay 29 = .ok (.ifCond .ge 5, 3) := by decide +kernel
theorem dX5_takeDay_32 : decode cX5_takeDay 32 = .ok (.iconst (-1), 1) := by decide +kernel
theorem dX5_takeDay_33 : decode cX5_takeDay 33 = .ok (.ireturn, 1) := by decide +kernel
theorem dX5_takeDay_34 : decode cX5_takeDay 34 = .ok (.aload_n 0, 1) := by decide +kernel
theorem dX5_takeDay_35 : decode cX5_takeDay 35 = .ok (.invokevirtual 29, 3) := by decide +kernel
theorem dX5_takeDay_38 : decode cX5_takeDay 38 = .ok (.iconst (-1), 1) := by decide +kernel
theorem dX5_takeDay_39 : decode cX5_takeDay 39 = .ok (.if_icmp .ne 8, 3) := by decide +kernel
theorem dX5_takeDay_42 : decode cX5_takeDay 42 = .ok (.iload 4, 2) := by decide +kernel
theorem dX5_takeDay_44 : decode cX5_takeDay 44 = .ok (.iconst 1, 1) := by decide +kernel
theorem dX5_takeDay_45 : decode cX5_takeDay 45 = .ok (.iadd, 1) := by decide +kernel
theorem dX5_takeDay_46 : decode cX5_takeDay 46 = .ok (.ireturn, 1) := by decide +kernel
theorem dX5_takeDay_47 : decode cX5_takeDay 47 = .ok (.aload_n 0, 1) := by decide +kernel
theorem dX5_takeDay_48 : decode cX5_takeDay 48 = .ok (.bipush 59, 2) := by decide +kernel
theorem dX5_takeDay_50 : decode cX5_takeDay 50 = .ok (.invokevirtual 33, 3) := by decide +kernel
theorem dX5_takeDay_53 : decode cX5_takeDay 53 = .ok (.ifCond .ne 5, 3) := by decide +kernel
theorem dX5_takeDay_56 : decode cX5_takeDay 56 = .ok (.iconst (-1), 1) := by decide +kernel
theorem dX5_takeDay_57 : decode cX5_takeDay 57 = .ok (.ireturn, 1) := by decide +kernel
theorem dX5_takeDay_58 : decode cX5_takeDay 58 = .ok (.iinc 4 1, 3) := by decide +kernel
theorem dX5_takeDay_61 : decode cX5_takeDay 61 = .ok (.goto (-53), 3) := by decide +kernel
theorem dX5_takeDay_64 : decode cX5_takeDay 64 = .ok (.iconst (-1), 1) := by decide +kernel
theorem dX5_takeDay_65 : decode cX5_takeDay 65 = .ok (.ireturn, 1) := by decide +kernel
theorem dX5_takeReading_0 : decode cX5_takeReading 0 = .ok (.aload_n 0, 1) := by decide +kernel
theorem dX5_takeReading_1 : decode cX5_takeReading 1 = .ok (.iload_n 1, 1) := by decide +kernel
theorem dX5_takeReading_2 : decode cX5_takeReading 2 = .ok (.invokevirtual 41, 3) := by decide +kernel
theorem dX5_takeReading_5 : decode cX5_takeReading 5 = .ok (.istore_n 3, 1) := by decide +kernel
theorem dX5_takeReading_6 : decode cX5_takeReading 6 = .ok (.iload_n 3, 1) := by decide +kernel
theorem dX5_takeReading_7 : decode cX5_takeReading 7 = .ok (.ifCond .ge 5, 3) := by decide +kernel
theorem dX5_takeReading_10 : decode cX5_takeReading 10 = .ok (.iconst (-1), 1) := by decide +kernel
theorem dX5_takeReading_11 : decode cX5_takeReading 11 = .ok (.ireturn, 1) := by decide +kernel
theorem dX5_takeReading_12 : decode cX5_takeReading 12 = .ok (.aload_n 0, 1) := by decide +kernel
theorem dX5_takeReading_13 : decode cX5_takeReading 13 = .ok (.bipush 6, 2) := by decide +kernel
theorem dX5_takeReading_15 : decode cX5_takeReading 15 = .ok (.invokevirtual 41, 3) := by decide +kernel
theorem dX5_takeReading_18 : decode cX5_takeReading 18 = .ok (.istore 4, 2) := by decide +kernel
theorem dX5_takeReading_20 : decode cX5_takeReading 20 = .ok (.iload 4, 2) := by decide +kernel
theorem dX5_takeReading_22 : decode cX5_takeReading 22 = .ok (.ifCond .ge 5, 3) := by decide +kernel
theorem dX5_takeReading_25 : decode cX5_takeReading 25 = .ok (.iconst (-1), 1) := by decide +kernel
theorem dX5_takeReading_26 : decode cX5_takeReading 26 = .ok (.ireturn, 1) := by decide +kernel
theorem dX5_takeReading_27 : decode cX5_takeReading 27 = .ok (.aload_n 0, 1) := by decide +kernel
theorem dX5_takeReading_28 : decode cX5_takeReading 28 = .ok (.bipush 6, 2) := by decide +kernel
theorem dX5_takeReading_30 : decode cX5_takeReading 30 = .ok (.invokevirtual 41, 3) := by decide +kernel
theorem dX5_takeReading_33 : decode cX5_takeReading 33 = .ok (.istore 5, 2) := by decide +kernel
theorem dX5_takeReading_35 : decode cX5_takeReading 35 = .ok (.iload 5, 2) := by decide +kernel
theorem dX5_takeReading_37 : decode cX5_takeReading 37 = .ok (.ifCond .ge 5, 3) := by decide +kernel
theorem dX5_takeReading_40 : decode cX5_takeReading 40 = .ok (.iconst (-1), 1) := by decide +kernel
theorem dX5_takeReading_41 : decode cX5_takeReading 41 = .ok (.ireturn, 1) := by decide +kernel
theorem dX5_takeReading_42 : decode cX5_takeReading 42 = .ok (.aload_n 0, 1) := by decide +kernel
theorem dX5_takeReading_43 : decode cX5_takeReading 43 = .ok (.invokevirtual 29, 3) := by decide +kernel
theorem dX5_takeReading_46 : decode cX5_takeReading 46 = .ok (.bipush 97, 2) := by decide +kernel
theorem dX5_takeReading_48 : decode cX5_takeReading 48 = .ok (.isub, 1) := by decide +kernel
theorem dX5_takeReading_49 : decode cX5_takeReading 49 = .ok (.istore 6, 2) := by decide +kernel
theorem dX5_takeReading_51 : decode cX5_takeReading 51 = .ok (.iload 6, 2) := by decide +kernel
theorem dX5_takeReading_53 : decode cX5_takeReading 53 = .ok (.ifCond .lt 9, 3) := by decide +kernel
theorem dX5_takeReading_56 : decode cX5_takeReading 56 = .ok (.iload 6, 2) := by decide +kernel
theorem dX5_takeReading_58 : decode cX5_takeReading 58 = .ok (.iload_n 2, 1) := by decide +kernel
theorem dX5_takeReading_59 : decode cX5_takeReading 59 = .ok (.if_icmp .lt 5, 3) := by decide +kernel
theorem dX5_takeReading_62 : decode cX5_takeReading 62 = .ok (.iconst (-1), 1) := by decide +kernel
theorem dX5_takeReading_63 : decode cX5_takeReading 63 = .ok (.ireturn, 1) := by decide +kernel
theorem dX5_takeReading_64 : decode cX5_takeReading 64 = .ok (.aload_n 0, 1) := by decide +kernel
theorem dX5_takeReading_65 : decode cX5_takeReading 65 = .ok (.dup, 1) := by decide +kernel
theorem dX5_takeReading_66 : decode cX5_takeReading 66 = .ok (.getfield 15, 3) := by decide +kernel
theorem dX5_takeReading_69 : decode cX5_takeReading 69 = .ok (.iconst 1, 1) := by decide +kernel
theorem dX5_takeReading_70 : decode cX5_takeReading 70 = .ok (.iadd, 1) := by decide +kernel
theorem dX5_takeReading_71 : decode cX5_takeReading 71 = .ok (.putfield 15, 3) := by decide +kernel
theorem dX5_takeReading_74 : decode cX5_takeReading 74 = .ok (.iload_n 3, 1) := by decide +kernel
theorem dX5_takeReading_75 : decode cX5_takeReading 75 = .ok (.bipush 36, 2) := by decide +kernel
theorem dX5_takeReading_77 : decode cX5_takeReading 77 = .ok (.imul, 1) := by decide +kernel
theorem dX5_takeReading_78 : decode cX5_takeReading 78 = .ok (.bipush 6, 2) := by decide +kernel
theorem dX5_takeReading_80 : decode cX5_takeReading 80 = .ok (.iload 4, 2) := by decide +kernel
theorem dX5_takeReading_82 : decode cX5_takeReading 82 = .ok (.imul, 1) := by decide +kernel
theorem dX5_takeReading_83 : decode cX5_takeReading 83 = .ok (.iadd, 1) := by decide +kernel
theorem dX5_takeReading_84 : decode cX5_takeReading 84 = .ok (.iload 5, 2) := by decide +kernel
theorem dX5_takeReading_86 : decode cX5_takeReading 86 = .ok (.iadd, 1) := by decide +kernel
theorem dX5_takeReading_87 : decode cX5_takeReading 87 = .ok (.bipush 12, 2) := by decide +kernel
theorem dX5_takeReading_89 : decode cX5_takeReading 89 = .ok (.imul, 1) := by decide +kernel
theorem dX5_takeReading_90 : decode cX5_takeReading 90 = .ok (.iload 6, 2) := by decide +kernel
theorem dX5_takeReading_92 : decode cX5_takeReading 92 = .ok (.iadd, 1) := by decide +kernel
theorem dX5_takeReading_93 : decode cX5_takeReading 93 = .ok (.ireturn, 1) := by decide +kernel
theorem dX5_readerIn_0 : decode cX5_readerIn 0 = .ok (.iload_n 0, 1) := by decide +kernel
theorem dX5_readerIn_1 : decode cX5_readerIn 1 = .ok (.bipush 12, 2) := by decide +kernel
theorem dX5_readerIn_3 : decode cX5_readerIn 3 = .ok (.idiv, 1) := by decide +kernel
theorem dX5_readerIn_4 : decode cX5_readerIn 4 = .ok (.bipush 36, 2) := by decide +kernel
theorem dX5_readerIn_6 : decode cX5_readerIn 6 = .ok (.idiv, 1) := by decide +kernel
theorem dX5_readerIn_7 : decode cX5_readerIn 7 = .ok (.ireturn, 1) := by decide +kernel
theorem dX5_placeIn_0 : decode cX5_placeIn 0 = .ok (.iload_n 0, 1) := by decide +kernel
theorem dX5_placeIn_1 : decode cX5_placeIn 1 = .ok (.bipush 12, 2) := by decide +kernel
theorem dX5_placeIn_3 : decode cX5_placeIn 3 = .ok (.idiv, 1) := by decide +kernel
theorem dX5_placeIn_4 : decode cX5_placeIn 4 = .ok (.bipush 36, 2) := by decide +kernel
theorem dX5_placeIn_6 : decode cX5_placeIn 6 = .ok (.irem, 1) := by decide +kernel
theorem dX5_placeIn_7 : decode cX5_placeIn 7 = .ok (.ireturn, 1) := by decide +kernel
theorem dX5_newsIn_0 : decode cX5_newsIn 0 = .ok (.iload_n 0, 1) := by decide +kernel
theorem dX5_newsIn_1 : decode cX5_newsIn 1 = .ok (.bipush 12, 2) := by decide +kernel
theorem dX5_newsIn_3 : decode cX5_newsIn 3 = .ok (.irem, 1) := by decide +kernel
theorem dX5_newsIn_4 : decode cX5_newsIn 4 = .ok (.ireturn, 1) := by decide +kernel
theorem dX5_nextLetter_0 : decode cX5_nextLetter 0 = .ok (.aload_n 0, 1) := by decide +kernel
theorem dX5_nextLetter_1 : decode cX5_nextLetter 1 = .ok (.getfield 15, 3) := by decide +kernel
theorem dX5_nextLetter_4 : decode cX5_nextLetter 4 = .ok (.aload_n 0, 1) := by decide +kernel
theorem dX5_nextLetter_5 : decode cX5_nextLetter 5 = .ok (.getfield 9, 3) := by decide +kernel
theorem dX5_nextLetter_8 : decode cX5_nextLetter 8 = .ok (.if_icmp .ge 40, 3) := by decide +kernel
theorem dX5_nextLetter_11 : decode cX5_nextLetter 11 = .ok (.aload_n 0, 1) := by decide +kernel
theorem dX5_nextLetter_12 : decode cX5_nextLetter 12 = .ok (.getfield 18, 3) := by decide +kernel
theorem dX5_nextLetter_15 : decode cX5_nextLetter 15 = .ok (.aload_n 0, 1) := by decide +kernel
theorem dX5_nextLetter_16 : decode cX5_nextLetter 16 = .ok (.getfield 15, 3) := by decide +kernel
theorem dX5_nextLetter_19 : decode cX5_nextLetter 19 = .ok (.baload, 1) := by decide +kernel
theorem dX5_nextLetter_20 : decode cX5_nextLetter 20 = .ok (.bipush 32, 2) := by decide +kernel
theorem dX5_nextLetter_22 : decode cX5_nextLetter 22 = .ok (.if_icmp .eq 13, 3) := by decide +kernel
theorem dX5_nextLetter_25 : decode cX5_nextLetter 25 = .ok (.aload_n 0, 1) := by decide +kernel
theorem dX5_nextLetter_26 : decode cX5_nextLetter 26 = .ok (.getfield 18, 3) := by decide +kernel
theorem dX5_nextLetter_29 : decode cX5_nextLetter 29 = .ok (.aload_n 0, 1) := by decide +kernel
theorem dX5_nextLetter_30 : decode cX5_nextLetter 30 = .ok (.getfield 15, 3) := by decide +kernel
theorem dX5_nextLetter_33 : decode cX5_nextLetter 33 = .ok (.baload, 1) := by decide +kernel
theorem dX5_nextLetter_34 : decode cX5_nextLetter 34 = .ok (.ireturn, 1) := by decide +kernel
theorem dX5_nextLetter_35 : decode cX5_nextLetter 35 = .ok (.aload_n 0, 1) := by decide +kernel
theorem dX5_nextLetter_36 : decode cX5_nextLetter 36 = .ok (.dup, 1) := by decide +kernel
theorem dX5_nextLetter_37 : decode cX5_nextLetter 37 = .ok (.getfield 15, 3) := by decide +kernel
theorem dX5_nextLetter_40 : decode cX5_nextLetter 40 = .ok (.iconst 1, 1) := by decide +kernel
theorem dX5_nextLetter_41 : decode cX5_nextLetter 41 = .ok (.iadd, 1) := by decide +kernel
theorem dX5_nextLetter_42 : decode cX5_nextLetter 42 = .ok (.putfield 15, 3) := by decide +kernel
theorem dX5_nextLetter_45 : decode cX5_nextLetter 45 = .ok (.goto (-45), 3) := by decide +kernel
theorem dX5_nextLetter_48 : decode cX5_nextLetter 48 = .ok (.iconst (-1), 1) := by decide +kernel
theorem dX5_nextLetter_49 : decode cX5_nextLetter 49 = .ok (.ireturn, 1) := by decide +kernel
theorem dX5_takes_0 : decode cX5_takes 0 = .ok (.aload_n 0, 1) := by decide +kernel
theorem dX5_takes_1 : decode cX5_takes 1 = .ok (.invokevirtual 29, 3) := by decide +kernel
theorem dX5_takes_4 : decode cX5_takes 4 = .ok (.iload_n 1, 1) := by decide +kernel
theorem dX5_takes_5 : decode cX5_takes 5 = .ok (.if_icmp .eq 5, 3) := by decide +kernel
theorem dX5_takes_8 : decode cX5_takes 8 = .ok (.iconst 0, 1) := by decide +kernel
theorem dX5_takes_9 : decode cX5_takes 9 = .ok (.ireturn, 1) := by decide +kernel
theorem dX5_takes_10 : decode cX5_takes 10 = .ok (.aload_n 0, 1) := by decide +kernel
theorem dX5_takes_11 : decode cX5_takes 11 = .ok (.dup, 1) := by decide +kernel
theorem dX5_takes_12 : decode cX5_takes 12 = .ok (.getfield 15, 3) := by decide +kernel
theorem dX5_takes_15 : decode cX5_takes 15 = .ok (.iconst 1, 1) := by decide +kernel
theorem dX5_takes_16 : decode cX5_takes 16 = .ok (.iadd, 1) := by decide +kernel
theorem dX5_takes_17 : decode cX5_takes 17 = .ok (.putfield 15, 3) := by decide +kernel
theorem dX5_takes_20 : decode cX5_takes 20 = .ok (.iconst 1, 1) := by decide +kernel
theorem dX5_takes_21 : decode cX5_takes 21 = .ok (.ireturn, 1) := by decide +kernel
theorem dX5_takeFigure_0 : decode cX5_takeFigure 0 = .ok (.aload_n 0, 1) := by decide +kernel
theorem dX5_takeFigure_1 : decode cX5_takeFigure 1 = .ok (.invokevirtual 29, 3) := by decide +kernel
theorem dX5_takeFigure_4 : decode cX5_takeFigure 4 = .ok (.bipush 48, 2) := by decide +kernel
theorem dX5_takeFigure_6 : decode cX5_takeFigure 6 = .ok (.isub, 1) := by decide +kernel
theorem dX5_takeFigure_7 : decode cX5_takeFigure 7 = .ok (.istore_n 2, 1) := by decide +kernel
theorem dX5_takeFigure_8 : decode cX5_takeFigure 8 = .ok (.iload_n 2, 1) := by decide +kernel
theorem dX5_takeFigure_9 : decode cX5_takeFigure 9 = .ok (.ifCond .lt 8, 3) := by decide +kernel
theorem dX5_takeFigure_12 : decode cX5_takeFigure 12 = .ok (.iload_n 2, 1) := by decide +kernel
theorem dX5_takeFigure_13 : decode cX5_takeFigure 13 = .ok (.iload_n 1, 1) := by decide +kernel
theorem dX5_takeFigure_14 : decode cX5_takeFigure 14 = .ok (.if_icmp .lt 5, 3) := by decide +kernel
theorem dX5_takeFigure_17 : decode cX5_takeFigure 17 = .ok (.iconst (-1), 1) := by decide +kernel
theorem dX5_takeFigure_18 : decode cX5_takeFigure 18 = .ok (.ireturn, 1) := by decide +kernel
theorem dX5_takeFigure_19 : decode cX5_takeFigure 19 = .ok (.aload_n 0, 1) := by decide +kernel
theorem dX5_takeFigure_20 : decode cX5_takeFigure 20 = .ok (.dup, 1) := by decide +kernel
theorem dX5_takeFigure_21 : decode cX5_takeFigure 21 = .ok (.getfield 15, 3) := by decide +kernel
theorem dX5_takeFigure_24 : decode cX5_takeFigure 24 = .ok (.iconst 1, 1) := by decide +kernel
theorem dX5_takeFigure_25 : decode cX5_takeFigure 25 = .ok (.iadd, 1) := by decide +kernel
theorem dX5_takeFigure_26 : decode cX5_takeFigure 26 = .ok (.putfield 15, 3) := by decide +kernel
theorem dX5_takeFigure_29 : decode cX5_takeFigure 29 = .ok (.iload_n 2, 1) := by decide +kernel
theorem dX5_takeFigure_30 : decode cX5_takeFigure 30 = .ok (.ireturn, 1) := by decide +kernel
theorem dX5_takeNumber_0 : decode cX5_takeNumber 0 = .ok (.aload_n 0, 1) := by decide +kernel
theorem dX5_takeNumber_1 : decode cX5_takeNumber 1 = .ok (.invokevirtual 29, 3) := by decide +kernel
theorem dX5_takeNumber_4 : decode cX5_takeNumber 4 = .ok (.pop, 1) := by decide +kernel
theorem dX5_takeNumber_5 : decode cX5_takeNumber 5 = .ok (.aload_n 0, 1) := by decide +kernel
theorem dX5_takeNumber_6 : decode cX5_takeNumber 6 = .ok (.getfield 15, 3) := by decide +kernel
theorem dX5_takeNumber_9 : decode cX5_takeNumber 9 = .ok (.istore_n 2, 1) := by decide +kernel
theorem dX5_takeNumber_10 : decode cX5_takeNumber 10 = .ok (.iconst 0, 1) := by decide +kernel
theorem dX5_takeNumber_11 : decode cX5_takeNumber 11 = .ok (.istore_n 3, 1) := by decide +kernel
theorem dX5_takeNumber_12 : decode cX5_takeNumber 12 = .ok (.aload_n 0, 1) := by decide +kernel
theorem dX5_takeNumber_13 : decode cX5_takeNumber 13 = .ok (.getfield 15, 3) := by decide +kernel
theorem dX5_takeNumber_16 : decode cX5_takeNumber 16 = .ok (.aload_n 0, 1) := by decide +kernel
theorem dX5_takeNumber_17 : decode cX5_takeNumber 17 = .ok (.getfield 9, 3) := by decide +kernel
theorem dX5_takeNumber_20 : decode cX5_takeNumber 20 = .ok (.if_icmp .ge 68, 3) := by decide +kernel
theorem dX5_takeNumber_23 : decode cX5_takeNumber 23 = .ok (.aload_n 0, 1) := by decide +kernel
theorem dX5_takeNumber_24 : decode cX5_takeNumber 24 = .ok (.getfield 18, 3) := by decide +kernel
theorem dX5_takeNumber_27 : decode cX5_takeNumber 27 = .ok (.aload_n 0, 1) := by decide +kernel
theorem dX5_takeNumber_28 : decode cX5_takeNumber 28 = .ok (.getfield 15, 3) := by decide +kernel
theorem dX5_takeNumber_31 : decode cX5_takeNumber 31 = .ok (.baload, 1) := by decide +kernel
theorem dX5_takeNumber_32 : decode cX5_takeNumber 32 = .ok (.bipush 48, 2) := by decide +kernel
theorem dX5_takeNumber_34 : decode cX5_takeNumber 34 = .ok (.if_icmp .lt 54, 3) := by decide +kernel
theorem dX5_takeNumber_37 : decode cX5_takeNumber 37 = .ok (.aload_n 0, 1) := by decide +kernel
theorem dX5_takeNumber_38 : decode cX5_takeNumber 38 = .ok (.getfield 18, 3) := by decide +kernel
theorem dX5_takeNumber_41 : decode cX5_takeNumber 41 = .ok (.aload_n 0, 1) := by decide +kernel
theorem dX5_takeNumber_42 : decode cX5_takeNumber 42 = .ok (.getfield 15, 3) := by decide +kernel
theorem dX5_takeNumber_45 : decode cX5_takeNumber 45 = .ok (.baload, 1) := by decide +kernel
theorem dX5_takeNumber_46 : decode cX5_takeNumber 46 = .ok (.bipush 57, 2) := by decide +kernel
theorem dX5_takeNumber_48 : decode cX5_takeNumber 48 = .ok (.if_icmp .gt 40, 3) := by decide +kernel
theorem dX5_takeNumber_51 : decode cX5_takeNumber 51 = .ok (.iload_n 3, 1) := by decide +kernel
theorem dX5_takeNumber_52 : decode cX5_takeNumber 52 = .ok (.bipush 10, 2) := by decide +kernel
theorem dX5_takeNumber_54 : decode cX5_takeNumber 54 = .ok (.imul, 1) := by decide +kernel
theorem dX5_takeNumber_55 : decode cX5_takeNumber 55 = .ok (.aload_n 0, 1) := by decide +kernel
theorem dX5_takeNumber_56 : decode cX5_takeNumber 56 = .ok (.getfield 18, 3) := by decide +kernel
theorem dX5_takeNumber_59 : decode cX5_takeNumber 59 = .ok (.aload_n 0, 1) := by decide +kernel
theorem dX5_takeNumber_60 : decode cX5_takeNumber 60 = .ok (.getfield 15, 3) := by decide +kernel
theorem dX5_takeNumber_63 : decode cX5_takeNumber 63 = .ok (.baload, 1) := by decide +kernel
theorem dX5_takeNumber_64 : decode cX5_takeNumber 64 = .ok (.iadd, 1) := by decide +kernel
theorem dX5_takeNumber_65 : decode cX5_takeNumber 65 = .ok (.bipush 48, 2) := by decide +kernel
theorem dX5_takeNumber_67 : decode cX5_takeNumber 67 = .ok (.isub, 1) := by decide +kernel
theorem dX5_takeNumber_68 : decode cX5_takeNumber 68 = .ok (.sipush 1000, 3) := by decide +kernel
theorem dX5_takeNumber_71 : decode cX5_takeNumber 71 = .ok (.invokestatic 83, 3) := by decide +kernel
theorem dX5_takeNumber_74 : decode cX5_takeNumber 74 = .ok (.istore_n 3, 1) := by decide +kernel
theorem dX5_takeNumber_75 : decode cX5_takeNumber 75 = .ok (.aload_n 0, 1) := by decide +kernel
theorem dX5_takeNumber_76 : decode cX5_takeNumber 76 = .ok (.dup, 1) := by decide +kernel
theorem dX5_takeNumber_77 : decode cX5_takeNumber 77 = .ok (.getfield 15, 3) := by decide +kernel
theorem dX5_takeNumber_80 : decode cX5_takeNumber 80 = .ok (.iconst 1, 1) := by decide +kernel
theorem dX5_takeNumber_81 : decode cX5_takeNumber 81 = .ok (.iadd, 1) := by decide +kernel
theorem dX5_takeNumber_82 : decode cX5_takeNumber 82 = .ok (.putfield 15, 3) := by decide +kernel
theorem dX5_takeNumber_85 : decode cX5_takeNumber 85 = .ok (.goto (-73), 3) := by decide +kernel
theorem dX5_takeNumber_88 : decode cX5_takeNumber 88 = .ok (.aload_n 0, 1) := by decide +kernel
theorem dX5_takeNumber_89 : decode cX5_takeNumber 89 = .ok (.getfield 15, 3) := by decide +kernel
theorem dX5_takeNumber_92 : decode cX5_takeNumber 92 = .ok (.iload_n 2, 1) := by decide +kernel
theorem dX5_takeNumber_93 : decode cX5_takeNumber 93 = .ok (.if_icmp .le 10, 3) := by decide +kernel
theorem dX5_takeNumber_96 : decode cX5_takeNumber 96 = .ok (.iload_n 3, 1) := by decide +kernel
theorem dX5_takeNumber_97 : decode cX5_takeNumber 97 = .ok (.iload_n 1, 1) := by decide +kernel
theorem dX5_takeNumber_98 : decode cX5_takeNumber 98 = .ok (.if_icmp .gt 5, 3) := by decide +kernel
theorem dX5_takeNumber_101 : decode cX5_takeNumber 101 = .ok (.iload_n 3, 1) := by decide +kernel
theorem dX5_takeNumber_102 : decode cX5_takeNumber 102 = .ok (.ireturn, 1) := by decide +kernel
theorem dX5_takeNumber_103 : decode cX5_takeNumber 103 = .ok (.aload_n 0, 1) := by decide +kernel
theorem dX5_takeNumber_104 : decode cX5_takeNumber 104 = .ok (.iload_n 2, 1) := by decide +kernel
theorem dX5_takeNumber_105 : decode cX5_takeNumber 105 = .ok (.putfield 15, 3) := by decide +kernel
theorem dX5_takeNumber_108 : decode cX5_takeNumber 108 = .ok (.iconst (-1), 1) := by decide +kernel
theorem dX5_takeNumber_109 : decode cX5_takeNumber 109 = .ok (.ireturn, 1) := by decide +kernel
theorem dJ6_compare_7cf53_0 : decode cJ6_compare_7cf53 0 = .ok (.iload_n 0, 1) := by decide +kernel
theorem dJ6_compare_7cf53_1 : decode cJ6_compare_7cf53 1 = .ok (.iload_n 1, 1) := by decide +kernel
theorem dJ6_compare_7cf53_2 : decode cJ6_compare_7cf53 2 = .ok (.if_icmp .ge 7, 3) := by decide +kernel
theorem dJ6_compare_7cf53_5 : decode cJ6_compare_7cf53 5 = .ok (.iconst (-1), 1) := by decide +kernel
theorem dJ6_compare_7cf53_6 : decode cJ6_compare_7cf53 6 = .ok (.goto 13, 3) := by decide +kernel
theorem dJ6_compare_7cf53_9 : decode cJ6_compare_7cf53 9 = .ok (.iload_n 0, 1) := by decide +kernel
theorem dJ6_compare_7cf53_10 : decode cJ6_compare_7cf53 10 = .ok (.iload_n 1, 1) := by decide +kernel
theorem dJ6_compare_7cf53_11 : decode cJ6_compare_7cf53 11 = .ok (.if_icmp .ne 7, 3) := by decide +kernel
theorem dJ6_compare_7cf53_14 : decode cJ6_compare_7cf53 14 = .ok (.iconst 0, 1) := by decide +kernel
theorem dJ6_compare_7cf53_15 : decode cJ6_compare_7cf53 15 = .ok (.goto 4, 3) := by decide +kernel
theorem dJ6_compare_7cf53_18 : decode cJ6_compare_7cf53 18 = .ok (.iconst 1, 1) := by decide +kernel
theorem dJ6_compare_7cf53_19 : decode cJ6_compare_7cf53 19 = .ok (.ireturn, 1) := by decide +kernel
theorem dJ6_bitCount_0f7a4_0 : decode cJ6_bitCount_0f7a4 0 = .ok (.iload_n 0, 1) := by decide +kernel
theorem dJ6_bitCount_0f7a4_1 : decode cJ6_bitCount_0f7a4 1 = .ok (.iload_n 0, 1) := by decide +kernel
theorem dJ6_bitCount_0f7a4_2 : decode cJ6_bitCount_0f7a4 2 = .ok (.iconst 1, 1) := by decide +kernel
theorem dJ6_bitCount_0f7a4_3 : decode cJ6_bitCount_0f7a4 3 = .ok (.iushr, 1) := by decide +kernel
theorem dJ6_bitCount_0f7a4_4 : decode cJ6_bitCount_0f7a4 4 = .ok (.ldc_w 265, 3) := by decide +kernel
theorem dJ6_bitCount_0f7a4_7 : decode cJ6_bitCount_0f7a4 7 = .ok (.iand, 1) := by decide +kernel
theorem dJ6_bitCount_0f7a4_8 : decode cJ6_bitCount_0f7a4 8 = .ok (.isub, 1) := by decide +kernel
theorem dJ6_bitCount_0f7a4_9 : decode cJ6_bitCount_0f7a4 9 = .ok (.istore_n 0, 1) := by decide +kernel
theorem dJ6_bitCount_0f7a4_10 : decode cJ6_bitCount_0f7a4 10 = .ok (.iload_n 0, 1) := by decide +kernel
theorem dJ6_bitCount_0f7a4_11 : decode cJ6_bitCount_0f7a4 11 = .ok (.ldc_w 266, 3) := by decide +kernel
theorem dJ6_bitCount_0f7a4_14 : decode cJ6_bitCount_0f7a4 14 = .ok (.iand, 1) := by decide +kernel
theorem dJ6_bitCount_0f7a4_15 : decode cJ6_bitCount_0f7a4 15 = .ok (.iload_n 0, 1) := by decide +kernel
theorem dJ6_bitCount_0f7a4_16 : decode cJ6_bitCount_0f7a4 16 = .ok (.iconst 2, 1) := by decide +kernel
theorem dJ6_bitCount_0f7a4_17 : decode cJ6_bitCount_0f7a4 17 = .ok (.iushr, 1) := by decide +kernel
theorem dJ6_bitCount_0f7a4_18 : decode cJ6_bitCount_0f7a4 18 = .ok (.ldc_w 266, 3) := by decide +kernel
theorem dJ6_bitCount_0f7a4_21 : decode cJ6_bitCount_0f7a4 21 = .ok (.iand, 1) := by decide +kernel
theorem dJ6_bitCount_0f7a4_22 : decode cJ6_bitCount_0f7a4 22 = .ok (.iadd, 1) := by decide +kernel
theorem dJ6_bitCount_0f7a4_23 : decode cJ6_bitCount_0f7a4 23 = .ok (.istore_n 0, 1) := by decide +kernel
theorem dJ6_bitCount_0f7a4_24 : decode cJ6_bitCount_0f7a4 24 = .ok (.iload_n 0, 1) := by decide +kernel
theorem dJ6_bitCount_0f7a4_25 : decode cJ6_bitCount_0f7a4 25 = .ok (.iload_n 0, 1) := by decide +kernel
theorem dJ6_bitCount_0f7a4_26 : decode cJ6_bitCount_0f7a4 26 = .ok (.iconst 4, 1) := by decide +kernel
theorem dJ6_bitCount_0f7a4_27 : decode cJ6_bitCount_0f7a4 27 = .ok (.iushr, 1) := by decide +kernel
theorem dJ6_bitCount_0f7a4_28 : decode cJ6_bitCount_0f7a4 28 = .ok (.iadd, 1) := by decide +kernel
theorem dJ6_bitCount_0f7a4_29 : decode cJ6_bitCount_0f7a4 29 = .ok (.ldc_w 267, 3) := by decide +kernel
theorem dJ6_bitCount_0f7a4_32 : decode cJ6_bitCount_0f7a4 32 = .ok (.iand, 1) := by decide +kernel
theorem dJ6_bitCount_0f7a4_33 : decode cJ6_bitCount_0f7a4 33 = .ok (.istore_n 0, 1) := by decide +kernel
theorem dJ6_bitCount_0f7a4_34 : decode cJ6_bitCount_0f7a4 34 = .ok (.iload_n 0, 1) := by decide +kernel
theorem dJ6_bitCount_0f7a4_35 : decode cJ6_bitCount_0f7a4 35 = .ok (.iload_n 0, 1) := by decide +kernel
theorem dJ6_bitCount_0f7a4_36 : decode cJ6_bitCount_0f7a4 36 = .ok (.bipush 8, 2) := by decide +kernel
theorem dJ6_bitCount_0f7a4_38 : decode cJ6_bitCount_0f7a4 38 = .ok (.iushr, 1) := by decide +kernel
theorem dJ6_bitCount_0f7a4_39 : decode cJ6_bitCount_0f7a4 39 = .ok (.iadd, 1) := by decide +kernel
theorem dJ6_bitCount_0f7a4_40 : decode cJ6_bitCount_0f7a4 40 = .ok (.istore_n 0, 1) := by decide +kernel
theorem dJ6_bitCount_0f7a4_41 : decode cJ6_bitCount_0f7a4 41 = .ok (.iload_n 0, 1) := by decide +kernel
theorem dJ6_bitCount_0f7a4_42 : decode cJ6_bitCount_0f7a4 42 = .ok (.iload_n 0, 1) := by decide +kernel
theorem dJ6_bitCount_0f7a4_43 : decode cJ6_bitCount_0f7a4 43 = .ok (.bipush 16, 2) := by decide +kernel
theorem dJ6_bitCount_0f7a4_45 : decode cJ6_bitCount_0f7a4 45 = .ok (.iushr, 1) := by decide +kernel
theorem dJ6_bitCount_0f7a4_46 : decode cJ6_bitCount_0f7a4 46 = .ok (.iadd, 1) := by decide +kernel
theorem dJ6_bitCount_0f7a4_47 : decode cJ6_bitCount_0f7a4 47 = .ok (.istore_n 0, 1) := by decide +kernel
theorem dJ6_bitCount_0f7a4_48 : decode cJ6_bitCount_0f7a4 48 = .ok (.iload_n 0, 1) := by decide +kernel
theorem dJ6_bitCount_0f7a4_49 : decode cJ6_bitCount_0f7a4 49 = .ok (.bipush 63, 2) := by decide +kernel
theorem dJ6_bitCount_0f7a4_51 : decode cJ6_bitCount_0f7a4 51 = .ok (.iand, 1) := by decide +kernel
theorem dJ6_bitCount_0f7a4_52 : decode cJ6_bitCount_0f7a4 52 = .ok (.ireturn, 1) := by decide +kernel
theorem dJ7_fill_d0a16_0 : decode cJ7_fill_d0a16 0 = .ok (.iconst 0, 1) := by decide +kernel
theorem dJ7_fill_d0a16_1 : decode cJ7_fill_d0a16 1 = .ok (.istore_n 3, 1) := by decide +kernel
theorem dJ7_fill_d0a16_2 : decode cJ7_fill_d0a16 2 = .ok (.aload_n 0, 1) := by decide +kernel
theorem dJ7_fill_d0a16_3 : decode cJ7_fill_d0a16 3 = .ok (.arraylength, 1) := by decide +kernel
theorem dJ7_fill_d0a16_4 : decode cJ7_fill_d0a16 4 = .ok (.istore 4, 2) := by decide +kernel
theorem dJ7_fill_d0a16_6 : decode cJ7_fill_d0a16 6 = .ok (.iload_n 3, 1) := by decide +kernel
theorem dJ7_fill_d0a16_7 : decode cJ7_fill_d0a16 7 = .ok (.iload 4, 2) := by decide +kernel
theorem dJ7_fill_d0a16_9 : decode cJ7_fill_d0a16 9 = .ok (.if_icmp .ge 13, 3) := by decide +kernel
theorem dJ7_fill_d0a16_12 : decode cJ7_fill_d0a16 12 = .ok (.aload_n 0, 1) := by decide +kernel
theorem dJ7_fill_d0a16_13 : decode cJ7_fill_d0a16 13 = .ok (.iload_n 3, 1) := by decide +kernel
theorem dJ7_fill_d0a16_14 : decode cJ7_fill_d0a16 14 = .ok (.lload_n 1, 1) := by decide +kernel
theorem dJ7_fill_d0a16_15 : decode cJ7_fill_d0a16 15 = .ok (.lastore, 1) := by decide +kernel
theorem dJ7_fill_d0a16_16 : decode cJ7_fill_d0a16 16 = .ok (.iinc 3 1, 3) := by decide +kernel
theorem dJ7_fill_d0a16_19 : decode cJ7_fill_d0a16 19 = .ok (.goto (-13), 3) := by decide +kernel
theorem dJ7_fill_d0a16_22 : decode cJ7_fill_d0a16 22 = .ok (.return_, 1) := by decide +kernel
theorem dJ7_fill_53178_0 : decode cJ7_fill_53178 0 = .ok (.iconst 0, 1) := by decide +kernel
theorem dJ7_fill_53178_1 : decode cJ7_fill_53178 1 = .ok (.istore_n 2, 1) := by decide +kernel
theorem dJ7_fill_53178_2 : decode cJ7_fill_53178 2 = .ok (.aload_n 0, 1) := by decide +kernel
theorem dJ7_fill_53178_3 : decode cJ7_fill_53178 3 = .ok (.arraylength, 1) := by decide +kernel
theorem dJ7_fill_53178_4 : decode cJ7_fill_53178 4 = .ok (.istore_n 3, 1) := by decide +kernel
theorem dJ7_fill_53178_5 : decode cJ7_fill_53178 5 = .ok (.iload_n 2, 1) := by decide +kernel
theorem dJ7_fill_53178_6 : decode cJ7_fill_53178 6 = .ok (.iload_n 3, 1) := by decide +kernel
theorem dJ7_fill_53178_7 : decode cJ7_fill_53178 7 = .ok (.if_icmp .ge 13, 3) := by decide +kernel
theorem dJ7_fill_53178_10 : decode cJ7_fill_53178 10 = .ok (.aload_n 0, 1) := by decide +kernel
theorem dJ7_fill_53178_11 : decode cJ7_fill_53178 11 = .ok (.iload_n 2, 1) := by decide +kernel
theorem dJ7_fill_53178_12 : decode cJ7_fill_53178 12 = .ok (.iload_n 1, 1) := by decide +kernel
theorem dJ7_fill_53178_13 : decode cJ7_fill_53178 13 = .ok (.iastore, 1) := by decide +kernel
theorem dJ7_fill_53178_14 : decode cJ7_fill_53178 14 = .ok (.iinc 2 1, 3) := by decide +kernel
theorem dJ7_fill_53178_17 : decode cJ7_fill_53178 17 = .ok (.goto (-12), 3) := by decide +kernel
theorem dJ7_fill_53178_20 : decode cJ7_fill_53178 20 = .ok (.return_, 1) := by decide +kernel
theorem dJ9_abs_0f7a4_0 : decode cJ9_abs_0f7a4 0 = .ok (.iload_n 0, 1) := by decide +kernel
theorem dJ9_abs_0f7a4_1 : decode cJ9_abs_0f7a4 1 = .ok (.ifCond .ge 8, 3) := by decide +kernel
theorem dJ9_abs_0f7a4_4 : decode cJ9_abs_0f7a4 4 = .ok (.iload_n 0, 1) := by decide +kernel
theorem dJ9_abs_0f7a4_5 : decode cJ9_abs_0f7a4 5 = .ok (.ineg, 1) := by decide +kernel
theorem dJ9_abs_0f7a4_6 : decode cJ9_abs_0f7a4 6 = .ok (.goto 4, 3) := by decide +kernel
theorem dJ9_abs_0f7a4_9 : decode cJ9_abs_0f7a4 9 = .ok (.iload_n 0, 1) := by decide +kernel
theorem dJ9_abs_0f7a4_10 : decode cJ9_abs_0f7a4 10 = .ok (.ireturn, 1) := by decide +kernel
theorem dJ9_max_7cf53_0 : decode cJ9_max_7cf53 0 = .ok (.iload_n 0, 1) := by decide +kernel
theorem dJ9_max_7cf53_1 : decode cJ9_max_7cf53 1 = .ok (.iload_n 1, 1) := by decide +kernel
theorem dJ9_max_7cf53_2 : decode cJ9_max_7cf53 2 = .ok (.if_icmp .lt 7, 3) := by decide +kernel
theorem dJ9_max_7cf53_5 : decode cJ9_max_7cf53 5 = .ok (.iload_n 0, 1) := by decide +kernel
theorem dJ9_max_7cf53_6 : decode cJ9_max_7cf53 6 = .ok (.goto 4, 3) := by decide +kernel
theorem dJ9_max_7cf53_9 : decode cJ9_max_7cf53 9 = .ok (.iload_n 1, 1) := by decide +kernel
theorem dJ9_max_7cf53_10 : decode cJ9_max_7cf53 10 = .ok (.ireturn, 1) := by decide +kernel
theorem dJ9_min_7cf53_0 : decode cJ9_min_7cf53 0 = .ok (.iload_n 0, 1) := by decide +kernel
theorem dJ9_min_7cf53_1 : decode cJ9_min_7cf53 1 = .ok (.iload_n 1, 1) := by decide +kernel
theorem dJ9_min_7cf53_2 : decode cJ9_min_7cf53 2 = .ok (.if_icmp .gt 7, 3) := by decide +kernel
theorem dJ9_min_7cf53_5 : decode cJ9_min_7cf53 5 = .ok (.iload_n 0, 1) := by decide +kernel
theorem dJ9_min_7cf53_6 : decode cJ9_min_7cf53 6 = .ok (.goto 4, 3) := by decide +kernel
theorem dJ9_min_7cf53_9 : decode cJ9_min_7cf53 9 = .ok (.iload_n 1, 1) := by decide +kernel
theorem dJ9_min_7cf53_10 : decode cJ9_min_7cf53 10 = .ok (.ireturn, 1) := by decide +kernel
