theorem dX0_init_0 : decode cX0_init 0 = .ok (.aload_n 0, 1) := by decide +kernel
theorem dX0_init_1 : decode cX0_init 1 = .ok (.invokespecial 3, 3) := by decide +kernel
theorem dX0_init_4 : decode cX0_init 4 = .ok (.aload_n 0, 1) := by decide +kernel
theorem dX0_init_5 : decode cX0_init 5 = .ok (.new 9, 3) := by decide +kernel
theorem dX0_init_8 : decode cX0_init 8 = .ok (.dup, 1) := by decide +kernel
theorem dX0_init_9 : decode cX0_init 9 = .ok (.bipush 8, 2) := by decide +kernel
theorem dX0_init_11 : decode cX0_init 11 = .ok (.invokespecial 11, 3) := by decide +kernel
theorem dX0_init_14 : decode cX0_init 14 = .ok (.putfield 14, 3) := by decide +kernel
theorem dX0_init_17 : decode cX0_init 17 = .ok (.aload_n 0, 1) := by decide +kernel
theorem dX0_init_18 : decode cX0_init 18 = .ok (.new 9, 3) := by decide +kernel
theorem dX0_init_21 : decode cX0_init 21 = .ok (.dup, 1) := by decide +kernel
theorem dX0_init_22 : decode cX0_init 22 = .ok (.bipush 8, 2) := by decide +kernel
theorem dX0_init_24 : decode cX0_init 24 = .ok (.invokespecial 11, 3) := by decide +kernel
theorem dX0_init_27 : decode cX0_init 27 = .ok (.putfield 20, 3) := by decide +kernel
theorem dX0_init_30 : decode cX0_init 30 = .ok (.aload_n 0, 1) := by decide +kernel
theorem dX0_init_31 : decode cX0_init 31 = .ok (.new 9, 3) := by decide +kernel
theorem dX0_init_34 : decode cX0_init 34 = .ok (.dup, 1) := by decide +kernel
theorem dX0_init_35 : decode cX0_init 35 = .ok (.bipush 8, 2) := by decide +kernel
theorem dX0_init_37 : decode cX0_init 37 = .ok (.invokespecial 11, 3) := by decide +kernel
theorem dX0_init_40 : decode cX0_init 40 = .ok (.putfield 23, 3) := by decide +kernel
theorem dX0_init_43 : decode cX0_init 43 = .ok (.aload_n 0, 1) := by decide +kernel
theorem dX0_init_44 : decode cX0_init 44 = .ok (.new 9, 3) := by decide +kernel
theorem dX0_init_47 : decode cX0_init 47 = .ok (.dup, 1) := by decide +kernel
theorem dX0_init_48 : decode cX0_init 48 = .ok (.bipush 8, 2) := by decide +kernel
theorem dX0_init_50 : decode cX0_init 50 = .ok (.invokespecial 11, 3) := by decide +kernel
theorem dX0_init_53 : decode cX0_init 53 = .ok (.putfield 26, 3) := by decide +kernel
theorem dX0_init_56 : decode cX0_init 56 = .ok (.aload_n 0, 1) := by decide +kernel
theorem dX0_init_57 : decode cX0_init 57 = .ok (.new 9, 3) := by decide +kernel
theorem dX0_init_60 : decode cX0_init 60 = .ok (.dup, 1) := by decide +kernel
theorem dX0_init_61 : decode cX0_init 61 = .ok (.bipush 8, 2) := by decide +kernel
theorem dX0_init_63 : decode cX0_init 63 = .ok (.invokespecial 11, 3) := by decide +kernel
theorem dX0_init_66 : decode cX0_init 66 = .ok (.putfield 29, 3) := by decide +kernel
theorem dX0_init_69 : decode cX0_init 69 = .ok (.aload_n 0, 1) := by decide +kernel
theorem dX0_init_70 : decode cX0_init 70 = .ok (.new 32, 3) := by decide +kernel
theorem dX0_init_73 : decode cX0_init 73 = .ok (.dup, 1) := by decide +kernel
theorem dX0_init_74 : decode cX0_init 74 = .ok (.invokespecial 34, 3) := by decide +kernel
theorem dX0_init_77 : decode cX0_init 77 = .ok (.putfield 35, 3) := by decide +kernel
theorem dX0_init_80 : decode cX0_init 80 = .ok (.aload_n 0, 1) := by decide +kernel
theorem dX0_init_81 : decode cX0_init 81 = .ok (.iconst 0, 1) := by decide +kernel
theorem dX0_init_82 : decode cX0_init 82 = .ok (.putfield 39, 3) := by decide +kernel
theorem dX0_init_85 : decode cX0_init 85 = .ok (.return_, 1) := by decide +kernel
theorem dX0_allSlots_0 : decode cX0_allSlots 0 = .ok (.iconst 1, 1) := by decide +kernel
theorem dX0_allSlots_1 : decode cX0_allSlots 1 = .ok (.aload_n 0, 1) := by decide +kernel
theorem dX0_allSlots_2 : decode cX0_allSlots 2 = .ok (.getfield 43, 3) := by decide +kernel
theorem dX0_allSlots_5 : decode cX0_allSlots 5 = .ok (.ishl, 1) := by decide +kernel
theorem dX0_allSlots_6 : decode cX0_allSlots 6 = .ok (.iconst 1, 1) := by decide +kernel
theorem dX0_allSlots_7 : decode cX0_allSlots 7 = .ok (.isub, 1) := by decide +kernel
theorem dX0_allSlots_8 : decode cX0_allSlots 8 = .ok (.ireturn, 1) := by decide +kernel
theorem dX0_append_0 : decode cX0_append 0 = .ok (.iconst 0, 1) := by decide +kernel
theorem dX0_append_1 : decode cX0_append 1 = .ok (.istore_n 3, 1) := by decide +kernel
theorem dX0_append_2 : decode cX0_append 2 = .ok (.iconst 0, 1) := by decide +kernel
theorem dX0_append_3 : decode cX0_append 3 = .ok (.istore 4, 2) := by decide +kernel
theorem dX0_append_5 : decode cX0_append 5 = .ok (.iload 4, 2) := by decide +kernel
theorem dX0_append_7 : decode cX0_append 7 = .ok (.aload_n 0, 1) := by decide +kernel
theorem dX0_append_8 : decode cX0_append 8 = .ok (.getfield 43, 3) := by decide +kernel
theorem dX0_append_11 : decode cX0_append 11 = .ok (.if_icmp .ge 34, 3) := by decide +kernel
theorem dX0_append_14 : decode cX0_append 14 = .ok (.iload_n 2, 1) := by decide +kernel
theorem dX0_append_15 : decode cX0_append 15 = .ok (.iload 4, 2) := by decide +kernel
theorem dX0_append_17 : decode cX0_append 17 = .ok (.invokestatic 46, 3) := by decide +kernel
theorem dX0_append_20 : decode cX0_append 20 = .ok (.ifCond .eq 19, 3) := by decide +kernel
theorem dX0_append_23 : decode cX0_append 23 = .ok (.iload_n 3, 1) := by decide +kernel
theorem dX0_append_24 : decode cX0_append 24 = .ok (.aload_n 0, 1) := by decide +kernel
theorem dX0_append_25 : decode cX0_append 25 = .ok (.getfield 23, 3) := by decide +kernel
theorem dX0_append_28 : decode cX0_append 28 = .ok (.iload 4, 2) := by decide +kernel
theorem dX0_append_30 : decode cX0_append 30 = .ok (.invokevirtual 50, 3) := by decide +kernel
theorem dX0_append_33 : decode cX0_append 33 = .ok (.iconst 1, 1) := by decide +kernel
theorem dX0_append_34 : decode cX0_append 34 = .ok (.iadd, 1) := by decide +kernel
theorem dX0_append_35 : decode cX0_append 35 = .ok (.invokestatic 54, 3) := by decide +kernel
theorem dX0_append_38 : decode cX0_append 38 = .ok (.istore_n 3, 1) := by decide +kernel
theorem dX0_append_39 : decode cX0_append 39 = .ok (.iinc 4 1, 3) := by decide +kernel
theorem dX0_append_42 : decode cX0_append 42 = .ok (.goto (-37), 3) := by decide +kernel
theorem dX0_append_45 : decode cX0_append 45 = .ok (.aload_n 0, 1) := by decide +kernel
theorem dX0_append_46 : decode cX0_append 46 = .ok (.getfield 14, 3) := by decide +kernel
theorem dX0_append_49 : decode cX0_append 49 = .ok (.aload_n 0, 1) := by decide +kernel
theorem dX0_append_50 : decode cX0_append 50 = .ok (.getfield 43, 3) := by decide +kernel
theorem dX0_append_53 : decode cX0_append 53 = .ok (.iload_n 1, 1) := by decide +kernel
theorem dX0_append_54 : decode cX0_append 54 = .ok (.invokevirtual 60, 3) := by decide +kernel
theorem dX0_append_57 : decode cX0_append 57 = .ok (.aload_n 0, 1) := by decide +kernel
theorem dX0_append_58 : decode cX0_append 58 = .ok (.getfield 20, 3) := by decide +kernel
theorem dX0_append_61 : decode cX0_append 61 = .ok (.aload_n 0, 1) := by decide +kernel
theorem dX0_append_62 : decode cX0_append 62 = .ok (.getfield 43, 3) := by decide +kernel
theorem dX0_append_65 : decode cX0_append 65 = .ok (.iload_n 2, 1) := by decide +kernel
theorem dX0_append_66 : decode cX0_append 66 = .ok (.invokevirtual 60, 3) := by decide +kernel
theorem dX0_append_69 : decode cX0_append 69 = .ok (.aload_n 0, 1) := by decide +kernel
theorem dX0_append_70 : decode cX0_append 70 = .ok (.getfield 23, 3) := by decide +kernel
theorem dX0_append_73 : decode cX0_append 73 = .ok (.aload_n 0, 1) := by decide +kernel
theorem dX0_append_74 : decode cX0_append 74 = .ok (.getfield 43, 3) := by decide +kernel
theorem dX0_append_77 : decode cX0_append 77 = .ok (.iload_n 3, 1) := by decide +kernel
theorem dX0_append_78 : decode cX0_append 78 = .ok (.invokevirtual 60, 3) := by decide +kernel
theorem dX0_append_81 : decode cX0_append 81 = .ok (.aload_n 0, 1) := by decide +kernel
theorem dX0_append_82 : decode cX0_append 82 = .ok (.dup, 1) := by decide +kernel
theorem dX0_append_83 : decode cX0_append 83 = .ok (.getfield 43, 3) := by decide +kernel
theorem dX0_append_86 : decode cX0_append 86 = .ok (.iconst 1, 1) := by decide +kernel
theorem dX0_append_87 : decode cX0_append 87 = .ok (.iadd, 1) := by decide +kernel
theorem dX0_append_88 : decode cX0_append 88 = .ok (.putfield 43, 3) := by decide +kernel
theorem dX0_append_91 : decode cX0_append 91 = .ok (.return_, 1) := by decide +kernel
theorem dX0_nextBehind_0 : decode cX0_nextBehind 0 = .ok (.iconst 0, 1) := by decide +kernel
theorem dX0_nextBehind_1 : decode cX0_nextBehind 1 = .ok (.istore_n 2, 1) := by decide +kernel
theorem dX0_nextBehind_2 : decode cX0_nextBehind 2 = .ok (.iconst 0, 1) := by decide +kernel
theorem dX0_nextBehind_3 : decode cX0_nextBehind 3 = .ok (.istore_n 3, 1) := by decide +kernel
theorem dX0_nextBehind_4 : decode cX0_nextBehind 4 = .ok (.iload_n 3, 1) := by decide +kernel
theorem dX0_nextBehind_5 : decode cX0_nextBehind 5 = .ok (.aload_n 0, 1) := by decide +kernel
theorem dX0_nextBehind_6 : decode cX0_nextBehind 6 = .ok (.getfield 43, 3) := by decide +kernel
theorem dX0_nextBehind_9 : decode cX0_nextBehind 9 = .ok (.if_icmp .ge 38, 3) := by decide +kernel
theorem dX0_nextBehind_12 : decode cX0_nextBehind 12 = .ok (.iload_n 1, 1) := by decide +kernel
theorem dX0_nextBehind_13 : decode cX0_nextBehind 13 = .ok (.iload_n 3, 1) := by decide +kernel
theorem dX0_nextBehind_14 : decode cX0_nextBehind 14 = .ok (.invokestatic 46, 3) := by decide +kernel
theorem dX0_nextBehind_17 : decode cX0_nextBehind 17 = .ok (.ifCond .ne 24, 3) := by decide +kernel
theorem dX0_nextBehind_20 : decode cX0_nextBehind 20 = .ok (.aload_n 0, 1) := by decide +kernel
theorem dX0_nextBehind_21 : decode cX0_nextBehind 21 = .ok (.getfield 20, 3) := by decide +kernel
theorem dX0_nextBehind_24 : decode cX0_nextBehind 24 = .ok (.iload_n 3, 1) := by decide +kernel
theorem dX0_nextBehind_25 : decode cX0_nextBehind 25 = .ok (.invokevirtual 50, 3) := by decide +kernel
theorem dX0_nextBehind_28 : decode cX0_nextBehind 28 = .ok (.iload_n 1, 1) := by decide +kernel
theorem dX0_nextBehind_29 : decode cX0_nextBehind 29 = .ok (.iconst (-1), 1) := by decide +kernel
theorem dX0_nextBehind_30 : decode cX0_nextBehind 30 = .ok (.ixor, 1) := by decide +kernel
theorem dX0_nextBehind_31 : decode cX0_nextBehind 31 = .ok (.iand, 1) := by decide +kernel
theorem dX0_nextBehind_32 : decode cX0_nextBehind 32 = .ok (.ifCond .ne 9, 3) := by decide +kernel
theorem dX0_nextBehind_35 : decode cX0_nextBehind 35 = .ok (.iload_n 2, 1) := by decide +kernel
theorem dX0_nextBehind_36 : decode cX0_nextBehind 36 = .ok (.iconst 1, 1) := by decide +kernel
theorem dX0_nextBehind_37 : decode cX0_nextBehind 37 = .ok (.iload_n 3, 1) := by decide +kernel
theorem dX0_nextBehind_38 : decode cX0_nextBehind 38 = .ok (.ishl, 1) := by decide +kernel
theorem dX0_nextBehind_39 : decode cX0_nextBehind 39 = .ok (.ior, 1) := by decide +kernel
theorem dX0_nextBehind_40 : decode cX0_nextBehind 40 = .ok (.istore_n 2, 1) := by decide +kernel
theorem dX0_nextBehind_41 : decode cX0_nextBehind 41 = .ok (.iinc 3 1, 3) := by decide +kernel
theorem dX0_nextBehind_44 : decode cX0_nextBehind 44 = .ok (.goto (-40), 3) := by decide +kernel
theorem dX0_nextBehind_47 : decode cX0_nextBehind 47 = .ok (.iload_n 2, 1) := by decide +kernel
theorem dX0_nextBehind_48 : decode cX0_nextBehind 48 = .ok (.ireturn, 1) := by decide +kernel
theorem dX0_aheadOf_0 : decode cX0_aheadOf 0 = .ok (.aload_n 0, 1) := by decide +kernel
theorem dX0_aheadOf_1 : decode cX0_aheadOf 1 = .ok (.getfield 20, 3) := by decide +kernel
theorem dX0_aheadOf_4 : decode cX0_aheadOf 4 = .ok (.iload_n 1, 1) := by decide +kernel
theorem dX0_aheadOf_5 : decode cX0_aheadOf 5 = .ok (.invokevirtual 50, 3) := by decide +kernel
theorem dX0_aheadOf_8 : decode cX0_aheadOf 8 = .ok (.istore_n 2, 1) := by decide +kernel
theorem dX0_aheadOf_9 : decode cX0_aheadOf 9 = .ok (.iload_n 1, 1) := by decide +kernel
theorem dX0_aheadOf_10 : decode cX0_aheadOf 10 = .ok (.iconst 1, 1) := by decide +kernel
theorem dX0_aheadOf_11 : decode cX0_aheadOf 11 = .ok (.isub, 1) := by decide +kernel
theorem dX0_aheadOf_12 : decode cX0_aheadOf 12 = .ok (.istore_n 3, 1) := by decide +kernel
theorem dX0_aheadOf_13 : decode cX0_aheadOf 13 = .ok (.iload_n 3, 1) := by decide +kernel
theorem dX0_aheadOf_14 : decode cX0_aheadOf 14 = .ok (.ifCond .lt 28, 3) := by decide +kernel
theorem dX0_aheadOf_17 : decode cX0_aheadOf 17 = .ok (.iload_n 2, 1) := by decide +kernel
theorem dX0_aheadOf_18 : decode cX0_aheadOf 18 = .ok (.iload_n 3, 1) := by decide +kernel
theorem dX0_aheadOf_19 : decode cX0_aheadOf 19 = .ok (.invokestatic 46, 3) := by decide +kernel
theorem dX0_aheadOf_22 : decode cX0_aheadOf 22 = .ok (.ifCond .eq 14, 3) := by decide +kernel
theorem dX0_aheadOf_25 : decode cX0_aheadOf 25 = .ok (.iload_n 2, 1) := by decide +kernel
theorem dX0_aheadOf_26 : decode cX0_aheadOf 26 = .ok (.aload_n 0, 1) := by decide +kernel
theorem dX0_aheadOf_27 : decode cX0_aheadOf 27 = .ok (.getfield 20, 3) := by decide +kernel
theorem dX0_aheadOf_30 : decode cX0_aheadOf 30 = .ok (.iload_n 3, 1) := by decide +kernel
theorem dX0_aheadOf_31 : decode cX0_aheadOf 31 = .ok (.invokevirtual 50, 3) := by decide +kernel
theorem dX0_aheadOf_34 : decode cX0_aheadOf 34 = .ok (.ior, 1) := by decide +kernel
theorem dX0_aheadOf_35 : decode cX0_aheadOf 35 = .ok (.istore_n 2, 1) := by decide +kernel
theorem dX0_aheadOf_36 : decode cX0_aheadOf 36 = .ok (.iinc 3 (-1), 3) := by decide +kernel
theorem dX0_aheadOf_39 : decode cX0_aheadOf 39 = .ok (.goto (-26), 3) := by decide +kernel
theorem dX0_aheadOf_42 : decode cX0_aheadOf 42 = .ok (.iload_n 2, 1) := by decide +kernel
theorem dX0_aheadOf_43 : decode cX0_aheadOf 43 = .ok (.ireturn, 1) := by decide +kernel
theorem dX0_ordersBehind_0 : decode cX0_ordersBehind 0 = .ok (.aload_n 0, 1) := by decide +kernel
theorem dX0_ordersBehind_1 : decode cX0_ordersBehind 1 = .ok (.invokevirtual 64, 3) := by decide +kernel
theorem dX0_ordersBehind_4 : decode cX0_ordersBehind 4 = .ok (.istore_n 3, 1) := by decide +kernel
theorem dX0_ordersBehind_5 : decode cX0_ordersBehind 5 = .ok (.iload_n 1, 1) := by decide +kernel
theorem dX0_ordersBehind_6 : decode cX0_ordersBehind 6 = .ok (.istore 4, 2) := by decide +kernel
theorem dX0_ordersBehind_8 : decode cX0_ordersBehind 8 = .ok (.iload 4, 2) := by decide +kernel
theorem dX0_ordersBehind_10 : decode cX0_ordersBehind 10 = .ok (.iload_n 3, 1) := by decide +kernel
theorem dX0_ordersBehind_11 : decode cX0_ordersBehind 11 = .ok (.if_icmp .gt 16, 3) := by decide +kernel
theorem dX0_ordersBehind_14 : decode cX0_ordersBehind 14 = .ok (.aload_n 2, 1) := by decide +kernel
theorem dX0_ordersBehind_15 : decode cX0_ordersBehind 15 = .ok (.iload 4, 2) := by decide +kernel
theorem dX0_ordersBehind_17 : decode cX0_ordersBehind 17 = .ok (.iconst 0, 1) := by decide +kernel
theorem dX0_ordersBehind_18 : decode cX0_ordersBehind 18 = .ok (.invokevirtual 60, 3) := by decide +kernel
theorem dX0_ordersBehind_21 : decode cX0_ordersBehind 21 = .ok (.iinc 4 1, 3) := by decide +kernel
theorem dX0_ordersBehind_24 : decode cX0_ordersBehind 24 = .ok (.goto (-16), 3) := by decide +kernel
theorem dX0_ordersBehind_27 : decode cX0_ordersBehind 27 = .ok (.aload_n 2, 1) := by decide +kernel
theorem dX0_ordersBehind_28 : decode cX0_ordersBehind 28 = .ok (.iload_n 1, 1) := by decide +kernel
theorem dX0_ordersBehind_29 : decode cX0_ordersBehind 29 = .ok (.iconst 1, 1) := by decide +kernel
theorem dX0_ordersBehind_30 : decode cX0_ordersBehind 30 = .ok (.invokevirtual 60, 3) := by decide +kernel
theorem dX0_ordersBehind_33 : decode cX0_ordersBehind 33 = .ok (.iload_n 1, 1) := by decide +kernel
theorem dX0_ordersBehind_34 : decode cX0_ordersBehind 34 = .ok (.istore 4, 2) := by decide +kernel
theorem dX0_ordersBehind_36 : decode cX0_ordersBehind 36 = .ok (.iload 4, 2) := by decide +kernel
theorem dX0_ordersBehind_38 : decode cX0_ordersBehind 38 = .ok (.iload_n 3, 1) := by decide +kernel
theorem dX0_ordersBehind_39 : decode cX0_ordersBehind 39 = .ok (.if_icmp .ge 87, 3) := by decide +kernel
theorem dX0_ordersBehind_42 : decode cX0_ordersBehind 42 = .ok (.aload_n 2, 1) := by decide +kernel
theorem dX0_ordersBehind_43 : decode cX0_ordersBehind 43 = .ok (.iload 4, 2) := by decide +kernel
theorem dX0_ordersBehind_45 : decode cX0_ordersBehind 45 = .ok (.invokevirtual 50, 3) := by decide +kernel
theorem dX0_ordersBehind_48 : decode cX0_ordersBehind 48 = .ok (.istore 5, 2) := by decide +kernel
theorem dX0_ordersBehind_50 : decode cX0_ordersBehind 50 = .ok (.iload 5, 2) := by decide +kernel
theorem dX0_ordersBehind_52 : decode cX0_ordersBehind 52 = .ok (.ifCond .ne 7, 3) := by decide +kernel
theorem dX0_ordersBehind_55 : decode cX0_ordersBehind 55 = .ok (.iconst 0, 1) := by decide +kernel
theorem dX0_ordersBehind_56 : decode cX0_ordersBehind 56 = .ok (.goto 9, 3) := by decide +kernel
theorem dX0_ordersBehind_59 : decode cX0_ordersBehind 59 = .ok (.aload_n 0, 1) := by decide +kernel
theorem dX0_ordersBehind_60 : decode cX0_ordersBehind 60 = .ok (.iload 4, 2) := by decide +kernel
theorem dX0_ordersBehind_62 : decode cX0_ordersBehind 62 = .ok (.invokevirtual 68, 3) := by decide +kernel
theorem dX0_ordersBehind_65 : decode cX0_ordersBehind 65 = .ok (.istore 6, 2) := by decide +kernel
theorem dX0_ordersBehind_67 : decode cX0_ordersBehind 67 = .ok (.iconst 0, 1) := by decide +kernel
theorem dX0_ordersBehind_68 : decode cX0_ordersBehind 68 = .ok (.istore 7, 2) := by decide +kernel
theorem dX0_ordersBehind_70 : decode cX0_ordersBehind 70 = .ok (.iload 7, 2) := by decide +kernel
theorem dX0_ordersBehind_72 : decode cX0_ordersBehind 72 = .ok (.aload_n 0, 1) := by decide +kernel
theorem dX0_ordersBehind_73 : decode cX0_ordersBehind 73 = .ok (.getfield 43, 3) := by decide +kernel
theorem dX0_ordersBehind_76 : decode cX0_ordersBehind 76 = .ok (.if_icmp .ge 44, 3) := by decide +kernel
theorem dX0_ordersBehind_79 : decode cX0_ordersBehind 79 = .ok (.iload 6, 2) := by decide +kernel
theorem dX0_ordersBehind_81 : decode cX0_ordersBehind 81 = .ok (.iload 7, 2) := by decide +kernel
theorem dX0_ordersBehind_83 : decode cX0_ordersBehind 83 = .ok (.invokestatic 46, 3) := by decide +kernel
theorem dX0_ordersBehind_86 : decode cX0_ordersBehind 86 = .ok (.ifCond .eq 28, 3) := by decide +kernel
theorem dX0_ordersBehind_89 : decode cX0_ordersBehind 89 = .ok (.aload_n 2, 1) := by decide +kernel
theorem dX0_ordersBehind_90 : decode cX0_ordersBehind 90 = .ok (.iload 4, 2) := by decide +kernel
theorem dX0_ordersBehind_92 : decode cX0_ordersBehind 92 = .ok (.iconst 1, 1) := by decide +kernel
theorem dX0_ordersBehind_93 : decode cX0_ordersBehind 93 = .ok (.iload 7, 2) := by decide +kernel
theorem dX0_ordersBehind_95 : decode cX0_ordersBehind 95 = .ok (.ishl, 1) := by decide +kernel
theorem dX0_ordersBehind_96 : decode cX0_ordersBehind 96 = .ok (.ior, 1) := by decide +kernel
theorem dX0_ordersBehind_97 : decode cX0_ordersBehind 97 = .ok (.aload_n 2, 1) := by decide +kernel
theorem dX0_ordersBehind_98 : decode cX0_ordersBehind 98 = .ok (.iload 4, 2) := by decide +kernel
theorem dX0_ordersBehind_100 : decode cX0_ordersBehind 100 = .ok (.iconst 1, 1) := by decide +kernel
theorem dX0_ordersBehind_101 : decode cX0_ordersBehind 101 = .ok (.iload 7, 2) := by decide +kernel
theorem dX0_ordersBehind_103 : decode cX0_ordersBehind 103 = .ok (.ishl, 1) := by decide +kernel
theorem dX0_ordersBehind_104 : decode cX0_ordersBehind 104 = .ok (.ior, 1) := by decide +kernel
theorem dX0_ordersBehind_105 : decode cX0_ordersBehind 105 = .ok (.invokevirtual 50, 3) := by decide +kernel
theorem dX0_ordersBehind_108 : decode cX0_ordersBehind 108 = .ok (.iload 5, 2) := by decide +kernel
theorem dX0_ordersBehind_110 : decode cX0_ordersBehind 110 = .ok (.iadd, 1) := by decide +kernel
theorem dX0_ordersBehind_111 : decode cX0_ordersBehind 111 = .ok (.invokevirtual 60, 3) := by decide +kernel
theorem dX0_ordersBehind_114 : decode cX0_ordersBehind 114 = .ok (.iinc 7 1, 3) := by decide +kernel
theorem dX0_ordersBehind_117 : decode cX0_ordersBehind 117 = .ok (.goto (-47), 3) := by decide +kernel
theorem dX0_ordersBehind_120 : decode cX0_ordersBehind 120 = .ok (.iinc 4 1, 3) := by decide +kernel
theorem dX0_ordersBehind_123 : decode cX0_ordersBehind 123 = .ok (.goto (-87), 3) := by decide +kernel
theorem dX0_ordersBehind_126 : decode cX0_ordersBehind 126 = .ok (.aload_n 2, 1) := by decide +kernel
theorem dX0_ordersBehind_127 : decode cX0_ordersBehind 127 = .ok (.iload_n 3, 1) := by decide +kernel
theorem dX0_ordersBehind_128 : decode cX0_ordersBehind 128 = .ok (.invokevirtual 50, 3) := by decide +kernel
theorem dX0_ordersBehind_131 : decode cX0_ordersBehind 131 = .ok (.ireturn, 1) := by decide +kernel
theorem dX0_start_0 : decode cX0_start 0 = .ok (.aload_n 0, 1) := by decide +kernel
theorem dX0_start_1 : decode cX0_start 1 = .ok (.iconst 1, 1) := by decide +kernel
theorem dX0_start_2 : decode cX0_start 2 = .ok (.putfield 39, 3) := by decide +kernel
theorem dX0_start_5 : decode cX0_start 5 = .ok (.aload_n 0, 1) := by decide +kernel
theorem dX0_start_6 : decode cX0_start 6 = .ok (.iload_n 1, 1) := by decide +kernel
theorem dX0_start_7 : decode cX0_start 7 = .ok (.putfield 71, 3) := by decide +kernel
theorem dX0_start_10 : decode cX0_start 10 = .ok (.aload_n 0, 1) := by decide +kernel
theorem dX0_start_11 : decode cX0_start 11 = .ok (.getfield 35, 3) := by decide +kernel
theorem dX0_start_14 : decode cX0_start 14 = .ok (.iconst 0, 1) := by decide +kernel
theorem dX0_start_15 : decode cX0_start 15 = .ok (.iconst (-1), 1) := by decide +kernel
theorem dX0_start_16 : decode cX0_start 16 = .ok (.iconst (-1), 1) := by decide +kernel
theorem dX0_start_17 : decode cX0_start 17 = .ok (.iload_n 1, 1) := by decide +kernel
theorem dX0_start_18 : decode cX0_start 18 = .ok (.invokevirtual 74, 3) := by decide +kernel
theorem dX0_start_21 : decode cX0_start 21 = .ok (.aload_n 0, 1) := by decide +kernel
theorem dX0_start_22 : decode cX0_start 22 = .ok (.iload_n 1, 1) := by decide +kernel
theorem dX0_start_23 : decode cX0_start 23 = .ok (.invokevirtual 78, 3) := by decide +kernel
theorem dX0_start_26 : decode cX0_start 26 = .ok (.ireturn, 1) := by decide +kernel
theorem dX0_mark_0 : decode cX0_mark 0 = .ok (.aload_n 0, 1) := by decide +kernel
theorem dX0_mark_1 : decode cX0_mark 1 = .ok (.dup, 1) := by decide +kernel
theorem dX0_mark_2 : decode cX0_mark 2 = .ok (.getfield 81, 3) := by decide +kernel
theorem dX0_mark_5 : decode cX0_mark 5 = .ok (.iconst 1, 1) := by decide +kernel
theorem dX0_mark_6 : decode cX0_mark 6 = .ok (.iload_n 3, 1) := by decide +kernel
theorem dX0_mark_7 : decode cX0_mark 7 = .ok (.ishl, 1) := by decide +kernel
theorem dX0_mark_8 : decode cX0_mark 8 = .ok (.ior, 1) := by decide +kernel
theorem dX0_mark_9 : decode cX0_mark 9 = .ok (.putfield 81, 3) := by decide +kernel
theorem dX0_mark_12 : decode cX0_mark 12 = .ok (.aload_n 0, 1) := by decide +kernel
theorem dX0_mark_13 : decode cX0_mark 13 = .ok (.dup, 1) := by decide +kernel
theorem dX0_mark_14 : decode cX0_mark 14 = .ok (.getfield 84, 3) := by decide +kernel
theorem dX0_mark_17 : decode cX0_mark 17 = .ok (.iconst 1, 1) := by decide +kernel
theorem dX0_mark_18 : decode cX0_mark 18 = .ok (.iload_n 3, 1) := by decide +kernel
theorem dX0_mark_19 : decode cX0_mark 19 = .ok (.ishl, 1) := by decide +kernel
theorem dX0_mark_20 : decode cX0_mark 20 = .ok (.iconst (-1), 1) := by decide +kernel
theorem dX0_mark_21 : decode cX0_mark 21 = .ok (.ixor, 1) := by decide +kernel
theorem dX0_mark_22 : decode cX0_mark 22 = .ok (.iand, 1) := by decide +kernel
theorem dX0_mark_23 : decode cX0_mark 23 = .ok (.putfield 84, 3) := by decide +kernel
theorem dX0_mark_26 : decode cX0_mark 26 = .ok (.aload_n 0, 1) := by decide +kernel
theorem dX0_mark_27 : decode cX0_mark 27 = .ok (.getfield 35, 3) := by decide +kernel
theorem dX0_mark_30 : decode cX0_mark 30 = .ok (.iload_n 1, 1) := by decide +kernel
theorem dX0_mark_31 : decode cX0_mark 31 = .ok (.iload_n 2, 1) := by decide +kernel
theorem dX0_mark_32 : decode cX0_mark 32 = .ok (.iload_n 3, 1) := by decide +kernel
theorem dX0_mark_33 : decode cX0_mark 33 = .ok (.iload 4, 2) := by decide +kernel
theorem dX0_mark_35 : decode cX0_mark 35 = .ok (.invokevirtual 74, 3) := by decide +kernel
theorem dX0_mark_38 : decode cX0_mark 38 = .ok (.aload_n 0, 1) := by decide +kernel
theorem dX0_mark_39 : decode cX0_mark 39 = .ok (.getfield 81, 3) := by decide +kernel
theorem dX0_mark_42 : decode cX0_mark 42 = .ok (.aload_n 0, 1) := by decide +kernel
theorem dX0_mark_43 : decode cX0_mark 43 = .ok (.invokevirtual 64, 3) := by decide +kernel
theorem dX0_mark_46 : decode cX0_mark 46 = .ok (.if_icmp .ne 8, 3) := by decide +kernel
theorem dX0_mark_49 : decode cX0_mark 49 = .ok (.aload_n 0, 1) := by decide +kernel
theorem dX0_mark_50 : decode cX0_mark 50 = .ok (.iconst 2, 1) := by decide +kernel
theorem dX0_mark_51 : decode cX0_mark 51 = .ok (.putfield 39, 3) := by decide +kernel
theorem dX0_mark_54 : decode cX0_mark 54 = .ok (.aload_n 0, 1) := by decide +kernel
theorem dX0_mark_55 : decode cX0_mark 55 = .ok (.iload 4, 2) := by decide +kernel
theorem dX0_mark_57 : decode cX0_mark 57 = .ok (.invokevirtual 78, 3) := by decide +kernel
theorem dX0_mark_60 : decode cX0_mark 60 = .ok (.ireturn, 1) := by decide +kernel
theorem dX0_openNext_0 : decode cX0_openNext 0 = .ok (.aload_n 0, 1) := by decide +kernel
theorem dX0_openNext_1 : decode cX0_openNext 1 = .ok (.aload_n 0, 1) := by decide +kernel
theorem dX0_openNext_2 : decode cX0_openNext 2 = .ok (.getfield 81, 3) := by decide +kernel
theorem dX0_openNext_5 : decode cX0_openNext 5 = .ok (.invokevirtual 68, 3) := by decide +kernel
theorem dX0_openNext_8 : decode cX0_openNext 8 = .ok (.aload_n 0, 1) := by decide +kernel
theorem dX0_openNext_9 : decode cX0_openNext 9 = .ok (.getfield 84, 3) := by decide +kernel
theorem dX0_openNext_12 : decode cX0_openNext 12 = .ok (.iconst (-1), 1) := by decide +kernel
theorem dX0_openNext_13 : decode cX0_openNext 13 = .ok (.ixor, 1) := by decide +kernel
theorem dX0_openNext_14 : decode cX0_openNext 14 = .ok (.iand, 1) := by decide +kernel
theorem dX0_openNext_15 : decode cX0_openNext 15 = .ok (.istore_n 2, 1) := by decide +kernel
theorem dX0_openNext_16 : decode cX0_openNext 16 = .ok (.iconst 0, 1) := by decide +kernel
theorem dX0_openNext_17 : decode cX0_openNext 17 = .ok (.istore_n 3, 1) := by decide +kernel
theorem dX0_openNext_18 : decode cX0_openNext 18 = .ok (.iload_n 3, 1) := by decide +kernel
theorem dX0_openNext_19 : decode cX0_openNext 19 = .ok (.aload_n 0, 1) := by decide +kernel
theorem dX0_openNext_20 : decode cX0_openNext 20 = .ok (.getfield 43, 3) := by decide +kernel
theorem dX0_openNext_23 : decode cX0_openNext 23 = .ok (.if_icmp .ge 26, 3) := by decide +kernel
theorem dX0_openNext_26 : decode cX0_openNext 26 = .ok (.iload_n 2, 1) := by decide +kernel
theorem dX0_openNext_27 : decode cX0_openNext 27 = .ok (.iload_n 3, 1) := by decide +kernel
theorem dX0_openNext_28 : decode cX0_openNext 28 = .ok (.invokestatic 46, 3) := by decide +kernel
theorem dX0_openNext_31 : decode cX0_openNext 31 = .ok (.ifCond .eq 12, 3) := by decide +kernel
theorem dX0_openNext_34 : decode cX0_openNext 34 = .ok (.aload_n 0, 1) := by decide +kernel
theorem dX0_openNext_35 : decode cX0_openNext 35 = .ok (.getfield 26, 3) := by decide +kernel
theorem dX0_openNext_38 : decode cX0_openNext 38 = .ok (.iload_n 3, 1) := by decide +kernel
theorem dX0_openNext_39 : decode cX0_openNext 39 = .ok (.iload_n 1, 1) := by decide +kernel
theorem dX0_openNext_40 : decode cX0_openNext 40 = .ok (.invokevirtual 60, 3) := by decide +kernel
theorem dX0_openNext_43 : decode cX0_openNext 43 = .ok (.iinc 3 1, 3) := by decide +kernel
theorem dX0_openNext_46 : decode cX0_openNext 46 = .ok (.goto (-28), 3) := by decide +kernel
theorem dX0_openNext_49 : decode cX0_openNext 49 = .ok (.aload_n 0, 1) := by decide +kernel
theorem dX0_openNext_50 : decode cX0_openNext 50 = .ok (.dup, 1) := by decide +kernel
theorem dX0_openNext_51 : decode cX0_openNext 51 = .ok (.getfield 84, 3) := by decide +kernel
theorem dX0_openNext_54 : decode cX0_openNext 54 = .ok (.iload_n 2, 1) := by decide +kernel
theorem dX0_openNext_55 : decode cX0_openNext 55 = .ok (.ior, 1) := by decide +kernel
theorem dX0_openNext_56 : decode cX0_openNext 56 = .ok (.putfield 84, 3) := by decide +kernel
theorem dX0_openNext_59 : decode cX0_openNext 59 = .ok (.iload_n 2, 1) := by decide +kernel
theorem dX0_openNext_60 : decode cX0_openNext 60 = .ok (.invokestatic 87, 3) := by decide +kernel
theorem dX0_openNext_63 : decode cX0_openNext 63 = .ok (.ireturn, 1) := by decide +kernel
theorem dX0_finish_0 : decode cX0_finish 0 = .ok (.aload_n 0, 1) := by decide +kernel
theorem dX0_finish_1 : decode cX0_finish 1 = .ok (.iload_n 1, 1) := by decide +kernel
theorem dX0_finish_2 : decode cX0_finish 2 = .ok (.putfield 39, 3) := by decide +kernel
theorem dX0_finish_5 : decode cX0_finish 5 = .ok (.aload_n 0, 1) := by decide +kernel
theorem dX0_finish_6 : decode cX0_finish 6 = .ok (.iconst 0, 1) := by decide +kernel
theorem dX0_finish_7 : decode cX0_finish 7 = .ok (.putfield 84, 3) := by decide +kernel
theorem dX0_finish_10 : decode cX0_finish 10 = .ok (.aload_n 0, 1) := by decide +kernel
theorem dX0_finish_11 : decode cX0_finish 11 = .ok (.getfield 35, 3) := by decide +kernel
theorem dX0_finish_14 : decode cX0_finish 14 = .ok (.iload_n 2, 1) := by decide +kernel
theorem dX0_finish_15 : decode cX0_finish 15 = .ok (.iload_n 3, 1) := by decide +kernel
theorem dX0_finish_16 : decode cX0_finish 16 = .ok (.iload 4, 2) := by decide +kernel
theorem dX0_finish_18 : decode cX0_finish 18 = .ok (.iload 5, 2) := by decide +kernel
theorem dX0_finish_20 : decode cX0_finish 20 = .ok (.invokevirtual 74, 3) := by decide +kernel
theorem dX0_finish_23 : decode cX0_finish 23 = .ok (.aload_n 0, 1) := by decide +kernel
theorem dX0_finish_24 : decode cX0_finish 24 = .ok (.getfield 43, 3) := by decide +kernel
theorem dX0_finish_27 : decode cX0_finish 27 = .ok (.aload_n 0, 1) := by decide +kernel
theorem dX0_finish_28 : decode cX0_finish 28 = .ok (.getfield 81, 3) := by decide +kernel
theorem dX0_finish_31 : decode cX0_finish 31 = .ok (.invokestatic 87, 3) := by decide +kernel
theorem dX0_finish_34 : decode cX0_finish 34 = .ok (.isub, 1) := by decide +kernel
theorem dX0_finish_35 : decode cX0_finish 35 = .ok (.ireturn, 1) := by decide +kernel
theorem dX0_meetDay_0 : decode cX0_meetDay 0 = .ok (.aload_n 0, 1) := by decide +kernel
theorem dX0_meetDay_1 : decode cX0_meetDay 1 = .ok (.getfield 39, 3) := by decide +kernel
theorem dX0_meetDay_4 : decode cX0_meetDay 4 = .ok (.iconst 1, 1) := by decide +kernel
theorem dX0_meetDay_5 : decode cX0_meetDay 5 = .ok (.if_icmp .eq 5, 3) := by decide +kernel
theorem dX0_meetDay_8 : decode cX0_meetDay 8 = .ok (.iconst 0, 1) := by decide +kernel
theorem dX0_meetDay_9 : decode cX0_meetDay 9 = .ok (.ireturn, 1) := by decide +kernel
theorem dX0_meetDay_10 : decode cX0_meetDay 10 = .ok (.aload_n 0, 1) := by decide +kernel
theorem dX0_meetDay_11 : decode cX0_meetDay 11 = .ok (.getfield 92, 3) := by decide +kernel
theorem dX0_meetDay_14 : decode cX0_meetDay 14 = .ok (.ifCond .le 28, 3) := by decide +kernel
theorem dX0_meetDay_17 : decode cX0_meetDay 17 = .ok (.iload_n 1, 1) := by decide +kernel
theorem dX0_meetDay_18 : decode cX0_meetDay 18 = .ok (.aload_n 0, 1) := by decide +kernel
theorem dX0_meetDay_19 : decode cX0_meetDay 19 = .ok (.getfield 71, 3) := by decide +kernel
theorem dX0_meetDay_22 : decode cX0_meetDay 22 = .ok (.aload_n 0, 1) := by decide +kernel
theorem dX0_meetDay_23 : decode cX0_meetDay 23 = .ok (.getfield 92, 3) := by decide +kernel
theorem dX0_meetDay_26 : decode cX0_meetDay 26 = .ok (.iadd, 1) := by decide +kernel
theorem dX0_meetDay_27 : decode cX0_meetDay 27 = .ok (.if_icmp .ne 15, 3) := by decide +kernel
theorem dX0_meetDay_30 : decode cX0_meetDay 30 = .ok (.aload_n 0, 1) := by decide +kernel
theorem dX0_meetDay_31 : decode cX0_meetDay 31 = .ok (.iconst 5, 1) := by decide +kernel
theorem dX0_meetDay_32 : decode cX0_meetDay 32 = .ok (.iconst 5, 1) := by decide +kernel
theorem dX0_meetDay_33 : decode cX0_meetDay 33 = .ok (.iconst (-1), 1) := by decide +kernel
theorem dX0_meetDay_34 : decode cX0_meetDay 34 = .ok (.iconst (-1), 1) := by decide +kernel
theorem dX0_meetDay_35 : decode cX0_meetDay 35 = .ok (.iload_n 1, 1) := by decide +kernel
theorem dX0_meetDay_36 : decode cX0_meetDay 36 = .ok (.invokevirtual 95, 3) := by decide +kernel
theorem dX0_meetDay_39 : decode cX0_meetDay 39 = .ok (.pop, 1) := by decide +kernel
theorem dX0_meetDay_40 : decode cX0_meetDay 40 = .ok (.iconst 0, 1) := by decide +kernel
theorem dX0_meetDay_41 : decode cX0_meetDay 41 = .ok (.ireturn, 1) := by decide +kernel
theorem dX0_meetDay_42 : decode cX0_meetDay 42 = .ok (.aload_n 0, 1) := by decide +kernel
theorem dX0_meetDay_43 : decode cX0_meetDay 43 = .ok (.iload_n 1, 1) := by decide +kernel
theorem dX0_meetDay_44 : decode cX0_meetDay 44 = .ok (.invokevirtual 99, 3) := by decide +kernel
theorem dX0_meetDay_47 : decode cX0_meetDay 47 = .ok (.ireturn, 1) := by decide +kernel
theorem dX0_remind_0 : decode cX0_remind 0 = .ok (.iconst 0, 1) := by decide +kernel
theorem dX0_remind_1 : decode cX0_remind 1 = .ok (.istore_n 2, 1) := by decide +kernel
theorem dX0_remind_2 : decode cX0_remind 2 = .ok (.iconst 0, 1) := by decide +kernel
theorem dX0_remind_3 : decode cX0_remind 3 = .ok (.istore_n 3, 1) := by decide +kernel
theorem dX0_remind_4 : decode cX0_remind 4 = .ok (.iload_n 3, 1) := by decide +kernel
theorem dX0_remind_5 : decode cX0_remind 5 = .ok (.aload_n 0, 1) := by decide +kernel
theorem dX0_remind_6 : decode cX0_remind 6 = .ok (.getfield 43, 3) := by decide +kernel
theorem dX0_remind_9 : decode cX0_remind 9 = .ok (.if_icmp .ge 70, 3) := by decide +kernel
theorem dX0_remind_12 : decode cX0_remind 12 = .ok (.aload_n 0, 1) := by decide +kernel
theorem dX0_remind_13 : decode cX0_remind 13 = .ok (.iload_n 3, 1) := by decide +kernel
theorem dX0_remind_14 : decode cX0_remind 14 = .ok (.invokevirtual 102, 3) := by decide +kernel
theorem dX0_remind_17 : decode cX0_remind 17 = .ok (.ifCond .eq 56, 3) := by decide +kernel
theorem dX0_remind_20 : decode cX0_remind 20 = .ok (.aload_n 0, 1) := by decide +kernel
theorem dX0_remind_21 : decode cX0_remind 21 = .ok (.iload_n 3, 1) := by decide +kernel
theorem dX0_remind_22 : decode cX0_remind 22 = .ok (.iload_n 1, 1) := by decide +kernel
theorem dX0_remind_23 : decode cX0_remind 23 = .ok (.invokevirtual 106, 3) := by decide +kernel
theorem dX0_remind_26 : decode cX0_remind 26 = .ok (.aload_n 0, 1) := by decide +kernel
theorem dX0_remind_27 : decode cX0_remind 27 = .ok (.getfield 109, 3) := by decide +kernel
theorem dX0_remind_30 : decode cX0_remind 30 = .ok (.if_icmp .ne 43, 3) := by decide +kernel
theorem dX0_remind_33 : decode cX0_remind 33 = .ok (.aload_n 0, 1) := by decide +kernel
theorem dX0_remind_34 : decode cX0_remind 34 = .ok (.getfield 29, 3) := by decide +kernel
theorem dX0_remind_37 : decode cX0_remind 37 = .ok (.iload_n 3, 1) := by decide +kernel
theorem dX0_remind_38 : decode cX0_remind 38 = .ok (.aload_n 0, 1) := by decide +kernel
theorem dX0_remind_39 : decode cX0_remind 39 = .ok (.getfield 29, 3) := by decide +kernel
theorem dX0_remind_42 : decode cX0_remind 42 = .ok (.iload_n 3, 1) := by decide +kernel
theorem dX0_remind_43 : decode cX0_remind 43 = .ok (.invokevirtual 50, 3) := by decide +kernel
theorem dX0_remind_46 : decode cX0_remind 46 = .ok (.iconst 1, 1) := by decide +kernel
theorem dX0_remind_47 : decode cX0_remind 47 = .ok (.iadd, 1) := by decide +kernel
theorem dX0_remind_48 : decode cX0_remind 48 = .ok (.invokevirtual 60, 3) := by decide +kernel
theorem dX0_remind_51 : decode cX0_remind 51 = .ok (.aload_n 0, 1) := by decide +kernel
theorem dX0_remind_52 : decode cX0_remind 52 = .ok (.getfield 35, 3) := by decide +kernel
theorem dX0_remind_55 : decode cX0_remind 55 = .ok (.bipush 6, 2) := by decide +kernel
theorem dX0_remind_57 : decode cX0_remind 57 = .ok (.aload_n 0, 1) := by decide +kernel
theorem dX0_remind_58 : decode cX0_remind 58 = .ok (.getfield 14, 3) := by decide +kernel
theorem dX0_remind_61 : decode cX0_remind 61 = .ok (.iload_n 3, 1) := by decide +kernel
theorem dX0_remind_62 : decode cX0_remind 62 = .ok (.invokevirtual 50, 3) := by decide +kernel
theorem dX0_remind_65 : decode cX0_remind 65 = .ok (.iload_n 3, 1) := by decide +kernel
theorem dX0_remind_66 : decode cX0_remind 66 = .ok (.iload_n 1, 1) := by decide +kernel
theorem dX0_remind_67 : decode cX0_remind 67 = .ok (.invokevirtual 74, 3) := by decide +kernel
theorem dX0_remind_70 : decode cX0_remind 70 = .ok (.iinc 2 1, 3) := by decide +kernel
theorem dX0_remind_73 : decode cX0_remind 73 = .ok (.iinc 3 1, 3) := by decide +kernel
theorem dX0_remind_76 : decode cX0_remind 76 = .ok (.goto (-72), 3) := by decide +kernel
theorem dX0_remind_79 : decode cX0_remind 79 = .ok (.iload_n 2, 1) := by decide +kernel
theorem dX0_remind_80 : decode cX0_remind 80 = .ok (.ireturn, 1) := by decide +kernel
theorem dX0_reminderBehind_0 : decode cX0_reminderBehind 0 = .ok (.iconst (-1), 1) := by decide +kernel
theorem dX0_reminderBehind_1 : decode cX0_reminderBehind 1 = .ok (.istore_n 2, 1) := by decide +kernel
theorem dX0_reminderBehind_2 : decode cX0_reminderBehind 2 = .ok (.iconst 0, 1) := by decide +kernel
theorem dX0_reminderBehind_3 : decode cX0_reminderBehind 3 = .ok (.istore_n 3, 1) := by decide +kernel
theorem dX0_reminderBehind_4 : decode cX0_reminderBehind 4 = .ok (.iload_n 3, 1) := by decide +kernel
theorem dX0_reminderBehind_5 : decode cX0_reminderBehind 5 = .ok (.aload_n 0, 1) := by decide +kernel
theorem dX0_reminderBehind_6 : decode cX0_reminderBehind 6 = .ok (.getfield 43, 3) := by decide +kernel
theorem dX0_reminderBehind_9 : decode cX0_reminderBehind 9 = .ok (.if_icmp .ge 44, 3) := by decide +kernel
theorem dX0_reminderBehind_12 : decode cX0_reminderBehind 12 = .ok (.aload_n 0, 1) := by decide +kernel
theorem dX0_reminderBehind_13 : decode cX0_reminderBehind 13 = .ok (.iload_n 3, 1) := by decide +kernel
theorem dX0_reminderBehind_14 : decode cX0_reminderBehind 14 = .ok (.invokevirtual 102, 3) := by decide +kernel
theorem dX0_reminderBehind_17 : decode cX0_reminderBehind 17 = .ok (.ifCond .eq 30, 3) := by decide +kernel
theorem dX0_reminderBehind_20 : decode cX0_reminderBehind 20 = .ok (.iload_n 1, 1) := by decide +kernel
theorem dX0_reminderBehind_21 : decode cX0_reminderBehind 21 = .ok (.aload_n 0, 1) := by decide +kernel
theorem dX0_reminderBehind_22 : decode cX0_reminderBehind 22 = .ok (.iload_n 3, 1) := by decide +kernel
theorem dX0_reminderBehind_23 : decode cX0_reminderBehind 23 = .ok (.iload_n 1, 1) := by decide +kernel
theorem dX0_reminderBehind_24 : decode cX0_reminderBehind 24 = .ok (.invokevirtual 106, 3) := by decide +kernel
theorem dX0_reminderBehind_27 : decode cX0_reminderBehind 27 = .ok (.iadd, 1) := by decide +kernel
theorem dX0_reminderBehind_28 : decode cX0_reminderBehind 28 = .ok (.istore 4, 2) := by decide +kernel
theorem dX0_reminderBehind_30 : decode cX0_reminderBehind 30 = .ok (.iload_n 2, 1) := by decide +kernel
theorem dX0_reminderBehind_31 : decode cX0_reminderBehind 31 = .ok (.iconst (-1), 1) := by decide +kernel
theorem dX0_reminderBehind_32 : decode cX0_reminderBehind 32 = .ok (.if_icmp .ne 8, 3) := by decide +kernel
theorem dX0_reminderBehind_35 : decode cX0_reminderBehind 35 = .ok (.iload 4, 2) := by decide +kernel
theorem dX0_reminderBehind_37 : decode cX0_reminderBehind 37 = .ok (.goto 9, 3) := by decide +kernel
theorem dX0_reminderBehind_40 : decode cX0_reminderBehind 40 = .ok (.iload_n 2, 1) := by decide +kernel
theorem dX0_reminderBehind_41 : decode cX0_reminderBehind 41 = .ok (.iload 4, 2) := by decide +kernel
theorem dX0_reminderBehind_43 : decode cX0_reminderBehind 43 = .ok (.invokestatic 112, 3) := by decide +kernel
theorem dX0_reminderBehind_46 : decode cX0_reminderBehind 46 = .ok (.istore_n 2, 1) := by decide +kernel
theorem dX0_reminderBehind_47 : decode cX0_reminderBehind 47 = .ok (.iinc 3 1, 3) := by decide +kernel
theorem dX0_reminderBehind_50 : decode cX0_reminderBehind 50 = .ok (.goto (-46), 3) := by decide +kernel
theorem dX0_reminderBehind_53 : decode cX0_reminderBehind 53 = .ok (.iload_n 2, 1) := by decide +kernel
theorem dX0_reminderBehind_54 : decode cX0_reminderBehind 54 = .ok (.ireturn, 1) := by decide +kernel
theorem dX0_canRemind_0 : decode cX0_canRemind 0 = .ok (.aload_n 0, 1) := by decide +kernel
theorem dX0_canRemind_1 : decode cX0_canRemind 1 = .ok (.getfield 109, 3) := by decide +kernel
theorem dX0_canRemind_4 : decode cX0_canRemind 4 = .ok (.ifCond .le 30, 3) := by decide +kernel
theorem dX0_canRemind_7 : decode cX0_canRemind 7 = .ok (.aload_n 0, 1) := by decide +kernel
theorem dX0_canRemind_8 : decode cX0_canRemind 8 = .ok (.getfield 84, 3) := by decide +kernel
theorem dX0_canRemind_11 : decode cX0_canRemind 11 = .ok (.iload_n 1, 1) := by decide +kernel
theorem dX0_canRemind_12 : decode cX0_canRemind 12 = .ok (.invokestatic 46, 3) := by decide +kernel
theorem dX0_canRemind_15 : decode cX0_canRemind 15 = .ok (.ifCond .eq 19, 3) := by decide +kernel
theorem dX0_canRemind_18 : decode cX0_canRemind 18 = .ok (.aload_n 0, 1) := by decide +kernel
theorem dX0_canRemind_19 : decode cX0_canRemind 19 = .ok (.getfield 29, 3) := by decide +kernel
theorem dX0_canRemind_22 : decode cX0_canRemind 22 = .ok (.iload_n 1, 1) := by decide +kernel
theorem dX0_canRemind_23 : decode cX0_canRemind 23 = .ok (.invokevirtual 50, 3) := by decide +kernel
theorem dX0_canRemind_26 : decode cX0_canRemind 26 = .ok (.iconst 5, 1) := by decide +kernel
theorem dX0_canRemind_27 : decode cX0_canRemind 27 = .ok (.if_icmp .ge 7, 3) := by decide +kernel
theorem dX0_canRemind_30 : decode cX0_canRemind 30 = .ok (.iconst 1, 1) := by decide +kernel
theorem dX0_canRemind_31 : decode cX0_canRemind 31 = .ok (.goto 4, 3) := by decide +kernel
theorem dX0_canRemind_34 : decode cX0_canRemind 34 = .ok (.iconst 0, 1) := by decide +kernel
theorem dX0_canRemind_35 : decode cX0_canRemind 35 = .ok (.ireturn, 1) := by decide +kernel
theorem dX0_daysToPace_0 : decode cX0_daysToPace 0 = .ok (.aload_n 0, 1) := by decide +kernel
theorem dX0_daysToPace_1 : decode cX0_daysToPace 1 = .ok (.getfield 109, 3) := by decide +kernel
theorem dX0_daysToPace_4 : decode cX0_daysToPace 4 = .ok (.ifCond .gt 7, 3) := by decide +kernel
theorem dX0_daysToPace_7 : decode cX0_daysToPace 7 = .ok (.iconst 0, 1) := by decide +kernel
theorem dX0_daysToPace_8 : decode cX0_daysToPace 8 = .ok (.goto 23, 3) := by decide +kernel
theorem dX0_daysToPace_11 : decode cX0_daysToPace 11 = .ok (.aload_n 0, 1) := by decide +kernel
theorem dX0_daysToPace_12 : decode cX0_daysToPace 12 = .ok (.getfield 109, 3) := by decide +kernel
theorem dX0_daysToPace_15 : decode cX0_daysToPace 15 = .ok (.iload_n 2, 1) := by decide +kernel
theorem dX0_daysToPace_16 : decode cX0_daysToPace 16 = .ok (.aload_n 0, 1) := by decide +kernel
theorem dX0_daysToPace_17 : decode cX0_daysToPace 17 = .ok (.getfield 26, 3) := by decide +kernel
theorem dX0_daysToPace_20 : decode cX0_daysToPace 20 = .ok (.iload_n 1, 1) := by decide +kernel
theorem dX0_daysToPace_21 : decode cX0_daysToPace 21 = .ok (.invokevirtual 50, 3) := by decide +kernel
theorem dX0_daysToPace_24 : decode cX0_daysToPace 24 = .ok (.isub, 1) := by decide +kernel
theorem dX0_daysToPace_25 : decode cX0_daysToPace 25 = .ok (.aload_n 0, 1) := by decide +kernel
theorem dX0_daysToPace_26 : decode cX0_daysToPace 26 = .ok (.getfield 109, 3) := by decide +kernel
theorem dX0_daysToPace_29 : decode cX0_daysToPace 29 = .ok (.irem, 1) := by decide +kernel
theorem dX0_daysToPace_30 : decode cX0_daysToPace 30 = .ok (.isub, 1) := by decide +kernel
theorem dX0_daysToPace_31 : decode cX0_daysToPace 31 = .ok (.ireturn, 1) := by decide +kernel
theorem dX0_stateOf_0 : decode cX0_stateOf 0 = .ok (.aload_n 0, 1) := by decide +kernel
theorem dX0_stateOf_1 : decode cX0_stateOf 1 = .ok (.getfield 81, 3) := by decide +kernel
theorem dX0_stateOf_4 : decode cX0_stateOf 4 = .ok (.iload_n 1, 1) := by decide +kernel
theorem dX0_stateOf_5 : decode cX0_stateOf 5 = .ok (.invokestatic 46, 3) := by decide +kernel
theorem dX0_stateOf_8 : decode cX0_stateOf 8 = .ok (.ifCond .eq 5, 3) := by decide +kernel
theorem dX0_stateOf_11 : decode cX0_stateOf 11 = .ok (.iconst 2, 1) := by decide +kernel
theorem dX0_stateOf_12 : decode cX0_stateOf 12 = .ok (.ireturn, 1) := by decide +kernel
theorem dX0_stateOf_13 : decode cX0_stateOf 13 = .ok (.aload_n 0, 1) := by decide +kernel
theorem dX0_stateOf_14 : decode cX0_stateOf 14 = .ok (.getfield 84, 3) := by decide +kernel
theorem dX0_stateOf_17 : decode cX0_stateOf 17 = .ok (.iload_n 1, 1) := by decide +kernel
theorem dX0_stateOf_18 : decode cX0_stateOf 18 = .ok (.invokestatic 46, 3) := by decide +kernel
theorem dX0_stateOf_21 : decode cX0_stateOf 21 = .ok (.ifCond .eq 5, 3) := by decide +kernel
theorem dX0_stateOf_24 : decode cX0_stateOf 24 = .ok (.iconst 1, 1) := by decide +kernel
theorem dX0_stateOf_25 : decode cX0_stateOf 25 = .ok (.ireturn, 1) := by decide +kernel
theorem dX0_stateOf_26 : decode cX0_stateOf 26 = .ok (.aload_n 0, 1) := by decide +kernel
theorem dX0_stateOf_27 : decode cX0_stateOf 27 = .ok (.getfield 39, 3) := by decide +kernel
theorem dX0_stateOf_30 : decode cX0_stateOf 30 = .ok (.ifCond .eq 11, 3) := by decide +kernel
theorem dX0_stateOf_33 : decode cX0_stateOf 33 = .ok (.aload_n 0, 1) := by decide +kernel
theorem dX0_stateOf_34 : decode cX0_stateOf 34 = .ok (.getfield 39, 3) := by decide +kernel
theorem dX0_stateOf_37 : decode cX0_stateOf 37 = .ok (.iconst 1, 1) := by decide +kernel
theorem dX0_stateOf_38 : decode cX0_stateOf 38 = .ok (.if_icmp .ne 7, 3) := by decide +kernel
theorem dX0_stateOf_41 : decode cX0_stateOf 41 = .ok (.iconst 0, 1) := by decide +kernel
theorem dX0_stateOf_42 : decode cX0_stateOf 42 = .ok (.goto 4, 3) := by decide +kernel
theorem dX0_stateOf_45 : decode cX0_stateOf 45 = .ok (.iconst 3, 1) := by decide +kernel
theorem dX0_stateOf_46 : decode cX0_stateOf 46 = .ok (.ireturn, 1) := by decide +kernel
theorem dX1_init_0 : decode cX1_init 0 = .ok (.aload_n 0, 1) := by decide +kernel
theorem dX1_init_1 : decode cX1_init 1 = .ok (.invokespecial 3, 3) := by decide +kernel
theorem dX1_init_4 : decode cX1_init 4 = .ok (.aload_n 0, 1) := by decide +kernel
theorem dX1_init_5 : decode cX1_init 5 = .ok (.new 9, 3) := by decide +kernel
theorem dX1_init_8 : decode cX1_init 8 = .ok (.dup, 1) := by decide +kernel
theorem dX1_init_9 : decode cX1_init 9 = .ok (.bipush 49, 2) := by decide +kernel
theorem dX1_init_11 : decode cX1_init 11 = .ok (.invokespecial 11, 3) := by decide +kernel
theorem dX1_init_14 : decode cX1_init 14 = .ok (.putfield 14, 3) := by decide +kernel
theorem dX1_init_17 : decode cX1_init 17 = .ok (.aload_n 0, 1) := by decide +kernel
theorem dX1_init_18 : decode cX1_init 18 = .ok (.new 9, 3) := by decide +kernel
theorem dX1_init_21 : decode cX1_init 21 = .ok (.dup, 1) := by decide +kernel
theorem dX1_init_22 : decode cX1_init 22 = .ok (.bipush 49, 2) := by decide +kernel
theorem dX1_init_24 : decode cX1_init 24 = .ok (.invokespecial 11, 3) := by decide +kernel
theorem dX1_init_27 : decode cX1_init 27 = .ok (.putfield 20, 3) := by decide +kernel
theorem dX1_init_30 : decode cX1_init 30 = .ok (.aload_n 0, 1) := by decide +kernel
theorem dX1_init_31 : decode cX1_init 31 = .ok (.new 9, 3) := by decide +kernel
theorem dX1_init_34 : decode cX1_init 34 = .ok (.dup, 1) := by decide +kernel
theorem dX1_init_35 : decode cX1_init 35 = .ok (.bipush 49, 2) := by decide +kernel
theorem dX1_init_37 : decode cX1_init 37 = .ok (.invokespecial 11, 3) := by decide +kernel
theorem dX1_init_40 : decode cX1_init 40 = .ok (.putfield 23, 3) := by decide +kernel
theorem dX1_init_43 : decode cX1_init 43 = .ok (.aload_n 0, 1) := by decide +kernel
theorem dX1_init_44 : decode cX1_init 44 = .ok (.new 9, 3) := by decide +kernel
theorem dX1_init_47 : decode cX1_init 47 = .ok (.dup, 1) := by decide +kernel
theorem dX1_init_48 : decode cX1_init 48 = .ok (.bipush 49, 2) := by decide +kernel
theorem dX1_init_50 : decode cX1_init 50 = .ok (.invokespecial 11, 3) := by decide +kernel
theorem dX1_init_53 : decode cX1_init 53 = .ok (.putfield 26, 3) := by decide +kernel
theorem dX1_init_56 : decode cX1_init 56 = .ok (.return_, 1) := by decide +kernel
theorem dX1_add_0 : decode cX1_add 0 = .ok (.aload_n 0, 1) := by decide +kernel
theorem dX1_add_1 : decode cX1_add 1 = .ok (.getfield 29, 3) := by decide +kernel
theorem dX1_add_4 : decode cX1_add 4 = .ok (.bipush 49, 2) := by decide +kernel
theorem dX1_add_6 : decode cX1_add 6 = .ok (.if_icmp .lt 4, 3) := by decide +kernel
theorem dX1_add_9 : decode cX1_add 9 = .ok (.return_, 1) := by decide +kernel
theorem dX1_add_10 : decode cX1_add 10 = .ok (.aload_n 0, 1) := by decide +kernel
theorem dX1_add_11 : decode cX1_add 11 = .ok (.getfield 14, 3) := by decide +kernel
theorem dX1_add_14 : decode cX1_add 14 = .ok (.aload_n 0, 1) := by decide +kernel
theorem dX1_add_15 : decode cX1_add 15 = .ok (.getfield 29, 3) := by decide +kernel
theorem dX1_add_18 : decode cX1_add 18 = .ok (.iload_n 1, 1) := by decide +kernel
theorem dX1_add_19 : decode cX1_add 19 = .ok (.invokevirtual 33, 3) := by decide +kernel
theorem dX1_add_22 : decode cX1_add 22 = .ok (.aload_n 0, 1) := by decide +kernel
theorem dX1_add_23 : decode cX1_add 23 = .ok (.getfield 20, 3) := by decide +kernel
theorem dX1_add_26 : decode cX1_add 26 = .ok (.aload_n 0, 1) := by decide +kernel
theorem dX1_add_27 : decode cX1_add 27 = .ok (.getfield 29, 3) := by decide +kernel
theorem dX1_add_30 : decode cX1_add 30 = .ok (.iload_n 2, 1) := by decide +kernel
theorem dX1_add_31 : decode cX1_add 31 = .ok (.invokevirtual 33, 3) := by decide +kernel
theorem dX1_add_34 : decode cX1_add 34 = .ok (.aload_n 0, 1) := by decide +kernel
theorem dX1_add_35 : decode cX1_add 35 = .ok (.getfield 23, 3) := by decide +kernel
theorem dX1_add_38 : decode cX1_add 38 = .ok (.aload_n 0, 1) := by decide +kernel
theorem dX1_add_39 : decode cX1_add 39 = .ok (.getfield 29, 3) := by decide +kernel
theorem dX1_add_42 : decode cX1_add 42 = .ok (.iload_n 3, 1) := by decide +kernel
theorem dX1_add_43 : decode cX1_add 43 = .ok (.invokevirtual 33, 3) := by decide +kernel
theorem dX1_add_46 : decode cX1_add 46 = .ok (.aload_n 0, 1) := by decide +kernel
theorem dX1_add_47 : decode cX1_add 47 = .ok (.getfield 26, 3) := by decide +kernel
theorem dX1_add_50 : decode cX1_add 50 = .ok (.aload_n 0, 1) := by decide +kernel
theorem dX1_add_51 : decode cX1_add 51 = .ok (.getfield 29, 3) := by decide +kernel
theorem dX1_add_54 : decode cX1_add 54 = .ok (.iload 4, 2) := by decide +kernel
theorem dX1_add_56 : decode cX1_add 56 = .ok (.invokevirtual 33, 3) := by decide +kernel
theorem dX1_add_59 : decode cX1_add 59 = .ok (.aload_n 0, 1) := by decide +kernel
theorem dX1_add_60 : decode cX1_add 60 = .ok (.dup, 1) := by decide +kernel
theorem dX1_add_61 : decode cX1_add 61 = .ok (.getfield 29, 3) := by decide +kernel
theorem dX1_add_64 : decode cX1_add 64 = .ok (.iconst 1, 1) := by decide +kernel
theorem dX1_add_65 : decode cX1_add 65 = .ok (.iadd, 1) := by decide +kernel
theorem dX1_add_66 : decode cX1_add 66 = .ok (.putfield 29, 3) := by decide +kernel
theorem dX1_add_69 : decode cX1_add 69 = .ok (.return_, 1) := by decide +kernel
theorem dX1_sealBehind_0 : decode cX1_sealBehind 0 = .ok (.iconst 1, 1) := by decide +kernel
theorem dX1_sealBehind_1 : decode cX1_sealBehind 1 = .ok (.istore_n 2, 1) := by decide +kernel
theorem dX1_sealBehind_2 : decode cX1_sealBehind 2 = .ok (.iconst 0, 1) := by decide +kernel
theorem dX1_sealBehind_3 : decode cX1_sealBehind 3 = .ok (.istore_n 3, 1) := by decide +kernel
theorem dX1_sealBehind_4 : decode cX1_sealBehind 4 = .ok (.iload_n 3, 1) := by decide +kernel
theorem dX1_sealBehind_5 : decode cX1_sealBehind 5 = .ok (.iload_n 1, 1) := by decide +kernel
theorem dX1_sealBehind_6 : decode cX1_sealBehind 6 = .ok (.if_icmp .ge 71, 3) := by decide +kernel
theorem dX1_sealBehind_9 : decode cX1_sealBehind 9 = .ok (.bipush 31, 2) := by decide +kernel
theorem dX1_sealBehind_11 : decode cX1_sealBehind 11 = .ok (.iload_n 2, 1) := by decide +kernel
theorem dX1_sealBehind_12 : decode cX1_sealBehind 12 = .ok (.imul, 1) := by decide +kernel
theorem dX1_sealBehind_13 : decode cX1_sealBehind 13 = .ok (.bipush 7, 2) := by decide +kernel
theorem dX1_sealBehind_15 : decode cX1_sealBehind 15 = .ok (.aload_n 0, 1) := by decide +kernel
theorem dX1_sealBehind_16 : decode cX1_sealBehind 16 = .ok (.getfield 14, 3) := by decide +kernel
theorem dX1_sealBehind_19 : decode cX1_sealBehind 19 = .ok (.iload_n 3, 1) := by decide +kernel
theorem dX1_sealBehind_20 : decode cX1_sealBehind 20 = .ok (.invokevirtual 37, 3) := by decide +kernel
theorem dX1_sealBehind_23 : decode cX1_sealBehind 23 = .ok (.imul, 1) := by decide +kernel
theorem dX1_sealBehind_24 : decode cX1_sealBehind 24 = .ok (.iadd, 1) := by decide +kernel
theorem dX1_sealBehind_25 : decode cX1_sealBehind 25 = .ok (.bipush 11, 2) := by decide +kernel
theorem dX1_sealBehind_27 : decode cX1_sealBehind 27 = .ok (.aload_n 0, 1) := by decide +kernel
theorem dX1_sealBehind_28 : decode cX1_sealBehind 28 = .ok (.getfield 20, 3) := by decide +kernel
theorem dX1_sealBehind_31 : decode cX1_sealBehind 31 = .ok (.iload_n 3, 1) := by decide +kernel
theorem dX1_sealBehind_32 : decode cX1_sealBehind 32 = .ok (.invokevirtual 37, 3) := by decide +kernel
theorem dX1_sealBehind_35 : decode cX1_sealBehind 35 = .ok (.iconst 1, 1) := by decide +kernel
theorem dX1_sealBehind_36 : decode cX1_sealBehind 36 = .ok (.iadd, 1) := by decide +kernel
theorem dX1_sealBehind_37 : decode cX1_sealBehind 37 = .ok (.imul, 1) := by decide +kernel
theorem dX1_sealBehind_38 : decode cX1_sealBehind 38 = .ok (.iadd, 1) := by decide +kernel
theorem dX1_sealBehind_39 : decode cX1_sealBehind 39 = .ok (.bipush 13, 2) := by decide +kernel
theorem dX1_sealBehind_41 : decode cX1_sealBehind 41 = .ok (.aload_n 0, 1) := by decide +kernel
theorem dX1_sealBehind_42 : decode cX1_sealBehind 42 = .ok (.getfield 23, 3) := by decide +kernel
theorem dX1_sealBehind_45 : decode cX1_sealBehind 45 = .ok (.iload_n 3, 1) := by decide +kernel
theorem dX1_sealBehind_46 : decode cX1_sealBehind 46 = .ok (.invokevirtual 37, 3) := by decide +kernel
theorem dX1_sealBehind_49 : decode cX1_sealBehind 49 = .ok (.iconst 1, 1) := by decide +kernel
theorem dX1_sealBehind_50 : decode cX1_sealBehind 50 = .ok (.iadd, 1) := by decide +kernel
theorem dX1_sealBehind_51 : decode cX1_sealBehind 51 = .ok (.imul, 1) := by decide +kernel
theorem dX1_sealBehind_52 : decode cX1_sealBehind 52 = .ok (.iadd, 1) := by decide +kernel
theorem dX1_sealBehind_53 : decode cX1_sealBehind 53 = .ok (.bipush 17, 2) := by decide +kernel
theorem dX1_sealBehind_55 : decode cX1_sealBehind 55 = .ok (.aload_n 0, 1) := by decide +kernel
theorem dX1_sealBehind_56 : decode cX1_sealBehind 56 = .ok (.getfield 26, 3) := by decide +kernel
theorem dX1_sealBehind_59 : decode cX1_sealBehind 59 = .ok (.iload_n 3, 1) := by decide +kernel
theorem dX1_sealBehind_60 : decode cX1_sealBehind 60 = .ok (.invokevirtual 37, 3) := by decide +kernel
theorem dX1_sealBehind_63 : decode cX1_sealBehind 63 = .ok (.imul, 1) := by decide +kernel
theorem dX1_sealBehind_64 : decode cX1_sealBehind 64 = .ok (.iadd, 1) := by decide +kernel
theorem dX1_sealBehind_65 : decode cX1_sealBehind 65 = .ok (.istore_n 2, 1) := by decide +kernel
theorem dX1_sealBehind_66 : decode cX1_sealBehind 66 = .ok (.iload_n 2, 1) := by decide +kernel
theorem dX1_sealBehind_67 : decode cX1_sealBehind 67 = .ok (.ldc 41, 2) := by decide +kernel
theorem dX1_sealBehind_69 : decode cX1_sealBehind 69 = .ok (.irem, 1) := by decide +kernel
theorem dX1_sealBehind_70 : decode cX1_sealBehind 70 = .ok (.istore_n 2, 1) := by decide +kernel
theorem dX1_sealBehind_71 : decode cX1_sealBehind 71 = .ok (.iinc 3 1, 3) := by decide +kernel
theorem dX1_sealBehind_74 : decode cX1_sealBehind 74 = .ok (.goto (-70), 3) := by decide +kernel
theorem dX1_sealBehind_77 : decode cX1_sealBehind 77 = .ok (.iload_n 2, 1) := by decide +kernel
theorem dX1_sealBehind_78 : decode cX1_sealBehind 78 = .ok (.ireturn, 1) := by decide +kernel
theorem dX1_signedAfter_0 : decode cX1_signedAfter 0 = .ok (.iconst 0, 1) := by decide +kernel
theorem dX1_signedAfter_1 : decode cX1_signedAfter 1 = .ok (.istore_n 2, 1) := by decide +kernel
theorem dX1_signedAfter_2 : decode cX1_signedAfter 2 = .ok (.iconst 0, 1) := by decide +kernel
theorem dX1_signedAfter_3 : decode cX1_signedAfter 3 = .ok (.istore_n 3, 1) := by decide +kernel
theorem dX1_signedAfter_4 : decode cX1_signedAfter 4 = .ok (.iload_n 3, 1) := by decide +kernel
theorem dX1_signedAfter_5 : decode cX1_signedAfter 5 = .ok (.iload_n 1, 1) := by decide +kernel
theorem dX1_signedAfter_6 : decode cX1_signedAfter 6 = .ok (.if_icmp .ge 36, 3) := by decide +kernel
theorem dX1_signedAfter_9 : decode cX1_signedAfter 9 = .ok (.aload_n 0, 1) := by decide +kernel
theorem dX1_signedAfter_10 : decode cX1_signedAfter 10 = .ok (.getfield 14, 3) := by decide +kernel
theorem dX1_signedAfter_13 : decode cX1_signedAfter 13 = .ok (.iload_n 3, 1) := by decide +kernel
theorem dX1_signedAfter_14 : decode cX1_signedAfter 14 = .ok (.invokevirtual 37, 3) := by decide +kernel
theorem dX1_signedAfter_17 : decode cX1_signedAfter 17 = .ok (.invokestatic 42, 3) := by decide +kernel
theorem dX1_signedAfter_20 : decode cX1_signedAfter 20 = .ok (.ifCond .eq 16, 3) := by decide +kernel
theorem dX1_signedAfter_23 : decode cX1_signedAfter 23 = .ok (.iload_n 2, 1) := by decide +kernel
theorem dX1_signedAfter_24 : decode cX1_signedAfter 24 = .ok (.iconst 1, 1) := by decide +kernel
theorem dX1_signedAfter_25 : decode cX1_signedAfter 25 = .ok (.aload_n 0, 1) := by decide +kernel
theorem dX1_signedAfter_26 : decode cX1_signedAfter 26 = .ok (.getfield 23, 3) := by decide +kernel
theorem dX1_signedAfter_29 : decode cX1_signedAfter 29 = .ok (.iload_n 3, 1) := by decide +kernel
theorem dX1_signedAfter_30 : decode cX1_signedAfter 30 = .ok (.invokevirtual 37, 3) := by decide +kernel
theorem dX1_signedAfter_33 : decode cX1_signedAfter 33 = .ok (.ishl, 1) := by decide +kernel
theorem dX1_signedAfter_34 : decode cX1_signedAfter 34 = .ok (.ior, 1) := by decide +kernel
theorem dX1_signedAfter_35 : decode cX1_signedAfter 35 = .ok (.istore_n 2, 1) := by decide +kernel
theorem dX1_signedAfter_36 : decode cX1_signedAfter 36 = .ok (.iinc 3 1, 3) := by decide +kernel
theorem dX1_signedAfter_39 : decode cX1_signedAfter 39 = .ok (.goto (-35), 3) := by decide +kernel
theorem dX1_signedAfter_42 : decode cX1_signedAfter 42 = .ok (.iload_n 2, 1) := by decide +kernel
theorem dX1_signedAfter_43 : decode cX1_signedAfter 43 = .ok (.ireturn, 1) := by decide +kernel
theorem dX1_stateAfter_0 : decode cX1_stateAfter 0 = .ok (.iconst 0, 1) := by decide +kernel
theorem dX1_stateAfter_1 : decode cX1_stateAfter 1 = .ok (.istore_n 3, 1) := by decide +kernel
theorem dX1_stateAfter_2 : decode cX1_stateAfter 2 = .ok (.iconst 0, 1) := by decide +kernel
theorem dX1_stateAfter_3 : decode cX1_stateAfter 3 = .ok (.istore 4, 2) := by decide +kernel
theorem dX1_stateAfter_5 : decode cX1_stateAfter 5 = .ok (.iconst 0, 1) := by decide +kernel
theorem dX1_stateAfter_6 : decode cX1_stateAfter 6 = .ok (.istore 5, 2) := by decide +kernel
theorem dX1_stateAfter_8 : decode cX1_stateAfter 8 = .ok (.iload 5, 2) := by decide +kernel
theorem dX1_stateAfter_10 : decode cX1_stateAfter 10 = .ok (.iload_n 1, 1) := by decide +kernel
theorem dX1_stateAfter_11 : decode cX1_stateAfter 11 = .ok (.if_icmp .ge 49, 3) := by decide +kernel
theorem dX1_stateAfter_14 : decode cX1_stateAfter 14 = .ok (.aload_n 0, 1) := by decide +kernel
theorem dX1_stateAfter_15 : decode cX1_stateAfter 15 = .ok (.getfield 14, 3) := by decide +kernel
theorem dX1_stateAfter_18 : decode cX1_stateAfter 18 = .ok (.iload 5, 2) := by decide +kernel
theorem dX1_stateAfter_20 : decode cX1_stateAfter 20 = .ok (.invokevirtual 37, 3) := by decide +kernel
theorem dX1_stateAfter_23 : decode cX1_stateAfter 23 = .ok (.istore 6, 2) := by decide +kernel
theorem dX1_stateAfter_25 : decode cX1_stateAfter 25 = .ok (.iload 6, 2) := by decide +kernel
theorem dX1_stateAfter_27 : decode cX1_stateAfter 27 = .ok (.invokestatic 42, 3) := by decide +kernel
theorem dX1_stateAfter_30 : decode cX1_stateAfter 30 = .ok (.ifCond .eq 6, 3) := by decide +kernel
theorem dX1_stateAfter_33 : decode cX1_stateAfter 33 = .ok (.iinc 4 1, 3) := by decide +kernel
theorem dX1_stateAfter_36 : decode cX1_stateAfter 36 = .ok (.iload 6, 2) := by decide +kernel
theorem dX1_stateAfter_38 : decode cX1_stateAfter 38 = .ok (.iload_n 3, 1) := by decide +kernel
theorem dX1_stateAfter_39 : decode cX1_stateAfter 39 = .ok (.iload 4, 2) := by decide +kernel
theorem dX1_stateAfter_41 : decode cX1_stateAfter 41 = .ok (.iload_n 2, 1) := by decide +kernel
theorem dX1_stateAfter_42 : decode cX1_stateAfter 42 = .ok (.if_icmp .ne 7, 3) := by decide +kernel
theorem dX1_stateAfter_45 : decode cX1_stateAfter 45 = .ok (.iconst 1, 1) := by decide +kernel
theorem dX1_stateAfter_46 : decode cX1_stateAfter 46 = .ok (.goto 4, 3) := by decide +kernel
theorem dX1_stateAfter_49 : decode cX1_stateAfter 49 = .ok (.iconst 0, 1) := by decide +kernel
theorem dX1_stateAfter_50 : decode cX1_stateAfter 50 = .ok (.invokestatic 46, 3) := by decide +kernel
theorem dX1_stateAfter_53 : decode cX1_stateAfter 53 = .ok (.istore_n 3, 1) := by decide +kernel
theorem dX1_stateAfter_54 : decode cX1_stateAfter 54 = .ok (.iinc 5 1, 3) := by decide +kernel
theorem dX1_stateAfter_57 : decode cX1_stateAfter 57 = .ok (.goto (-49), 3) := by decide +kernel
theorem dX1_stateAfter_60 : decode cX1_stateAfter 60 = .ok (.iload_n 3, 1) := by decide +kernel
theorem dX1_stateAfter_61 : decode cX1_stateAfter 61 = .ok (.ireturn, 1) := by decide +kernel
theorem dX1_isSigning_0 : decode cX1_isSigning 0 = .ok (.iload_n 0, 1) := by decide +kernel
theorem dX1_isSigning_1 : decode cX1_isSigning 1 = .ok (.iconst 1, 1) := by decide +kernel
theorem dX1_isSigning_2 : decode cX1_isSigning 2 = .ok (.if_icmp .eq 8, 3) := by decide +kernel
theorem dX1_isSigning_5 : decode cX1_isSigning 5 = .ok (.iload_n 0, 1) := by decide +kernel
theorem dX1_isSigning_6 : decode cX1_isSigning 6 = .ok (.iconst 2, 1) := by decide +kernel
theorem dX1_isSigning_7 : decode cX1_isSigning 7 = .ok (.if_icmp .ne 7, 3) := by decide +kernel
theorem dX1_isSigning_10 : decode cX1_isSigning 10 = .ok (.iconst 1, 1) := by decide +kernel
theorem dX1_isSigning_11 : decode cX1_isSigning 11 = .ok (.goto 4, 3) := by decide +kernel
theorem dX1_isSigning_14 : decode cX1_isSigning 14 = .ok (.iconst 0, 1) := by decide +kernel
theorem dX1_isSigning_15 : decode cX1_isSigning 15 = .ok (.ireturn, 1) := by decide +kernel
theorem dX1_stateWith_0 : decode cX1_stateWith 0 = .ok (.iload_n 0, 1) := by decide +kernel
theorem dX1_stateWith_1 : decode cX1_stateWith 1 = .ok (.tableswitch 57 0 5 #[39, 41, 41, 51, 53, 55], 39) := by decide +kernel
theorem dX1_stateWith_40 : decode cX1_stateWith 40 = .ok (.iconst 1, 1) := by decide +kernel
theorem dX1_stateWith_41 : decode cX1_stateWith 41 = .ok (.ireturn, 1) := by decide +kernel
theorem dX1_stateWith_42 : decode cX1_stateWith 42 = .ok (.iload_n 2, 1) := by decide +kernel
theorem dX1_stateWith_43 : decode cX1_stateWith 43 = .ok (.ifCond .eq 7, 3) := by decide +kernel
theorem dX1_stateWith_46 : decode cX1_stateWith 46 = .ok (.iconst 2, 1) := by decide +kernel
theorem dX1_stateWith_47 : decode cX1_stateWith 47 = .ok (.goto 4, 3) := by decide +kernel
theorem dX1_stateWith_50 : decode cX1_stateWith 50 = .ok (.iload_n 1, 1) := by decide +kernel
theorem dX1_stateWith_51 : decode cX1_stateWith 51 = .ok (.ireturn, 1) := by decide +kernel
theorem dX1_stateWith_52 : decode cX1_stateWith 52 = .ok (.iconst 3, 1) := by decide +kernel
theorem dX1_stateWith_53 : decode cX1_stateWith 53 = .ok (.ireturn, 1) := by decide +kernel
theorem dX1_stateWith_54 : decode cX1_stateWith 54 = .ok (.iconst 4, 1) := by decide +kernel
theorem dX1_stateWith_55 : decode cX1_stateWith 55 = .ok (.ireturn, 1) := by decide +kernel
theorem dX1_stateWith_56 : decode cX1_stateWith 56 = .ok (.iconst 5, 1) := by decide +kernel
theorem dX1_stateWith_57 : decode cX1_stateWith 57 = .ok (.ireturn, 1) := by decide +kernel
theorem dX1_stateWith_58 : decode cX1_stateWith 58 = .ok (.iload_n 1, 1) := by decide +kernel
theorem dX1_stateWith_59 : decode cX1_stateWith 59 = .ok (.ireturn, 1) := by decide +kernel
theorem dX2_init_0 : decode cX2_init 0 = .ok (.aload_n 0, 1) := by decide +kernel
theorem dX2_init_1 : decode cX2_init 1 = .ok (.invokespecial 1, 3) := by decide +kernel
theorem dX2_init_4 : decode cX2_init 4 = .ok (.aload_n 0, 1) := by decide +kernel
theorem dX2_init_5 : decode cX2_init 5 = .ok (.iload_n 1, 1) := by decide +kernel
theorem dX2_init_6 : decode cX2_init 6 = .ok (.ifCond .ge 7, 3) := by decide +kernel
theorem dX2_init_9 : decode cX2_init 9 = .ok (.iconst 0, 1) := by decide +kernel
theorem dX2_init_10 : decode cX2_init 10 = .ok (.goto 4, 3) := by decide +kernel
theorem dX2_init_13 : decode cX2_init 13 = .ok (.iload_n 1, 1) := by decide +kernel
theorem dX2_init_14 : decode cX2_init 14 = .ok (.newarray .int, 2) := by decide +kernel
theorem dX2_init_16 : decode cX2_init 16 = .ok (.putfield 7, 3) := by decide +kernel
theorem dX2_init_19 : decode cX2_init 19 = .ok (.return_, 1) := by decide +kernel
theorem dX2_get_0 : decode cX2_get 0 = .ok (.iload_n 1, 1) := by decide +kernel
theorem dX2_get_1 : decode cX2_get 1 = .ok (.ifCond .lt 12, 3) := by decide +kernel
theorem dX2_get_4 : decode cX2_get 4 = .ok (.iload_n 1, 1) := by decide +kernel
theorem dX2_get_5 : decode cX2_get 5 = .ok (.aload_n 0, 1) := by decide +kernel
theorem dX2_get_6 : decode cX2_get 6 = .ok (.getfield 7, 3) := by decide +kernel
theorem dX2_get_9 : decode cX2_get 9 = .ok (.arraylength, 1) := by decide +kernel
theorem dX2_get_10 : decode cX2_get 10 = .ok (.if_icmp .lt 7, 3) := by decide +kernel
theorem dX2_get_13 : decode cX2_get 13 = .ok (.iconst 0, 1) := by decide +kernel
theorem dX2_get_14 : decode cX2_get 14 = .ok (.goto 9, 3) := by decide +kernel
theorem dX2_get_17 : decode cX2_get 17 = .ok (.aload_n 0, 1) := by decide +kernel
theorem dX2_get_18 : decode cX2_get 18 = .ok (.getfield 7, 3) := by decide +kernel
theorem dX2_get_21 : decode cX2_get 21 = .ok (.iload_n 1, 1) := by decide +kernel
theorem dX2_get_22 : decode cX2_get 22 = .ok (.iaload, 1) := by decide +kernel
theorem dX2_get_23 : decode cX2_get 23 = .ok (.ireturn, 1) := by decide +kernel
theorem dX2_set_0 : decode cX2_set 0 = .ok (.iload_n 1, 1) := by decide +kernel
theorem dX2_set_1 : decode cX2_set 1 = .ok (.ifCond .lt 19, 3) := by decide +kernel
theorem dX2_set_4 : decode cX2_set 4 = .ok (.iload_n 1, 1) := by decide +kernel
theorem dX2_set_5 : decode cX2_set 5 = .ok (.aload_n 0, 1) := by decide +kernel
theorem dX2_set_6 : decode cX2_set 6 = .ok (.getfield 7, 3) := by decide +kernel
theorem dX2_set_9 : decode cX2_set 9 = .ok (.arraylength, 1) := by decide +kernel
theorem dX2_set_10 : decode cX2_set 10 = .ok (.if_icmp .ge 10, 3) := by decide +kernel
theorem dX2_set_13 : decode cX2_set 13 = .ok (.aload_n 0, 1) := by decide +kernel
theorem dX2_set_14 : decode cX2_set 14 = .ok (.getfield 7, 3) := by decide +kernel
theorem dX2_set_17 : decode cX2_set 17 = .ok (.iload_n 1, 1) := by decide +kernel
theorem dX2_set_18 : decode cX2_set 18 = .ok (.iload_n 2, 1) := by decide +kernel
theorem dX2_set_19 : decode cX2_set 19 = .ok (.iastore, 1) := by decide +kernel
theorem dX2_set_20 : decode cX2_set 20 = .ok (.return_, 1) := by decide +kernel
theorem dX3_init_0 : decode cX3_init 0 = .ok (.aload_n 0, 1) := by decide +kernel
theorem dX3_init_1 : decode cX3_init 1 = .ok (.invokespecial 3, 3) := by decide +kernel
theorem dX3_init_4 : decode cX3_init 4 = .ok (.aload_n 0, 1) := by decide +kernel
theorem dX3_init_5 : decode cX3_init 5 = .ok (.iconst (-1), 1) := by decide +kernel
theorem dX3_init_6 : decode cX3_init 6 = .ok (.putfield 9, 3) := by decide +kernel
theorem dX3_init_9 : decode cX3_init 9 = .ok (.return_, 1) := by decide +kernel
theorem dX3_otherOn_0 : decode cX3_otherOn 0 = .ok (.aload_n 0, 1) := by decide +kernel
theorem dX3_otherOn_1 : decode cX3_otherOn 1 = .ok (.getfield 15, 3) := by decide +kernel
theorem dX3_otherOn_4 : decode cX3_otherOn 4 = .ok (.iload_n 1, 1) := by decide +kernel
theorem dX3_otherOn_5 : decode cX3_otherOn 5 = .ok (.if_icmp .gt 18, 3) := by decide +kernel
theorem dX3_otherOn_8 : decode cX3_otherOn 8 = .ok (.iload_n 1, 1) := by decide +kernel
theorem dX3_otherOn_9 : decode cX3_otherOn 9 = .ok (.aload_n 0, 1) := by decide +kernel
theorem dX3_otherOn_10 : decode cX3_otherOn 10 = .ok (.getfield 18, 3) := by decide +kernel
theorem dX3_otherOn_13 : decode cX3_otherOn 13 = .ok (.if_icmp .gt 10, 3) := by decide +kernel
theorem dX3_otherOn_16 : decode cX3_otherOn 16 = .ok (.aload_n 0, 1) := by decide +kernel
theorem dX3_otherOn_17 : decode cX3_otherOn 17 = .ok (.getfield 9, 3) := by decide +kernel
theorem dX3_otherOn_20 : decode cX3_otherOn 20 = .ok (.goto 4, 3) := by decide +kernel
theorem dX3_otherOn_23 : decode cX3_otherOn 23 = .ok (.iconst (-1), 1) := by decide +kernel
theorem dX3_otherOn_24 : decode cX3_otherOn 24 = .ok (.ireturn, 1) := by decide +kernel
theorem dX4_init_0 : decode cX4_init 0 = .ok (.aload_n 0, 1) := by decide +kernel
theorem dX4_init_1 : decode cX4_init 1 = .ok (.invokespecial 3, 3) := by decide +kernel
theorem dX4_init_4 : decode cX4_init 4 = .ok (.aload_n 0, 1) := by decide +kernel
theorem dX4_init_5 : decode cX4_init 5 = .ok (.bipush 6, 2) := by decide +kernel
theorem dX4_init_7 : decode cX4_init 7 = .ok (.anewarray 9, 3) := by decide +kernel
theorem dX4_init_10 : decode cX4_init 10 = .ok (.putfield 11, 3) := by decide +kernel
theorem dX4_init_13 : decode cX4_init 13 = .ok (.aload_n 0, 1) := by decide +kernel
theorem dX4_init_14 : decode cX4_init 14 = .ok (.bipush 8, 2) := by decide +kernel
theorem dX4_init_16 : decode cX4_init 16 = .ok (.anewarray 15, 3) := by decide +kernel
theorem dX4_init_19 : decode cX4_init 19 = .ok (.putfield 17, 3) := by decide +kernel
theorem dX4_init_22 : decode cX4_init 22 = .ok (.aload_n 0, 1) := by decide +kernel
theorem dX4_init_23 : decode cX4_init 23 = .ok (.new 21, 3) := by decide +kernel
theorem dX4_init_26 : decode cX4_init 26 = .ok (.dup, 1) := by decide +kernel
theorem dX4_init_27 : decode cX4_init 27 = .ok (.sipush 256, 3) := by decide +kernel
theorem dX4_init_30 : decode cX4_init 30 = .ok (.invokespecial 23, 3) := by decide +kernel
theorem dX4_init_33 : decode cX4_init 33 = .ok (.putfield 26, 3) := by decide +kernel
theorem dX4_init_36 : decode cX4_init 36 = .ok (.iconst 0, 1) := by decide +kernel
theorem dX4_init_37 : decode cX4_init 37 = .ok (.istore_n 1, 1) := by decide +kernel
theorem dX4_init_38 : decode cX4_init 38 = .ok (.iload_n 1, 1) := by decide +kernel
theorem dX4_init_39 : decode cX4_init 39 = .ok (.aload_n 0, 1) := by decide +kernel
theorem dX4_init_40 : decode cX4_init 40 = .ok (.getfield 17, 3) := by decide +kernel
theorem dX4_init_43 : decode cX4_init 43 = .ok (.arraylength, 1) := by decide +kernel
theorem dX4_init_44 : decode cX4_init 44 = .ok (.if_icmp .ge 22, 3) := by decide +kernel
theorem dX4_init_47 : decode cX4_init 47 = .ok (.aload_n 0, 1) := by decide +kernel
theorem dX4_init_48 : decode cX4_init 48 = .ok (.getfield 17, 3) := by decide +kernel
theorem dX4_init_51 : decode cX4_init 51 = .ok (.iload_n 1, 1) := by decide +kernel
theorem dX4_init_52 : decode cX4_init 52 = .ok (.new 15, 3) := by decide +kernel
theorem dX4_init_55 : decode cX4_init 55 = .ok (.dup, 1) := by decide +kernel
theorem dX4_init_56 : decode cX4_init 56 = .ok (.invokespecial 30, 3) := by decide +kernel
theorem dX4_init_59 : decode cX4_init 59 = .ok (.aastore, 1) := by decide +kernel
theorem dX4_init_60 : decode cX4_init 60 = .ok (.iinc 1 1, 3) := by decide +kernel
theorem dX4_init_63 : decode cX4_init 63 = .ok (.goto (-25), 3) := by decide +kernel
theorem dX4_init_66 : decode cX4_init 66 = .ok (.return_, 1) := by decide +kernel
theorem dX4_draft_0 : decode cX4_draft 0 = .ok (.aload_n 0, 1) := by decide +kernel
theorem dX4_draft_1 : decode cX4_draft 1 = .ok (.getfield 31, 3) := by decide +kernel
theorem dX4_draft_4 : decode cX4_draft 4 = .ok (.aload_n 0, 1) := by decide +kernel
theorem dX4_draft_5 : decode cX4_draft 5 = .ok (.getfield 11, 3) := by decide +kernel
theorem dX4_draft_8 : decode cX4_draft 8 = .ok (.arraylength, 1) := by decide +kernel
theorem dX4_draft_9 : decode cX4_draft 9 = .ok (.if_icmp .lt 13, 3) := by decide +kernel
theorem dX4_draft_12 : decode cX4_draft 12 = .ok (.new 35, 3) := by decide +kernel
theorem dX4_draft_15 : decode cX4_draft 15 = .ok (.dup, 1) := by decide +kernel
theorem dX4_draft_16 : decode cX4_draft 16 = .ok (.ldc 37, 2) := by decide +kernel
theorem dX4_draft_18 : decode cX4_draft 18 = .ok (.invokespecial 39, 3) := by decide +kernel
theorem dX4_draft_21 : decode cX4_draft 21 = .ok (.athrow, 1) := by decide +kernel
theorem dX4_draft_22 : decode cX4_draft 22 = .ok (.aload_n 0, 1) := by decide +kernel
theorem dX4_draft_23 : decode cX4_draft 23 = .ok (.getfield 11, 3) := by decide +kernel
theorem dX4_draft_26 : decode cX4_draft 26 = .ok (.aload_n 0, 1) := by decide +kernel
theorem dX4_draft_27 : decode cX4_draft 27 = .ok (.getfield 31, 3) := by decide +kernel
theorem dX4_draft_30 : decode cX4_draft 30 = .ok (.new 9, 3) := by decide +kernel
theorem dX4_draft_33 : decode cX4_draft 33 = .ok (.dup, 1) := by decide +kernel
theorem dX4_draft_34 : decode cX4_draft 34 = .ok (.invokespecial 42, 3) := by decide +kernel
theorem dX4_draft_37 : decode cX4_draft 37 = .ok (.aastore, 1) := by decide +kernel
theorem dX4_draft_38 : decode cX4_draft 38 = .ok (.aload_n 0, 1) := by decide +kernel
theorem dX4_draft_39 : decode cX4_draft 39 = .ok (.dup, 1) := by decide +kernel
theorem dX4_draft_40 : decode cX4_draft 40 = .ok (.getfield 31, 3) := by decide +kernel
theorem dX4_draft_43 : decode cX4_draft 43 = .ok (.iconst 1, 1) := by decide +kernel
theorem dX4_draft_44 : decode cX4_draft 44 = .ok (.iadd, 1) := by decide +kernel
theorem dX4_draft_45 : decode cX4_draft 45 = .ok (.putfield 31, 3) := by decide +kernel
theorem dX4_draft_48 : decode cX4_draft 48 = .ok (.aload_n 0, 1) := by decide +kernel
theorem dX4_draft_49 : decode cX4_draft 49 = .ok (.getfield 31, 3) := by decide +kernel
theorem dX4_draft_52 : decode cX4_draft 52 = .ok (.iconst 1, 1) := by decide +kernel
theorem dX4_draft_53 : decode cX4_draft 53 = .ok (.isub, 1) := by decide +kernel
theorem dX4_draft_54 : decode cX4_draft 54 = .ok (.ireturn, 1) := by decide +kernel
theorem dX4_addSlot_0 : decode cX4_addSlot 0 = .ok (.aload_n 0, 1) := by decide +kernel
theorem dX4_addSlot_1 : decode cX4_addSlot 1 = .ok (.iload_n 1, 1) := by decide +kernel
theorem dX4_addSlot_2 : decode cX4_addSlot 2 = .ok (.invokevirtual 43, 3) := by decide +kernel
theorem dX4_addSlot_5 : decode cX4_addSlot 5 = .ok (.astore 4, 2) := by decide +kernel
theorem dX4_addSlot_7 : decode cX4_addSlot 7 = .ok (.iload_n 2, 1) := by decide +kernel
theorem dX4_addSlot_8 : decode cX4_addSlot 8 = .ok (.invokestatic 47, 3) := by decide +kernel
theorem dX4_addSlot_11 : decode cX4_addSlot 11 = .ok (.iload_n 3, 1) := by decide +kernel
theorem dX4_addSlot_12 : decode cX4_addSlot 12 = .ok (.ifCond .lt 12, 3) := by decide +kernel
theorem dX4_addSlot_15 : decode cX4_addSlot 15 = .ok (.iload_n 3, 1) := by decide +kernel
theorem dX4_addSlot_16 : decode cX4_addSlot 16 = .ok (.aload 4, 2) := by decide +kernel
theorem dX4_addSlot_18 : decode cX4_addSlot 18 = .ok (.invokevirtual 50, 3) := by decide +kernel
theorem dX4_addSlot_21 : decode cX4_addSlot 21 = .ok (.if_icmp .le 13, 3) := by decide +kernel
theorem dX4_addSlot_24 : decode cX4_addSlot 24 = .ok (.new 54, 3) := by decide +kernel
theorem dX4_addSlot_27 : decode cX4_addSlot 27 = .ok (.dup, 1) := by decide +kernel
theorem dX4_addSlot_28 : decode cX4_addSlot 28 = .ok (.ldc 56, 2) := by decide +kernel
theorem dX4_addSlot_30 : decode cX4_addSlot 30 = .ok (.invokespecial 58, 3) := by decide +kernel
theorem dX4_addSlot_33 : decode cX4_addSlot 33 = .ok (.athrow, 1) := by decide +kernel
theorem dX4_addSlot_34 : decode cX4_addSlot 34 = .ok (.aload 4, 2) := by decide +kernel
theorem dX4_addSlot_36 : decode cX4_addSlot 36 = .ok (.invokestatic 59, 3) := by decide +kernel
theorem dX4_addSlot_39 : decode cX4_addSlot 39 = .ok (.aload 4, 2) := by decide +kernel
theorem dX4_addSlot_41 : decode cX4_addSlot 41 = .ok (.getfield 63, 3) := by decide +kernel
theorem dX4_addSlot_44 : decode cX4_addSlot 44 = .ok (.bipush 8, 2) := by decide +kernel
theorem dX4_addSlot_46 : decode cX4_addSlot 46 = .ok (.if_icmp .lt 13, 3) := by decide +kernel
theorem dX4_addSlot_49 : decode cX4_addSlot 49 = .ok (.new 35, 3) := by decide +kernel
theorem dX4_addSlot_52 : decode cX4_addSlot 52 = .ok (.dup, 1) := by decide +kernel
theorem dX4_addSlot_53 : decode cX4_addSlot 53 = .ok (.ldc 66, 2) := by decide +kernel
theorem dX4_addSlot_55 : decode cX4_addSlot 55 = .ok (.invokespecial 39, 3) := by decide +kernel
theorem dX4_addSlot_58 : decode cX4_addSlot 58 = .ok (.athrow, 1) := by decide +kernel
theorem dX4_addSlot_59 : decode cX4_addSlot 59 = .ok (.aload 4, 2) := by decide +kernel
theorem dX4_addSlot_61 : decode cX4_addSlot 61 = .ok (.iload_n 2, 1) := by decide +kernel
theorem dX4_addSlot_62 : decode cX4_addSlot 62 = .ok (.iload_n 3, 1) := by decide +kernel
theorem dX4_addSlot_63 : decode cX4_addSlot 63 = .ok (.invokevirtual 68, 3) := by decide +kernel
theorem dX4_addSlot_66 : decode cX4_addSlot 66 = .ok (.aload 4, 2) := by decide +kernel
theorem dX4_addSlot_68 : decode cX4_addSlot 68 = .ok (.getfield 63, 3) := by decide +kernel
theorem dX4_addSlot_71 : decode cX4_addSlot 71 = .ok (.iconst 1, 1) := by decide +kernel
theorem dX4_addSlot_72 : decode cX4_addSlot 72 = .ok (.isub, 1) := by decide +kernel
theorem dX4_addSlot_73 : decode cX4_addSlot 73 = .ok (.ireturn, 1) := by decide +kernel
theorem dX4_addRound_0 : decode cX4_addRound 0 = .ok (.aload_n 0, 1) := by decide +kernel
theorem dX4_addRound_1 : decode cX4_addRound 1 = .ok (.iload_n 1, 1) := by decide +kernel
theorem dX4_addRound_2 : decode cX4_addRound 2 = .ok (.invokevirtual 43, 3) := by decide +kernel
theorem dX4_addRound_5 : decode cX4_addRound 5 = .ok (.astore_n 3, 1) := by decide +kernel
theorem dX4_addRound_6 : decode cX4_addRound 6 = .ok (.iload_n 2, 1) := by decide +kernel
theorem dX4_addRound_7 : decode cX4_addRound 7 = .ok (.iconst 1, 1) := by decide +kernel
theorem dX4_addRound_8 : decode cX4_addRound 8 = .ok (.if_icmp .lt 10, 3) := by decide +kernel
theorem dX4_addRound_11 : decode cX4_addRound 11 = .ok (.iload_n 2, 1) := by decide +kernel
theorem dX4_addRound_12 : decode cX4_addRound 12 = .ok (.sipush 256, 3) := by decide +kernel
theorem dX4_addRound_15 : decode cX4_addRound 15 = .ok (.if_icmp .lt 13, 3) := by decide +kernel
theorem dX4_addRound_18 : decode cX4_addRound 18 = .ok (.new 54, 3) := by decide +kernel
theorem dX4_addRound_21 : decode cX4_addRound 21 = .ok (.dup, 1) := by decide +kernel
theorem dX4_addRound_22 : decode cX4_addRound 22 = .ok (.ldc 72, 2) := by decide +kernel
theorem dX4_addRound_24 : decode cX4_addRound 24 = .ok (.invokespecial 58, 3) := by decide +kernel
theorem dX4_addRound_27 : decode cX4_addRound 27 = .ok (.athrow, 1) := by decide +kernel
theorem dX4_addRound_28 : decode cX4_addRound 28 = .ok (.aload_n 3, 1) := by decide +kernel
theorem dX4_addRound_29 : decode cX4_addRound 29 = .ok (.invokestatic 59, 3) := by decide +kernel
theorem dX4_addRound_32 : decode cX4_addRound 32 = .ok (.aload_n 3, 1) := by decide +kernel
theorem dX4_addRound_33 : decode cX4_addRound 33 = .ok (.getfield 63, 3) := by decide +kernel
theorem dX4_addRound_36 : decode cX4_addRound 36 = .ok (.iload_n 2, 1) := by decide +kernel
theorem dX4_addRound_37 : decode cX4_addRound 37 = .ok (.invokestatic 74, 3) := by decide +kernel
theorem dX4_addRound_40 : decode cX4_addRound 40 = .ok (.iadd, 1) := by decide +kernel
theorem dX4_addRound_41 : decode cX4_addRound 41 = .ok (.bipush 8, 2) := by decide +kernel
theorem dX4_addRound_43 : decode cX4_addRound 43 = .ok (.if_icmp .le 13, 3) := by decide +kernel
theorem dX4_addRound_46 : decode cX4_addRound 46 = .ok (.new 35, 3) := by decide +kernel
theorem dX4_addRound_49 : decode cX4_addRound 49 = .ok (.dup, 1) := by decide +kernel
theorem dX4_addRound_50 : decode cX4_addRound 50 = .ok (.ldc 80, 2) := by decide +kernel
theorem dX4_addRound_52 : decode cX4_addRound 52 = .ok (.invokespecial 39, 3) := by decide +kernel
theorem dX4_addRound_55 : decode cX4_addRound 55 = .ok (.athrow, 1) := by decide +kernel
theorem dX4_addRound_56 : decode cX4_addRound 56 = .ok (.aload_n 3, 1) := by decide +kernel
theorem dX4_addRound_57 : decode cX4_addRound 57 = .ok (.invokevirtual 50, 3) := by decide +kernel
theorem dX4_addRound_60 : decode cX4_addRound 60 = .ok (.istore 4, 2) := by decide +kernel
theorem dX4_addRound_62 : decode cX4_addRound 62 = .ok (.iconst 0, 1) := by decide +kernel
theorem dX4_addRound_63 : decode cX4_addRound 63 = .ok (.istore 5, 2) := by decide +kernel
theorem dX4_addRound_65 : decode cX4_addRound 65 = .ok (.iload 5, 2) := by decide +kernel
theorem dX4_addRound_67 : decode cX4_addRound 67 = .ok (.bipush 8, 2) := by decide +kernel
theorem dX4_addRound_69 : decode cX4_addRound 69 = .ok (.if_icmp .ge 26, 3) := by decide +kernel
theorem dX4_addRound_72 : decode cX4_addRound 72 = .ok (.iload_n 2, 1) := by decide +kernel
theorem dX4_addRound_73 : decode cX4_addRound 73 = .ok (.iload 5, 2) := by decide +kernel
theorem dX4_addRound_75 : decode cX4_addRound 75 = .ok (.invokestatic 82, 3) := by decide +kernel
theorem dX4_addRound_78 : decode cX4_addRound 78 = .ok (.ifCond .eq 11, 3) := by decide +kernel
theorem dX4_addRound_81 : decode cX4_addRound 81 = .ok (.aload_n 3, 1) := by decide +kernel
theorem dX4_addRound_82 : decode cX4_addRound 82 = .ok (.iload 5, 2) := by decide +kernel
theorem dX4_addRound_84 : decode cX4_addRound 84 = .ok (.iload 4, 2) := by decide +kernel
theorem dX4_addRound_86 : decode cX4_addRound 86 = .ok (.invokevirtual 68, 3) := by decide +kernel
theorem dX4_addRound_89 : decode cX4_addRound 89 = .ok (.iinc 5 1, 3) := by decide +kernel
theorem dX4_addRound_92 : decode cX4_addRound 92 = .ok (.goto (-27), 3) := by decide +kernel
theorem dX4_addRound_95 : decode cX4_addRound 95 = .ok (.aload_n 3, 1) := by decide +kernel
theorem dX4_addRound_96 : decode cX4_addRound 96 = .ok (.getfield 63, 3) := by decide +kernel
theorem dX4_addRound_99 : decode cX4_addRound 99 = .ok (.ireturn, 1) := by decide +kernel
theorem dX4_setTimes_0 : decode cX4_setTimes 0 = .ok (.aload_n 0, 1) := by decide +kernel
theorem dX4_setTimes_1 : decode cX4_setTimes 1 = .ok (.iload_n 1, 1) := by decide +kernel
theorem dX4_setTimes_2 : decode cX4_setTimes 2 = .ok (.invokevirtual 43, 3) := by decide +kernel
theorem dX4_setTimes_5 : decode cX4_setTimes 5 = .ok (.astore 4, 2) := by decide +kernel
theorem dX4_setTimes_7 : decode cX4_setTimes 7 = .ok (.iload_n 2, 1) := by decide +kernel
theorem dX4_setTimes_8 : decode cX4_setTimes 8 = .ok (.ifCond .lt 9, 3) := by decide +kernel
theorem dX4_setTimes_11 : decode cX4_setTimes 11 = .ok (.iload_n 2, 1) := by decide +kernel
theorem dX4_setTimes_12 : decode cX4_setTimes 12 = .ok (.bipush 30, 2) := by decide +kernel
theorem dX4_setTimes_14 : decode cX4_setTimes 14 = .ok (.if_icmp .le 13, 3) := by decide +kernel
theorem dX4_setTimes_17 : decode cX4_setTimes 17 = .ok (.new 54, 3) := by decide +kernel
theorem dX4_setTimes_20 : decode cX4_setTimes 20 = .ok (.dup, 1) := by decide +kernel
theorem dX4_setTimes_21 : decode cX4_setTimes 21 = .ok (.ldc 86, 2) := by decide +kernel
theorem dX4_setTimes_23 : decode cX4_setTimes 23 = .ok (.invokespecial 58, 3) := by decide +kernel
theorem dX4_setTimes_26 : decode cX4_setTimes 26 = .ok (.athrow, 1) := by decide +kernel
theorem dX4_setTimes_27 : decode cX4_setTimes 27 = .ok (.iload_n 3, 1) := by decide +kernel
theorem dX4_setTimes_28 : decode cX4_setTimes 28 = .ok (.ifCond .lt 9, 3) := by decide +kernel
theorem dX4_setTimes_31 : decode cX4_setTimes 31 = .ok (.iload_n 3, 1) := by decide +kernel
theorem dX4_setTimes_32 : decode cX4_setTimes 32 = .ok (.bipush 60, 2) := by decide +kernel
theorem dX4_setTimes_34 : decode cX4_setTimes 34 = .ok (.if_icmp .le 13, 3) := by decide +kernel
theorem dX4_setTimes_37 : decode cX4_setTimes 37 = .ok (.new 54, 3) := by decide +kernel
theorem dX4_setTimes_40 : decode cX4_setTimes 40 = .ok (.dup, 1) := by decide +kernel
theorem dX4_setTimes_41 : decode cX4_setTimes 41 = .ok (.ldc 88, 2) := by decide +kernel
theorem dX4_setTimes_43 : decode cX4_setTimes 43 = .ok (.invokespecial 58, 3) := by decide +kernel
theorem dX4_setTimes_46 : decode cX4_setTimes 46 = .ok (.athrow, 1) := by decide +kernel
theorem dX4_setTimes_47 : decode cX4_setTimes 47 = .ok (.aload 4, 2) := by decide +kernel
theorem dX4_setTimes_49 : decode cX4_setTimes 49 = .ok (.invokestatic 59, 3) := by decide +kernel
theorem dX4_setTimes_52 : decode cX4_setTimes 52 = .ok (.aload 4, 2) := by decide +kernel
theorem dX4_setTimes_54 : decode cX4_setTimes 54 = .ok (.iload_n 2, 1) := by decide +kernel
theorem dX4_setTimes_55 : decode cX4_setTimes 55 = .ok (.putfield 90, 3) := by decide +kernel
theorem dX4_setTimes_58 : decode cX4_setTimes 58 = .ok (.aload 4, 2) := by decide +kernel
theorem dX4_setTimes_60 : decode cX4_setTimes 60 = .ok (.iload_n 3, 1) := by decide +kernel
theorem dX4_setTimes_61 : decode cX4_setTimes 61 = .ok (.putfield 93, 3) := by decide +kernel
theorem dX4_setTimes_64 : decode cX4_setTimes 64 = .ok (.return_, 1) := by decide +kernel
theorem dX4_send_0 : decode cX4_send 0 = .ok (.aload_n 0, 1) := by decide +kernel
theorem dX4_send_1 : decode cX4_send 1 = .ok (.iload_n 1, 1) := by decide +kernel
theorem dX4_send_2 : decode cX4_send 2 = .ok (.invokevirtual 43, 3) := by decide +kernel
theorem dX4_send_5 : decode cX4_send 5 = .ok (.astore_n 2, 1) := by decide +kernel
theorem dX4_send_6 : decode cX4_send 6 = .ok (.aload_n 2, 1) := by decide +kernel
theorem dX4_send_7 : decode cX4_send 7 = .ok (.invokestatic 59, 3) := by decide +kernel
theorem dX4_send_10 : decode cX4_send 10 = .ok (.aload_n 2, 1) := by decide +kernel
theorem dX4_send_11 : decode cX4_send 11 = .ok (.getfield 63, 3) := by decide +kernel
theorem dX4_send_14 : decode cX4_send 14 = .ok (.ifCond .ne 13, 3) := by decide +kernel
theorem dX4_send_17 : decode cX4_send 17 = .ok (.new 35, 3) := by decide +kernel
theorem dX4_send_20 : decode cX4_send 20 = .ok (.dup, 1) := by decide +kernel
theorem dX4_send_21 : decode cX4_send 21 = .ok (.ldc 96, 2) := by decide +kernel
theorem dX4_send_23 : decode cX4_send 23 = .ok (.invokespecial 39, 3) := by decide +kernel
theorem dX4_send_26 : decode cX4_send 26 = .ok (.athrow, 1) := by decide +kernel
theorem dX4_send_27 : decode cX4_send 27 = .ok (.aload_n 2, 1) := by decide +kernel
theorem dX4_send_28 : decode cX4_send 28 = .ok (.aload_n 0, 1) := by decide +kernel
theorem dX4_send_29 : decode cX4_send 29 = .ok (.getfield 98, 3) := by decide +kernel
theorem dX4_send_32 : decode cX4_send 32 = .ok (.invokevirtual 101, 3) := by decide +kernel
theorem dX4_send_35 : decode cX4_send 35 = .ok (.ireturn, 1) := by decide +kernel
theorem dX4_sign_0 : decode cX4_sign 0 = .ok (.iload_n 1, 1) := by decide +kernel
theorem dX4_sign_1 : decode cX4_sign 1 = .ok (.invokestatic 47, 3) := by decide +kernel
theorem dX4_sign_4 : decode cX4_sign 4 = .ok (.aload_n 0, 1) := by decide +kernel
theorem dX4_sign_5 : decode cX4_sign 5 = .ok (.iload_n 2, 1) := by decide +kernel
theorem dX4_sign_6 : decode cX4_sign 6 = .ok (.invokevirtual 43, 3) := by decide +kernel
theorem dX4_sign_9 : decode cX4_sign 9 = .ok (.astore 4, 2) := by decide +kernel
theorem dX4_sign_11 : decode cX4_sign 11 = .ok (.aload 4, 2) := by decide +kernel
theorem dX4_sign_13 : decode cX4_sign 13 = .ok (.iload_n 3, 1) := by decide +kernel
theorem dX4_sign_14 : decode cX4_sign 14 = .ok (.invokestatic 104, 3) := by decide +kernel
theorem dX4_sign_17 : decode cX4_sign 17 = .ok (.aload_n 0, 1) := by decide +kernel
theorem dX4_sign_18 : decode cX4_sign 18 = .ok (.iload_n 1, 1) := by decide +kernel
theorem dX4_sign_19 : decode cX4_sign 19 = .ok (.aload 4, 2) := by decide +kernel
theorem dX4_sign_21 : decode cX4_sign 21 = .ok (.iload_n 3, 1) := by decide +kernel
theorem dX4_sign_22 : decode cX4_sign 22 = .ok (.invokevirtual 108, 3) := by decide +kernel
theorem dX4_sign_25 : decode cX4_sign 25 = .ok (.istore 5, 2) := by decide +kernel
theorem dX4_sign_27 : decode cX4_sign 27 = .ok (.iload 5, 2) := by decide +kernel
theorem dX4_sign_29 : decode cX4_sign 29 = .ok (.ifCond .eq 19, 3) := by decide +kernel
theorem dX4_sign_32 : decode cX4_sign 32 = .ok (.iload 5, 2) := by decide +kernel
theorem dX4_sign_34 : decode cX4_sign 34 = .ok (.iconst 1, 1) := by decide +kernel
theorem dX4_sign_35 : decode cX4_sign 35 = .ok (.if_icmp .eq 13, 3) := by decide +kernel
theorem dX4_sign_38 : decode cX4_sign 38 = .ok (.new 35, 3) := by decide +kernel
theorem dX4_sign_41 : decode cX4_sign 41 = .ok (.dup, 1) := by decide +kernel
theorem dX4_sign_42 : decode cX4_sign 42 = .ok (.ldc 112, 2) := by decide +kernel
theorem dX4_sign_44 : decode cX4_sign 44 = .ok (.invokespecial 39, 3) := by decide +kernel
theorem dX4_sign_47 : decode cX4_sign 47 = .ok (.athrow, 1) := by decide +kernel
theorem dX4_sign_48 : decode cX4_sign 48 = .ok (.iload 5, 2) := by decide +kernel
theorem dX4_sign_50 : decode cX4_sign 50 = .ok (.ifCond .ne 16, 3) := by decide +kernel
theorem dX4_sign_53 : decode cX4_sign 53 = .ok (.aload 4, 2) := by decide +kernel
theorem dX4_sign_55 : decode cX4_sign 55 = .ok (.iconst 1, 1) := by decide +kernel
theorem dX4_sign_56 : decode cX4_sign 56 = .ok (.iload_n 1, 1) := by decide +kernel
theorem dX4_sign_57 : decode cX4_sign 57 = .ok (.iload_n 3, 1) := by decide +kernel
theorem dX4_sign_58 : decode cX4_sign 58 = .ok (.aload_n 0, 1) := by decide +kernel
theorem dX4_sign_59 : decode cX4_sign 59 = .ok (.getfield 98, 3) := by decide +kernel
theorem dX4_sign_62 : decode cX4_sign 62 = .ok (.invokevirtual 114, 3) := by decide +kernel
theorem dX4_sign_65 : decode cX4_sign 65 = .ok (.ireturn, 1) := by decide +kernel
theorem dX4_sign_66 : decode cX4_sign 66 = .ok (.aload_n 0, 1) := by decide +kernel
theorem dX4_sign_67 : decode cX4_sign 67 = .ok (.aload 4, 2) := by decide +kernel
theorem dX4_sign_69 : decode cX4_sign 69 = .ok (.getfield 118, 3) := by decide +kernel
theorem dX4_sign_72 : decode cX4_sign 72 = .ok (.iload_n 3, 1) := by decide +kernel
theorem dX4_sign_73 : decode cX4_sign 73 = .ok (.invokevirtual 121, 3) := by decide +kernel
theorem dX4_sign_76 : decode cX4_sign 76 = .ok (.invokevirtual 124, 3) := by decide +kernel
theorem dX4_sign_79 : decode cX4_sign 79 = .ok (.dup, 1) := by decide +kernel
theorem dX4_sign_80 : decode cX4_sign 80 = .ok (.getfield 128, 3) := by decide +kernel
theorem dX4_sign_83 : decode cX4_sign 83 = .ok (.iconst 1, 1) := by decide +kernel
theorem dX4_sign_84 : decode cX4_sign 84 = .ok (.iadd, 1) := by decide +kernel
theorem dX4_sign_85 : decode cX4_sign 85 = .ok (.putfield 128, 3) := by decide +kernel
theorem dX4_sign_88 : decode cX4_sign 88 = .ok (.aload 4, 2) := by decide +kernel
theorem dX4_sign_90 : decode cX4_sign 90 = .ok (.iconst 2, 1) := by decide +kernel
theorem dX4_sign_91 : decode cX4_sign 91 = .ok (.iload_n 1, 1) := by decide +kernel
theorem dX4_sign_92 : decode cX4_sign 92 = .ok (.iload_n 3, 1) := by decide +kernel
theorem dX4_sign_93 : decode cX4_sign 93 = .ok (.aload_n 0, 1) := by decide +kernel
theorem dX4_sign_94 : decode cX4_sign 94 = .ok (.getfield 98, 3) := by decide +kernel
theorem dX4_sign_97 : decode cX4_sign 97 = .ok (.invokevirtual 114, 3) := by decide +kernel
theorem dX4_sign_100 : decode cX4_sign 100 = .ok (.ireturn, 1) := by decide +kernel
theorem dX4_whyNot_0 : decode cX4_whyNot 0 = .ok (.iload_n 1, 1) := by decide +kernel
theorem dX4_whyNot_1 : decode cX4_whyNot 1 = .ok (.invokestatic 47, 3) := by decide +kernel
theorem dX4_whyNot_4 : decode cX4_whyNot 4 = .ok (.aload_n 0, 1) := by decide +kernel
theorem dX4_whyNot_5 : decode cX4_whyNot 5 = .ok (.iload_n 2, 1) := by decide +kernel
theorem dX4_whyNot_6 : decode cX4_whyNot 6 = .ok (.invokevirtual 43, 3) := by decide +kernel
theorem dX4_whyNot_9 : decode cX4_whyNot 9 = .ok (.astore 4, 2) := by decide +kernel
theorem dX4_whyNot_11 : decode cX4_whyNot 11 = .ok (.aload 4, 2) := by decide +kernel
theorem dX4_whyNot_13 : decode cX4_whyNot 13 = .ok (.iload_n 3, 1) := by decide +kernel
theorem dX4_whyNot_14 : decode cX4_whyNot 14 = .ok (.invokestatic 104, 3) := by decide +kernel
theorem dX4_whyNot_17 : decode cX4_whyNot 17 = .ok (.aload_n 0, 1) := by decide +kernel
theorem dX4_whyNot_18 : decode cX4_whyNot 18 = .ok (.iload_n 1, 1) := by decide +kernel
theorem dX4_whyNot_19 : decode cX4_whyNot 19 = .ok (.aload 4, 2) := by decide +kernel
theorem dX4_whyNot_21 : decode cX4_whyNot 21 = .ok (.iload_n 3, 1) := by decide +kernel
theorem dX4_whyNot_22 : decode cX4_whyNot 22 = .ok (.invokevirtual 108, 3) := by decide +kernel
theorem dX4_whyNot_25 : decode cX4_whyNot 25 = .ok (.ireturn, 1) := by decide +kernel
theorem dX4_decline_0 : decode cX4_decline 0 = .ok (.iload_n 1, 1) := by decide +kernel
theorem dX4_decline_1 : decode cX4_decline 1 = .ok (.invokestatic 47, 3) := by decide +kernel
theorem dX4_decline_4 : decode cX4_decline 4 = .ok (.aload_n 0, 1) := by decide +kernel
theorem dX4_decline_5 : decode cX4_decline 5 = .ok (.iload_n 2, 1) := by decide +kernel
theorem dX4_decline_6 : decode cX4_decline 6 = .ok (.invokevirtual 43, 3) := by decide +kernel
theorem dX4_decline_9 : decode cX4_decline 9 = .ok (.astore 4, 2) := by decide +kernel
theorem dX4_decline_11 : decode cX4_decline 11 = .ok (.aload 4, 2) := by decide +kernel
theorem dX4_decline_13 : decode cX4_decline 13 = .ok (.iload_n 3, 1) := by decide +kernel
theorem dX4_decline_14 : decode cX4_decline 14 = .ok (.invokestatic 104, 3) := by decide +kernel
theorem dX4_decline_17 : decode cX4_decline 17 = .ok (.aload_n 0, 1) := by decide +kernel
theorem dX4_decline_18 : decode cX4_decline 18 = .ok (.iload_n 1, 1) := by decide +kernel
theorem dX4_decline_19 : decode cX4_decline 19 = .ok (.aload 4, 2) := by decide +kernel
theorem dX4_decline_21 : decode cX4_decline 21 = .ok (.iload_n 3, 1) := by decide +kernel
theorem dX4_decline_22 : decode cX4_decline 22 = .ok (.invokevirtual 108, 3) := by decide +kernel
theorem dX4_decline_25 : decode cX4_decline 25 = .ok (.ifCond .eq 13, 3) := by decide +kernel
theorem dX4_decline_28 : decode cX4_decline 28 = .ok (.new 35, 3) := by decide +kernel
theorem dX4_decline_31 : decode cX4_decline 31 = .ok (.dup, 1) := by decide +kernel
theorem dX4_decline_32 : decode cX4_decline 32 = .ok (.ldc 131, 2) := by decide +kernel
theorem dX4_decline_34 : decode cX4_decline 34 = .ok (.invokespecial 39, 3) := by decide +kernel
theorem dX4_decline_37 : decode cX4_decline 37 = .ok (.athrow, 1) := by decide +kernel
theorem dX4_decline_38 : decode cX4_decline 38 = .ok (.aload 4, 2) := by decide +kernel
theorem dX4_decline_40 : decode cX4_decline 40 = .ok (.iconst 3, 1) := by decide +kernel
theorem dX4_decline_41 : decode cX4_decline 41 = .ok (.iconst 3, 1) := by decide +kernel
theorem dX4_decline_42 : decode cX4_decline 42 = .ok (.iload_n 1, 1) := by decide +kernel
theorem dX4_decline_43 : decode cX4_decline 43 = .ok (.iload_n 3, 1) := by decide +kernel
theorem dX4_decline_44 : decode cX4_decline 44 = .ok (.aload_n 0, 1) := by decide +kernel
theorem dX4_decline_45 : decode cX4_decline 45 = .ok (.getfield 98, 3) := by decide +kernel
theorem dX4_decline_48 : decode cX4_decline 48 = .ok (.invokevirtual 133, 3) := by decide +kernel
theorem dX4_decline_51 : decode cX4_decline 51 = .ok (.ireturn, 1) := by decide +kernel
theorem dX4_cancel_0 : decode cX4_cancel 0 = .ok (.aload_n 0, 1) := by decide +kernel
theorem dX4_cancel_1 : decode cX4_cancel 1 = .ok (.iload_n 1, 1) := by decide +kernel
theorem dX4_cancel_2 : decode cX4_cancel 2 = .ok (.invokevirtual 43, 3) := by decide +kernel
theorem dX4_cancel_5 : decode cX4_cancel 5 = .ok (.astore_n 2, 1) := by decide +kernel
theorem dX4_cancel_6 : decode cX4_cancel 6 = .ok (.aload_n 2, 1) := by decide +kernel
theorem dX4_cancel_7 : decode cX4_cancel 7 = .ok (.getfield 137, 3) := by decide +kernel
theorem dX4_cancel_10 : decode cX4_cancel 10 = .ok (.iconst 1, 1) := by decide +kernel
theorem dX4_cancel_11 : decode cX4_cancel 11 = .ok (.if_icmp .eq 13, 3) := by decide +kernel
theorem dX4_cancel_14 : decode cX4_cancel 14 = .ok (.new 35, 3) := by decide +kernel
theorem dX4_cancel_17 : decode cX4_cancel 17 = .ok (.dup, 1) := by decide +kernel
theorem dX4_cancel_18 : decode cX4_cancel 18 = .ok (.ldc 140, 2) := by decide +kernel
theorem dX4_cancel_20 : decode cX4_cancel 20 = .ok (.invokespecial 39, 3) := by decide +kernel
theorem dX4_cancel_23 : decode cX4_cancel 23 = .ok (.athrow, 1) := by decide +kernel
theorem dX4_cancel_24 : decode cX4_cancel 24 = .ok (.aload_n 2, 1) := by decide +kernel
theorem dX4_cancel_25 : decode cX4_cancel 25 = .ok (.iconst 4, 1) := by decide +kernel
theorem dX4_cancel_26 : decode cX4_cancel 26 = .ok (.iconst 4, 1) := by decide +kernel
theorem dX4_cancel_27 : decode cX4_cancel 27 = .ok (.iconst (-1), 1) := by decide +kernel
theorem dX4_cancel_28 : decode cX4_cancel 28 = .ok (.iconst (-1), 1) := by decide +kernel
theorem dX4_cancel_29 : decode cX4_cancel 29 = .ok (.aload_n 0, 1) := by decide +kernel
theorem dX4_cancel_30 : decode cX4_cancel 30 = .ok (.getfield 98, 3) := by decide +kernel
theorem dX4_cancel_33 : decode cX4_cancel 33 = .ok (.invokevirtual 133, 3) := by decide +kernel
theorem dX4_cancel_36 : decode cX4_cancel 36 = .ok (.ireturn, 1) := by decide +kernel
theorem dX4_delegate_0 : decode cX4_delegate 0 = .ok (.aload_n 0, 1) := by decide +kernel
theorem dX4_delegate_1 : decode cX4_delegate 1 = .ok (.iload_n 1, 1) := by decide +kernel
theorem dX4_delegate_2 : decode cX4_delegate 2 = .ok (.invokevirtual 124, 3) := by decide +kernel
theorem dX4_delegate_5 : decode cX4_delegate 5 = .ok (.astore 6, 2) := by decide +kernel
theorem dX4_delegate_7 : decode cX4_delegate 7 = .ok (.iload_n 2, 1) := by decide +kernel
theorem dX4_delegate_8 : decode cX4_delegate 8 = .ok (.invokestatic 47, 3) := by decide +kernel
theorem dX4_delegate_11 : decode cX4_delegate 11 = .ok (.iload_n 1, 1) := by decide +kernel
theorem dX4_delegate_12 : decode cX4_delegate 12 = .ok (.iload_n 2, 1) := by decide +kernel
theorem dX4_delegate_13 : decode cX4_delegate 13 = .ok (.if_icmp .ne 13, 3) := by decide +kernel
theorem dX4_delegate_16 : decode cX4_delegate 16 = .ok (.new 54, 3) := by decide +kernel
theorem dX4_delegate_19 : decode cX4_delegate 19 = .ok (.dup, 1) := by decide +kernel
theorem dX4_delegate_20 : decode cX4_delegate 20 = .ok (.ldc 142, 2) := by decide +kernel
theorem dX4_delegate_22 : decode cX4_delegate 22 = .ok (.invokespecial 58, 3) := by decide +kernel
theorem dX4_delegate_25 : decode cX4_delegate 25 = .ok (.athrow, 1) := by decide +kernel
theorem dX4_delegate_26 : decode cX4_delegate 26 = .ok (.iload_n 3, 1) := by decide +kernel
theorem dX4_delegate_27 : decode cX4_delegate 27 = .ok (.aload_n 0, 1) := by decide +kernel
theorem dX4_delegate_28 : decode cX4_delegate 28 = .ok (.getfield 98, 3) := by decide +kernel
theorem dX4_delegate_31 : decode cX4_delegate 31 = .ok (.if_icmp .lt 9, 3) := by decide +kernel
theorem dX4_delegate_34 : decode cX4_delegate 34 = .ok (.iload 4, 2) := by decide +kernel
theorem dX4_delegate_36 : decode cX4_delegate 36 = .ok (.iload_n 3, 1) := by decide +kernel
theorem dX4_delegate_37 : decode cX4_delegate 37 = .ok (.if_icmp .ge 13, 3) := by decide +kernel
theorem dX4_delegate_40 : decode cX4_delegate 40 = .ok (.new 54, 3) := by decide +kernel
theorem dX4_delegate_43 : decode cX4_delegate 43 = .ok (.dup, 1) := by decide +kernel
theorem dX4_delegate_44 : decode cX4_delegate 44 = .ok (.ldc 144, 2) := by decide +kernel
theorem dX4_delegate_46 : decode cX4_delegate 46 = .ok (.invokespecial 58, 3) := by decide +kernel
theorem dX4_delegate_49 : decode cX4_delegate 49 = .ok (.athrow, 1) := by decide +kernel
theorem dX4_delegate_50 : decode cX4_delegate 50 = .ok (.iload 5, 2) := by decide +kernel
theorem dX4_delegate_52 : decode cX4_delegate 52 = .ok (.iconst 1, 1) := by decide +kernel
theorem dX4_delegate_53 : decode cX4_delegate 53 = .ok (.if_icmp .lt 10, 3) := by decide +kernel
theorem dX4_delegate_56 : decode cX4_delegate 56 = .ok (.iload 5, 2) := by decide +kernel
theorem dX4_delegate_58 : decode cX4_delegate 58 = .ok (.bipush 9, 2) := by decide +kernel
theorem dX4_delegate_60 : decode cX4_delegate 60 = .ok (.if_icmp .le 13, 3) := by decide +kernel
theorem dX4_delegate_63 : decode cX4_delegate 63 = .ok (.new 54, 3) := by decide +kernel
theorem dX4_delegate_66 : decode cX4_delegate 66 = .ok (.dup, 1) := by decide +kernel
theorem dX4_delegate_67 : decode cX4_delegate 67 = .ok (.ldc 146, 2) := by decide +kernel
theorem dX4_delegate_69 : decode cX4_delegate 69 = .ok (.invokespecial 58, 3) := by decide +kernel
theorem dX4_delegate_72 : decode cX4_delegate 72 = .ok (.athrow, 1) := by decide +kernel
theorem dX4_delegate_73 : decode cX4_delegate 73 = .ok (.aload 6, 2) := by decide +kernel
theorem dX4_delegate_75 : decode cX4_delegate 75 = .ok (.getfield 148, 3) := by decide +kernel
theorem dX4_delegate_78 : decode cX4_delegate 78 = .ok (.istore 7, 2) := by decide +kernel
theorem dX4_delegate_80 : decode cX4_delegate 80 = .ok (.aload 6, 2) := by decide +kernel
theorem dX4_delegate_82 : decode cX4_delegate 82 = .ok (.iload_n 2, 1) := by decide +kernel
theorem dX4_delegate_83 : decode cX4_delegate 83 = .ok (.putfield 148, 3) := by decide +kernel
theorem dX4_delegate_86 : decode cX4_delegate 86 = .ok (.aload 6, 2) := by decide +kernel
theorem dX4_delegate_88 : decode cX4_delegate 88 = .ok (.iload_n 3, 1) := by decide +kernel
theorem dX4_delegate_89 : decode cX4_delegate 89 = .ok (.putfield 151, 3) := by decide +kernel
theorem dX4_delegate_92 : decode cX4_delegate 92 = .ok (.aload 6, 2) := by decide +kernel
theorem dX4_delegate_94 : decode cX4_delegate 94 = .ok (.iload 4, 2) := by decide +kernel
theorem dX4_delegate_96 : decode cX4_delegate 96 = .ok (.putfield 154, 3) := by decide +kernel
theorem dX4_delegate_99 : decode cX4_delegate 99 = .ok (.aload 6, 2) := by decide +kernel
theorem dX4_delegate_101 : decode cX4_delegate 101 = .ok (.iload 5, 2) := by decide +kernel
theorem dX4_delegate_103 : decode cX4_delegate 103 = .ok (.putfield 157, 3) := by decide +kernel
theorem dX4_delegate_106 : decode cX4_delegate 106 = .ok (.iload 7, 2) := by decide +kernel
theorem dX4_delegate_108 : decode cX4_delegate 108 = .ok (.ireturn, 1) := by decide +kernel
theorem dX4_revoke_0 : decode cX4_revoke 0 = .ok (.aload_n 0, 1) := by decide +kernel
theorem dX4_revoke_1 : decode cX4_revoke 1 = .ok (.iload_n 1, 1) := by decide +kernel
theorem dX4_revoke_2 : decode cX4_revoke 2 = .ok (.invokevirtual 124, 3) := by decide +kernel
theorem dX4_revoke_5 : decode cX4_revoke 5 = .ok (.astore_n 2, 1) := by decide +kernel
theorem dX4_revoke_6 : decode cX4_revoke 6 = .ok (.aload_n 2, 1) := by decide +kernel
theorem dX4_revoke_7 : decode cX4_revoke 7 = .ok (.getfield 148, 3) := by decide +kernel
theorem dX4_revoke_10 : decode cX4_revoke 10 = .ok (.istore_n 3, 1) := by decide +kernel
theorem dX4_revoke_11 : decode cX4_revoke 11 = .ok (.iload_n 3, 1) := by decide +kernel
theorem dX4_revoke_12 : decode cX4_revoke 12 = .ok (.iconst (-1), 1) := by decide +kernel
theorem dX4_revoke_13 : decode cX4_revoke 13 = .ok (.if_icmp .ne 13, 3) := by decide +kernel
theorem dX4_revoke_16 : decode cX4_revoke 16 = .ok (.new 35, 3) := by decide +kernel
theorem dX4_revoke_19 : decode cX4_revoke 19 = .ok (.dup, 1) := by decide +kernel
theorem dX4_revoke_20 : decode cX4_revoke 20 = .ok (.ldc 160, 2) := by decide +kernel
theorem dX4_revoke_22 : decode cX4_revoke 22 = .ok (.invokespecial 39, 3) := by decide +kernel
theorem dX4_revoke_25 : decode cX4_revoke 25 = .ok (.athrow, 1) := by decide +kernel
theorem dX4_revoke_26 : decode cX4_revoke 26 = .ok (.aload_n 2, 1) := by decide +kernel
theorem dX4_revoke_27 : decode cX4_revoke 27 = .ok (.iconst (-1), 1) := by decide +kernel
theorem dX4_revoke_28 : decode cX4_revoke 28 = .ok (.putfield 148, 3) := by decide +kernel
theorem dX4_revoke_31 : decode cX4_revoke 31 = .ok (.iload_n 3, 1) := by decide +kernel
theorem dX4_revoke_32 : decode cX4_revoke 32 = .ok (.ireturn, 1) := by decide +kernel
theorem dX4_delegateToday_0 : decode cX4_delegateToday 0 = .ok (.aload_n 0, 1) := by decide +kernel
theorem dX4_delegateToday_1 : decode cX4_delegateToday 1 = .ok (.iload_n 1, 1) := by decide +kernel
theorem dX4_delegateToday_2 : decode cX4_delegateToday 2 = .ok (.invokevirtual 124, 3) := by decide +kernel
theorem dX4_delegateToday_5 : decode cX4_delegateToday 5 = .ok (.aload_n 0, 1) := by decide +kernel
theorem dX4_delegateToday_6 : decode cX4_delegateToday 6 = .ok (.getfield 98, 3) := by decide +kernel
theorem dX4_delegateToday_9 : decode cX4_delegateToday 9 = .ok (.invokevirtual 162, 3) := by decide +kernel
theorem dX4_delegateToday_12 : decode cX4_delegateToday 12 = .ok (.ireturn, 1) := by decide +kernel
theorem dX4_signedFor_0 : decode cX4_signedFor 0 = .ok (.aload_n 0, 1) := by decide +kernel
theorem dX4_signedFor_1 : decode cX4_signedFor 1 = .ok (.iload_n 1, 1) := by decide +kernel
theorem dX4_signedFor_2 : decode cX4_signedFor 2 = .ok (.invokevirtual 124, 3) := by decide +kernel
theorem dX4_signedFor_5 : decode cX4_signedFor 5 = .ok (.getfield 128, 3) := by decide +kernel
theorem dX4_signedFor_8 : decode cX4_signedFor 8 = .ok (.ireturn, 1) := by decide +kernel
theorem dX4_toSign_0 : decode cX4_toSign 0 = .ok (.iload_n 1, 1) := by decide +kernel
theorem dX4_toSign_1 : decode cX4_toSign 1 = .ok (.invokestatic 47, 3) := by decide +kernel
theorem dX4_toSign_4 : decode cX4_toSign 4 = .ok (.iconst 0, 1) := by decide +kernel
theorem dX4_toSign_5 : decode cX4_toSign 5 = .ok (.istore_n 2, 1) := by decide +kernel
theorem dX4_toSign_6 : decode cX4_toSign 6 = .ok (.iconst 0, 1) := by decide +kernel
theorem dX4_toSign_7 : decode cX4_toSign 7 = .ok (.istore_n 3, 1) := by decide +kernel
theorem dX4_toSign_8 : decode cX4_toSign 8 = .ok (.iload_n 3, 1) := by decide +kernel
theorem dX4_toSign_9 : decode cX4_toSign 9 = .ok (.aload_n 0, 1) := by decide +kernel
theorem dX4_toSign_10 : decode cX4_toSign 10 = .ok (.getfield 31, 3) := by decide +kernel
theorem dX4_toSign_13 : decode cX4_toSign 13 = .ok (.if_icmp .ge 60, 3) := by decide +kernel
theorem dX4_toSign_16 : decode cX4_toSign 16 = .ok (.aload_n 0, 1) := by decide +kernel
theorem dX4_toSign_17 : decode cX4_toSign 17 = .ok (.iload_n 3, 1) := by decide +kernel
theorem dX4_toSign_18 : decode cX4_toSign 18 = .ok (.invokevirtual 43, 3) := by decide +kernel
theorem dX4_toSign_21 : decode cX4_toSign 21 = .ok (.astore 4, 2) := by decide +kernel
theorem dX4_toSign_23 : decode cX4_toSign 23 = .ok (.iconst 0, 1) := by decide +kernel
theorem dX4_toSign_24 : decode cX4_toSign 24 = .ok (.istore 5, 2) := by decide +kernel
theorem dX4_toSign_26 : decode cX4_toSign 26 = .ok (.iload 5, 2) := by decide +kernel
theorem dX4_toSign_28 : decode cX4_toSign 28 = .ok (.aload 4, 2) := by decide +kernel
theorem dX4_toSign_30 : decode cX4_toSign 30 = .ok (.getfield 63, 3) := by decide +kernel
theorem dX4_toSign_33 : decode cX4_toSign 33 = .ok (.if_icmp .ge 34, 3) := by decide +kernel
theorem dX4_toSign_36 : decode cX4_toSign 36 = .ok (.aload_n 0, 1) := by decide +kernel
theorem dX4_toSign_37 : decode cX4_toSign 37 = .ok (.iload_n 1, 1) := by decide +kernel
theorem dX4_toSign_38 : decode cX4_toSign 38 = .ok (.aload 4, 2) := by decide +kernel
theorem dX4_toSign_40 : decode cX4_toSign 40 = .ok (.iload 5, 2) := by decide +kernel
theorem dX4_toSign_42 : decode cX4_toSign 42 = .ok (.invokevirtual 108, 3) := by decide +kernel
theorem dX4_toSign_45 : decode cX4_toSign 45 = .ok (.istore 6, 2) := by decide +kernel
theorem dX4_toSign_47 : decode cX4_toSign 47 = .ok (.iload 6, 2) := by decide +kernel
theorem dX4_toSign_49 : decode cX4_toSign 49 = .ok (.ifCond .eq 9, 3) := by decide +kernel
theorem dX4_toSign_52 : decode cX4_toSign 52 = .ok (.iload 6, 2) := by decide +kernel
theorem dX4_toSign_54 : decode cX4_toSign 54 = .ok (.iconst 1, 1) := by decide +kernel
theorem dX4_toSign_55 : decode cX4_toSign 55 = .ok (.if_icmp .ne 6, 3) := by decide +kernel
theorem dX4_toSign_58 : decode cX4_toSign 58 = .ok (.iinc 2 1, 3) := by decide +kernel
theorem dX4_toSign_61 : decode cX4_toSign 61 = .ok (.iinc 5 1, 3) := by decide +kernel
theorem dX4_toSign_64 : decode cX4_toSign 64 = .ok (.goto (-38), 3) := by decide +kernel
theorem dX4_toSign_67 : decode cX4_toSign 67 = .ok (.iinc 3 1, 3) := by decide +kernel
theorem dX4_toSign_70 : decode cX4_toSign 70 = .ok (.goto (-62), 3) := by decide +kernel
theorem dX4_toSign_73 : decode cX4_toSign 73 = .ok (.iload_n 2, 1) := by decide +kernel
theorem dX4_toSign_74 : decode cX4_toSign 74 = .ok (.ireturn, 1) := by decide +kernel
theorem dX4_pass_0 : decode cX4_pass 0 = .ok (.iload_n 1, 1) := by decide +kernel
theorem dX4_pass_1 : decode cX4_pass 1 = .ok (.iconst 1, 1) := by decide +kernel
theorem dX4_pass_2 : decode cX4_pass 2 = .ok (.if_icmp .lt 9, 3) := by decide +kernel
theorem dX4_pass_5 : decode cX4_pass 5 = .ok (.iload_n 1, 1) := by decide +kernel
theorem dX4_pass_6 : decode cX4_pass 6 = .ok (.bipush 60, 2) := by decide +kernel
theorem dX4_pass_8 : decode cX4_pass 8 = .ok (.if_icmp .le 13, 3) := by decide +kernel
theorem dX4_pass_11 : decode cX4_pass 11 = .ok (.new 54, 3) := by decide +kernel
theorem dX4_pass_14 : decode cX4_pass 14 = .ok (.dup, 1) := by decide +kernel
theorem dX4_pass_15 : decode cX4_pass 15 = .ok (.ldc 165, 2) := by decide +kernel
theorem dX4_pass_17 : decode cX4_pass 17 = .ok (.invokespecial 58, 3) := by decide +kernel
theorem dX4_pass_20 : decode cX4_pass 20 = .ok (.athrow, 1) := by decide +kernel
theorem dX4_pass_21 : decode cX4_pass 21 = .ok (.iconst 0, 1) := by decide +kernel
theorem dX4_pass_22 : decode cX4_pass 22 = .ok (.istore_n 2, 1) := by decide +kernel
theorem dX4_pass_23 : decode cX4_pass 23 = .ok (.iconst 0, 1) := by decide +kernel
theorem dX4_pass_24 : decode cX4_pass 24 = .ok (.istore_n 3, 1) := by decide +kernel
theorem dX4_pass_25 : decode cX4_pass 25 = .ok (.iload_n 3, 1) := by decide +kernel
theorem dX4_pass_26 : decode cX4_pass 26 = .ok (.iload_n 1, 1) := by decide +kernel
theorem dX4_pass_27 : decode cX4_pass 27 = .ok (.if_icmp .ge 16, 3) := by decide +kernel
theorem dX4_pass_30 : decode cX4_pass 30 = .ok (.iload_n 2, 1) := by decide +kernel
theorem dX4_pass_31 : decode cX4_pass 31 = .ok (.aload_n 0, 1) := by decide +kernel
theorem dX4_pass_32 : decode cX4_pass 32 = .ok (.invokevirtual 167, 3) := by decide +kernel
theorem dX4_pass_35 : decode cX4_pass 35 = .ok (.iadd, 1) := by decide +kernel
theorem dX4_pass_36 : decode cX4_pass 36 = .ok (.istore_n 2, 1) := by decide +kernel
theorem dX4_pass_37 : decode cX4_pass 37 = .ok (.iinc 3 1, 3) := by decide +kernel
theorem dX4_pass_40 : decode cX4_pass 40 = .ok (.goto (-15), 3) := by decide +kernel
theorem dX4_pass_43 : decode cX4_pass 43 = .ok (.iload_n 2, 1) := by decide +kernel
theorem dX4_pass_44 : decode cX4_pass 44 = .ok (.ireturn, 1) := by decide +kernel
theorem dX4_today_0 : decode cX4_today 0 = .ok (.aload_n 0, 1) := by decide +kernel
theorem dX4_today_1 : decode cX4_today 1 = .ok (.getfield 98, 3) := by decide +kernel
theorem dX4_today_4 : decode cX4_today 4 = .ok (.ireturn, 1) := by decide +kernel
theorem dX4_nextReminder_0 : decode cX4_nextReminder 0 = .ok (.aload_n 0, 1) := by decide +kernel
theorem dX4_nextReminder_1 : decode cX4_nextReminder 1 = .ok (.iload_n 1, 1) := by decide +kernel
theorem dX4_nextReminder_2 : decode cX4_nextReminder 2 = .ok (.invokevirtual 43, 3) := by decide +kernel
theorem dX4_nextReminder_5 : decode cX4_nextReminder 5 = .ok (.aload_n 0, 1) := by decide +kernel
theorem dX4_nextReminder_6 : decode cX4_nextReminder 6 = .ok (.getfield 98, 3) := by decide +kernel
theorem dX4_nextReminder_9 : decode cX4_nextReminder 9 = .ok (.invokevirtual 170, 3) := by decide +kernel
theorem dX4_nextReminder_12 : decode cX4_nextReminder 12 = .ok (.ireturn, 1) := by decide +kernel
theorem dX4_envelopes_0 : decode cX4_envelopes 0 = .ok (.aload_n 0, 1) := by decide +kernel
theorem dX4_envelopes_1 : decode cX4_envelopes 1 = .ok (.getfield 31, 3) := by decide +kernel
theorem dX4_envelopes_4 : decode cX4_envelopes 4 = .ok (.ireturn, 1) := by decide +kernel
theorem dX4_state_0 : decode cX4_state 0 = .ok (.aload_n 0, 1) := by decide +kernel
theorem dX4_state_1 : decode cX4_state 1 = .ok (.iload_n 1, 1) := by decide +kernel
theorem dX4_state_2 : decode cX4_state 2 = .ok (.invokevirtual 43, 3) := by decide +kernel
theorem dX4_state_5 : decode cX4_state 5 = .ok (.getfield 137, 3) := by decide +kernel
theorem dX4_state_8 : decode cX4_state 8 = .ok (.ireturn, 1) := by decide +kernel
theorem dX4_slots_0 : decode cX4_slots 0 = .ok (.aload_n 0, 1) := by decide +kernel
theorem dX4_slots_1 : decode cX4_slots 1 = .ok (.iload_n 1, 1) := by decide +kernel
theorem dX4_slots_2 : decode cX4_slots 2 = .ok (.invokevirtual 43, 3) := by decide +kernel
theorem dX4_slots_5 : decode cX4_slots 5 = .ok (.getfield 63, 3) := by decide +kernel
theorem dX4_slots_8 : decode cX4_slots 8 = .ok (.ireturn, 1) := by decide +kernel
theorem dX4_slotState_0 : decode cX4_slotState 0 = .ok (.aload_n 0, 1) := by decide +kernel
theorem dX4_slotState_1 : decode cX4_slotState 1 = .ok (.iload_n 1, 1) := by decide +kernel
theorem dX4_slotState_2 : decode cX4_slotState 2 = .ok (.invokevirtual 43, 3) := by decide +kernel
theorem dX4_slotState_5 : decode cX4_slotState 5 = .ok (.astore_n 3, 1) := by decide +kernel
theorem dX4_slotState_6 : decode cX4_slotState 6 = .ok (.aload_n 3, 1) := by decide +kernel
theorem dX4_slotState_7 : decode cX4_slotState 7 = .ok (.iload_n 2, 1) := by decide +kernel
theorem dX4_slotState_8 : decode cX4_slotState 8 = .ok (.invokestatic 104, 3) := by decide +kernel
theorem dX4_slotState_11 : decode cX4_slotState 11 = .ok (.aload_n 3, 1) := by decide +kernel
theorem dX4_slotState_12 : decode cX4_slotState 12 = .ok (.iload_n 2, 1) := by decide +kernel
theorem dX4_slotState_13 : decode cX4_slotState 13 = .ok (.invokevirtual 173, 3) := by decide +kernel
theorem dX4_slotState_16 : decode cX4_slotState 16 = .ok (.ireturn, 1) := by decide +kernel
theorem dX4_missing_0 : decode cX4_missing 0 = .ok (.aload_n 0, 1) := by decide +kernel
theorem dX4_missing_1 : decode cX4_missing 1 = .ok (.iload_n 1, 1) := by decide +kernel
theorem dX4_missing_2 : decode cX4_missing 2 = .ok (.invokevirtual 43, 3) := by decide +kernel
theorem dX4_missing_5 : decode cX4_missing 5 = .ok (.astore_n 3, 1) := by decide +kernel
theorem dX4_missing_6 : decode cX4_missing 6 = .ok (.aload_n 3, 1) := by decide +kernel
theorem dX4_missing_7 : decode cX4_missing 7 = .ok (.iload_n 2, 1) := by decide +kernel
theorem dX4_missing_8 : decode cX4_missing 8 = .ok (.invokestatic 104, 3) := by decide +kernel
theorem dX4_missing_11 : decode cX4_missing 11 = .ok (.aload_n 3, 1) := by decide +kernel
theorem dX4_missing_12 : decode cX4_missing 12 = .ok (.getfield 176, 3) := by decide +kernel
theorem dX4_missing_15 : decode cX4_missing 15 = .ok (.iload_n 2, 1) := by decide +kernel
theorem dX4_missing_16 : decode cX4_missing 16 = .ok (.invokevirtual 121, 3) := by decide +kernel
theorem dX4_missing_19 : decode cX4_missing 19 = .ok (.aload_n 3, 1) := by decide +kernel
theorem dX4_missing_20 : decode cX4_missing 20 = .ok (.getfield 179, 3) := by decide +kernel
theorem dX4_missing_23 : decode cX4_missing 23 = .ok (.iconst (-1), 1) := by decide +kernel
theorem dX4_missing_24 : decode cX4_missing 24 = .ok (.ixor, 1) := by decide +kernel
theorem dX4_missing_25 : decode cX4_missing 25 = .ok (.iand, 1) := by decide +kernel
theorem dX4_missing_26 : decode cX4_missing 26 = .ok (.invokestatic 74, 3) := by decide +kernel
theorem dX4_missing_29 : decode cX4_missing 29 = .ok (.ireturn, 1) := by decide +kernel
theorem dX4_share_0 : decode cX4_share 0 = .ok (.aload_n 0, 1) := by decide +kernel
theorem dX4_share_1 : decode cX4_share 1 = .ok (.iload_n 1, 1) := by decide +kernel
theorem dX4_share_2 : decode cX4_share 2 = .ok (.invokevirtual 43, 3) := by decide +kernel
theorem dX4_share_5 : decode cX4_share 5 = .ok (.astore_n 2, 1) := by decide +kernel
theorem dX4_share_6 : decode cX4_share 6 = .ok (.aload_n 2, 1) := by decide +kernel
theorem dX4_share_7 : decode cX4_share 7 = .ok (.getfield 63, 3) := by decide +kernel
theorem dX4_share_10 : decode cX4_share 10 = .ok (.ifCond .ne 5, 3) := by decide +kernel
theorem dX4_share_13 : decode cX4_share 13 = .ok (.fconst 0, 1) := by decide +kernel
theorem dX4_share_14 : decode cX4_share 14 = .ok (.freturn, 1) := by decide +kernel
theorem dX4_share_15 : decode cX4_share 15 = .ok (.aload_n 2, 1) := by decide +kernel
theorem dX4_share_16 : decode cX4_share 16 = .ok (.getfield 179, 3) := by decide +kernel
theorem dX4_share_19 : decode cX4_share 19 = .ok (.invokestatic 74, 3) := by decide +kernel
theorem dX4_share_22 : decode cX4_share 22 = .ok (.i2f, 1) := by decide +kernel
theorem dX4_share_23 : decode cX4_share 23 = .ok (.aload_n 2, 1) := by decide +kernel
theorem dX4_share_24 : decode cX4_share 24 = .ok (.getfield 63, 3) := by decide +kernel
theorem dX4_share_27 : decode cX4_share 27 = .ok (.i2f, 1) := by decide +kernel
theorem dX4_share_28 : decode cX4_share 28 = .ok (.fdiv, 1) := by decide +kernel
theorem dX4_share_29 : decode cX4_share 29 = .ok (.freturn, 1) := by decide +kernel
theorem dX4_ahead_0 : decode cX4_ahead 0 = .ok (.aload_n 0, 1) := by decide +kernel
theorem dX4_ahead_1 : decode cX4_ahead 1 = .ok (.iload_n 1, 1) := by decide +kernel
theorem dX4_ahead_2 : decode cX4_ahead 2 = .ok (.invokevirtual 43, 3) := by decide +kernel
theorem dX4_ahead_5 : decode cX4_ahead 5 = .ok (.astore_n 3, 1) := by decide +kernel
theorem dX4_ahead_6 : decode cX4_ahead 6 = .ok (.aload_n 3, 1) := by decide +kernel
theorem dX4_ahead_7 : decode cX4_ahead 7 = .ok (.iload_n 2, 1) := by decide +kernel
theorem dX4_ahead_8 : decode cX4_ahead 8 = .ok (.invokestatic 104, 3) := by decide +kernel
theorem dX4_ahead_11 : decode cX4_ahead 11 = .ok (.aload_n 3, 1) := by decide +kernel
theorem dX4_ahead_12 : decode cX4_ahead 12 = .ok (.iload_n 2, 1) := by decide +kernel
theorem dX4_ahead_13 : decode cX4_ahead 13 = .ok (.invokevirtual 182, 3) := by decide +kernel
theorem dX4_ahead_16 : decode cX4_ahead 16 = .ok (.invokestatic 74, 3) := by decide +kernel
theorem dX4_ahead_19 : decode cX4_ahead 19 = .ok (.ireturn, 1) := by decide +kernel
theorem dX4_roundOf_0 : decode cX4_roundOf 0 = .ok (.aload_n 0, 1) := by decide +kernel
theorem dX4_roundOf_1 : decode cX4_roundOf 1 = .ok (.iload_n 1, 1) := by decide +kernel
theorem dX4_roundOf_2 : decode cX4_roundOf 2 = .ok (.invokevirtual 43, 3) := by decide +kernel
theorem dX4_roundOf_5 : decode cX4_roundOf 5 = .ok (.astore_n 3, 1) := by decide +kernel
theorem dX4_roundOf_6 : decode cX4_roundOf 6 = .ok (.aload_n 3, 1) := by decide +kernel
theorem dX4_roundOf_7 : decode cX4_roundOf 7 = .ok (.iload_n 2, 1) := by decide +kernel
theorem dX4_roundOf_8 : decode cX4_roundOf 8 = .ok (.invokestatic 104, 3) := by decide +kernel
theorem dX4_roundOf_11 : decode cX4_roundOf 11 = .ok (.aload_n 3, 1) := by decide +kernel
theorem dX4_roundOf_12 : decode cX4_roundOf 12 = .ok (.getfield 185, 3) := by decide +kernel
theorem dX4_roundOf_15 : decode cX4_roundOf 15 = .ok (.iload_n 2, 1) := by decide +kernel
theorem dX4_roundOf_16 : decode cX4_roundOf 16 = .ok (.invokevirtual 121, 3) := by decide +kernel
theorem dX4_roundOf_19 : decode cX4_roundOf 19 = .ok (.ireturn, 1) := by decide +kernel
theorem dX4_orders_0 : decode cX4_orders 0 = .ok (.aload_n 0, 1) := by decide +kernel
theorem dX4_orders_1 : decode cX4_orders 1 = .ok (.iload_n 1, 1) := by decide +kernel
theorem dX4_orders_2 : decode cX4_orders 2 = .ok (.invokevirtual 43, 3) := by decide +kernel
theorem dX4_orders_5 : decode cX4_orders 5 = .ok (.iconst 0, 1) := by decide +kernel
theorem dX4_orders_6 : decode cX4_orders 6 = .ok (.aload_n 0, 1) := by decide +kernel
theorem dX4_orders_7 : decode cX4_orders 7 = .ok (.getfield 26, 3) := by decide +kernel
theorem dX4_orders_10 : decode cX4_orders 10 = .ok (.invokevirtual 188, 3) := by decide +kernel
theorem dX4_orders_13 : decode cX4_orders 13 = .ok (.ireturn, 1) := by decide +kernel
theorem dX4_ordersByAll_0 : decode cX4_ordersByAll 0 = .ok (.aload_n 0, 1) := by decide +kernel
theorem dX4_ordersByAll_1 : decode cX4_ordersByAll 1 = .ok (.iload_n 1, 1) := by decide +kernel
theorem dX4_ordersByAll_2 : decode cX4_ordersByAll 2 = .ok (.invokevirtual 43, 3) := by decide +kernel
theorem dX4_ordersByAll_5 : decode cX4_ordersByAll 5 = .ok (.iconst 0, 1) := by decide +kernel
theorem dX4_ordersByAll_6 : decode cX4_ordersByAll 6 = .ok (.iconst 0, 1) := by decide +kernel
theorem dX4_ordersByAll_7 : decode cX4_ordersByAll 7 = .ok (.invokestatic 192, 3) := by decide +kernel
theorem dX4_ordersByAll_10 : decode cX4_ordersByAll 10 = .ok (.ireturn, 1) := by decide +kernel
theorem dX4_ordersLeft_0 : decode cX4_ordersLeft 0 = .ok (.aload_n 0, 1) := by decide +kernel
theorem dX4_ordersLeft_1 : decode cX4_ordersLeft 1 = .ok (.iload_n 1, 1) := by decide +kernel
theorem dX4_ordersLeft_2 : decode cX4_ordersLeft 2 = .ok (.invokevirtual 43, 3) := by decide +kernel
theorem dX4_ordersLeft_5 : decode cX4_ordersLeft 5 = .ok (.astore_n 2, 1) := by decide +kernel
theorem dX4_ordersLeft_6 : decode cX4_ordersLeft 6 = .ok (.aload_n 2, 1) := by decide +kernel
theorem dX4_ordersLeft_7 : decode cX4_ordersLeft 7 = .ok (.aload_n 2, 1) := by decide +kernel
theorem dX4_ordersLeft_8 : decode cX4_ordersLeft 8 = .ok (.getfield 179, 3) := by decide +kernel
theorem dX4_ordersLeft_11 : decode cX4_ordersLeft 11 = .ok (.aload_n 0, 1) := by decide +kernel
theorem dX4_ordersLeft_12 : decode cX4_ordersLeft 12 = .ok (.getfield 26, 3) := by decide +kernel
theorem dX4_ordersLeft_15 : decode cX4_ordersLeft 15 = .ok (.invokevirtual 188, 3) := by decide +kernel
theorem dX4_ordersLeft_18 : decode cX4_ordersLeft 18 = .ok (.ireturn, 1) := by decide +kernel
theorem dX4_events_0 : decode cX4_events 0 = .ok (.aload_n 0, 1) := by decide +kernel
theorem dX4_events_1 : decode cX4_events 1 = .ok (.iload_n 1, 1) := by decide +kernel
theorem dX4_events_2 : decode cX4_events 2 = .ok (.invokevirtual 43, 3) := by decide +kernel
theorem dX4_events_5 : decode cX4_events 5 = .ok (.getfield 196, 3) := by decide +kernel
theorem dX4_events_8 : decode cX4_events 8 = .ok (.getfield 200, 3) := by decide +kernel
theorem dX4_events_11 : decode cX4_events 11 = .ok (.ireturn, 1) := by decide +kernel
theorem dX4_kindOf_0 : decode cX4_kindOf 0 = .ok (.aload_n 0, 1) := by decide +kernel
theorem dX4_kindOf_1 : decode cX4_kindOf 1 = .ok (.iload_n 1, 1) := by decide +kernel
theorem dX4_kindOf_2 : decode cX4_kindOf 2 = .ok (.invokevirtual 43, 3) := by decide +kernel
theorem dX4_kindOf_5 : decode cX4_kindOf 5 = .ok (.getfield 196, 3) := by decide +kernel
theorem dX4_kindOf_8 : decode cX4_kindOf 8 = .ok (.astore_n 3, 1) := by decide +kernel
theorem dX4_kindOf_9 : decode cX4_kindOf 9 = .ok (.aload_n 3, 1) := by decide +kernel
theorem dX4_kindOf_10 : decode cX4_kindOf 10 = .ok (.iload_n 2, 1) := by decide +kernel
theorem dX4_kindOf_11 : decode cX4_kindOf 11 = .ok (.invokestatic 205, 3) := by decide +kernel
theorem dX4_kindOf_14 : decode cX4_kindOf 14 = .ok (.aload_n 3, 1) := by decide +kernel
theorem dX4_kindOf_15 : decode cX4_kindOf 15 = .ok (.getfield 209, 3) := by decide +kernel
theorem dX4_kindOf_18 : decode cX4_kindOf 18 = .ok (.iload_n 2, 1) := by decide +kernel
theorem dX4_kindOf_19 : decode cX4_kindOf 19 = .ok (.invokevirtual 121, 3) := by decide +kernel
theorem dX4_kindOf_22 : decode cX4_kindOf 22 = .ok (.ireturn, 1) := by decide +kernel
theorem dX4_personOf_0 : decode cX4_personOf 0 = .ok (.aload_n 0, 1) := by decide +kernel
theorem dX4_personOf_1 : decode cX4_personOf 1 = .ok (.iload_n 1, 1) := by decide +kernel
theorem dX4_personOf_2 : decode cX4_personOf 2 = .ok (.invokevirtual 43, 3) := by decide +kernel
theorem dX4_personOf_5 : decode cX4_personOf 5 = .ok (.getfield 196, 3) := by decide +kernel
theorem dX4_personOf_8 : decode cX4_personOf 8 = .ok (.astore_n 3, 1) := by decide +kernel
theorem dX4_personOf_9 : decode cX4_personOf 9 = .ok (.aload_n 3, 1) := by decide +kernel
theorem dX4_personOf_10 : decode cX4_personOf 10 = .ok (.iload_n 2, 1) := by decide +kernel
theorem dX4_personOf_11 : decode cX4_personOf 11 = .ok (.invokestatic 205, 3) := by decide +kernel
theorem dX4_personOf_14 : decode cX4_personOf 14 = .ok (.aload_n 3, 1) := by decide +kernel
theorem dX4_personOf_15 : decode cX4_personOf 15 = .ok (.getfield 212, 3) := by decide +kernel
theorem dX4_personOf_18 : decode cX4_personOf 18 = .ok (.iload_n 2, 1) := by decide +kernel
theorem dX4_personOf_19 : decode cX4_personOf 19 = .ok (.invokevirtual 121, 3) := by decide +kernel
theorem dX4_personOf_22 : decode cX4_personOf 22 = .ok (.ireturn, 1) := by decide +kernel
theorem dX4_dayOf_0 : decode cX4_dayOf 0 = .ok (.aload_n 0, 1) := by decide +kernel
theorem dX4_dayOf_1 : decode cX4_dayOf 1 = .ok (.iload_n 1, 1) := by decide +kernel
theorem dX4_dayOf_2 : decode cX4_dayOf 2 = .ok (.invokevirtual 43, 3) := by decide +kernel
theorem dX4_dayOf_5 : decode cX4_dayOf 5 = .ok (.getfield 196, 3) := by decide +kernel
theorem dX4_dayOf_8 : decode cX4_dayOf 8 = .ok (.astore_n 3, 1) := by decide +kernel
theorem dX4_dayOf_9 : decode cX4_dayOf 9 = .ok (.aload_n 3, 1) := by decide +kernel
theorem dX4_dayOf_10 : decode cX4_dayOf 10 = .ok (.iload_n 2, 1) := by decide +kernel
theorem dX4_dayOf_11 : decode cX4_dayOf 11 = .ok (.invokestatic 205, 3) := by decide +kernel
theorem dX4_dayOf_14 : decode cX4_dayOf 14 = .ok (.aload_n 3, 1) := by decide +kernel
theorem dX4_dayOf_15 : decode cX4_dayOf 15 = .ok (.getfield 213, 3) := by decide +kernel
theorem dX4_dayOf_18 : decode cX4_dayOf 18 = .ok (.iload_n 2, 1) := by decide +kernel
theorem dX4_dayOf_19 : decode cX4_dayOf 19 = .ok (.invokevirtual 121, 3) := by decide +kernel
theorem dX4_dayOf_22 : decode cX4_dayOf 22 = .ok (.ireturn, 1) := by decide +kernel
theorem dX4_seal_0 : decode cX4_seal 0 = .ok (.aload_n 0, 1) := by decide +kernel
theorem dX4_seal_1 : decode cX4_seal 1 = .ok (.iload_n 1, 1) := by decide +kernel
theorem dX4_seal_2 : decode cX4_seal 2 = .ok (.invokevirtual 43, 3) := by decide +kernel
theorem dX4_seal_5 : decode cX4_seal 5 = .ok (.getfield 196, 3) := by decide +kernel
theorem dX4_seal_8 : decode cX4_seal 8 = .ok (.astore_n 3, 1) := by decide +kernel
theorem dX4_seal_9 : decode cX4_seal 9 = .ok (.aload_n 3, 1) := by decide +kernel
theorem dX4_seal_10 : decode cX4_seal 10 = .ok (.iload_n 2, 1) := by decide +kernel
theorem dX4_seal_11 : decode cX4_seal 11 = .ok (.invokestatic 216, 3) := by decide +kernel
theorem dX4_seal_14 : decode cX4_seal 14 = .ok (.aload_n 3, 1) := by decide +kernel
theorem dX4_seal_15 : decode cX4_seal 15 = .ok (.iload_n 2, 1) := by decide +kernel
theorem dX4_seal_16 : decode cX4_seal 16 = .ok (.invokevirtual 219, 3) := by decide +kernel
theorem dX4_seal_19 : decode cX4_seal 19 = .ok (.ireturn, 1) := by decide +kernel
theorem dX4_stateBehind_0 : decode cX4_stateBehind 0 = .ok (.aload_n 0, 1) := by decide +kernel
theorem dX4_stateBehind_1 : decode cX4_stateBehind 1 = .ok (.iload_n 1, 1) := by decide +kernel
theorem dX4_stateBehind_2 : decode cX4_stateBehind 2 = .ok (.invokevirtual 43, 3) := by decide +kernel
theorem dX4_stateBehind_5 : decode cX4_stateBehind 5 = .ok (.astore_n 3, 1) := by decide +kernel
theorem dX4_stateBehind_6 : decode cX4_stateBehind 6 = .ok (.aload_n 3, 1) := by decide +kernel
theorem dX4_stateBehind_7 : decode cX4_stateBehind 7 = .ok (.getfield 196, 3) := by decide +kernel
theorem dX4_stateBehind_10 : decode cX4_stateBehind 10 = .ok (.iload_n 2, 1) := by decide +kernel
theorem dX4_stateBehind_11 : decode cX4_stateBehind 11 = .ok (.invokestatic 216, 3) := by decide +kernel
theorem dX4_stateBehind_14 : decode cX4_stateBehind 14 = .ok (.aload_n 3, 1) := by decide +kernel
theorem dX4_stateBehind_15 : decode cX4_stateBehind 15 = .ok (.getfield 196, 3) := by decide +kernel
theorem dX4_stateBehind_18 : decode cX4_stateBehind 18 = .ok (.iload_n 2, 1) := by decide +kernel
theorem dX4_stateBehind_19 : decode cX4_stateBehind 19 = .ok (.aload_n 3, 1) := by decide +kernel
theorem dX4_stateBehind_20 : decode cX4_stateBehind 20 = .ok (.getfield 63, 3) := by decide +kernel
theorem dX4_stateBehind_23 : decode cX4_stateBehind 23 = .ok (.invokevirtual 222, 3) := by decide +kernel
theorem dX4_stateBehind_26 : decode cX4_stateBehind 26 = .ok (.ireturn, 1) := by decide +kernel
theorem dX4_openBehind_0 : decode cX4_openBehind 0 = .ok (.aload_n 0, 1) := by decide +kernel
theorem dX4_openBehind_1 : decode cX4_openBehind 1 = .ok (.iload_n 1, 1) := by decide +kernel
theorem dX4_openBehind_2 : decode cX4_openBehind 2 = .ok (.invokevirtual 43, 3) := by decide +kernel
theorem dX4_openBehind_5 : decode cX4_openBehind 5 = .ok (.astore_n 3, 1) := by decide +kernel
theorem dX4_openBehind_6 : decode cX4_openBehind 6 = .ok (.aload_n 3, 1) := by decide +kernel
theorem dX4_openBehind_7 : decode cX4_openBehind 7 = .ok (.getfield 196, 3) := by decide +kernel
theorem dX4_openBehind_10 : decode cX4_openBehind 10 = .ok (.iload_n 2, 1) := by decide +kernel
theorem dX4_openBehind_11 : decode cX4_openBehind 11 = .ok (.invokestatic 216, 3) := by decide +kernel
theorem dX4_openBehind_14 : decode cX4_openBehind 14 = .ok (.aload_n 3, 1) := by decide +kernel
theorem dX4_openBehind_15 : decode cX4_openBehind 15 = .ok (.getfield 196, 3) := by decide +kernel
theorem dX4_openBehind_18 : decode cX4_openBehind 18 = .ok (.iload_n 2, 1) := by decide +kernel
theorem dX4_openBehind_19 : decode cX4_openBehind 19 = .ok (.aload_n 3, 1) := by decide +kernel
theorem dX4_openBehind_20 : decode cX4_openBehind 20 = .ok (.getfield 63, 3) := by decide +kernel
theorem dX4_openBehind_23 : decode cX4_openBehind 23 = .ok (.invokevirtual 222, 3) := by decide +kernel
theorem dX4_openBehind_26 : decode cX4_openBehind 26 = .ok (.iconst 1, 1) := by decide +kernel
theorem dX4_openBehind_27 : decode cX4_openBehind 27 = .ok (.if_icmp .eq 5, 3) := by decide +kernel
theorem dX4_openBehind_30 : decode cX4_openBehind 30 = .ok (.iconst 0, 1) := by decide +kernel
theorem dX4_openBehind_31 : decode cX4_openBehind 31 = .ok (.ireturn, 1) := by decide +kernel
theorem dX4_openBehind_32 : decode cX4_openBehind 32 = .ok (.aload_n 3, 1) := by decide +kernel
theorem dX4_openBehind_33 : decode cX4_openBehind 33 = .ok (.aload_n 3, 1) := by decide +kernel
theorem dX4_openBehind_34 : decode cX4_openBehind 34 = .ok (.getfield 196, 3) := by decide +kernel
theorem dX4_openBehind_37 : decode cX4_openBehind 37 = .ok (.iload_n 2, 1) := by decide +kernel
theorem dX4_openBehind_38 : decode cX4_openBehind 38 = .ok (.invokevirtual 226, 3) := by decide +kernel
theorem dX4_openBehind_41 : decode cX4_openBehind 41 = .ok (.invokevirtual 229, 3) := by decide +kernel
theorem dX4_openBehind_44 : decode cX4_openBehind 44 = .ok (.ireturn, 1) := by decide +kernel
theorem dX4_envelopeAt_0 : decode cX4_envelopeAt 0 = .ok (.iload_n 1, 1) := by decide +kernel
theorem dX4_envelopeAt_1 : decode cX4_envelopeAt 1 = .ok (.ifCond .lt 20, 3) := by decide +kernel
theorem dX4_envelopeAt_4 : decode cX4_envelopeAt 4 = .ok (.iload_n 1, 1) := by decide +kernel
theorem dX4_envelopeAt_5 : decode cX4_envelopeAt 5 = .ok (.aload_n 0, 1) := by decide +kernel
theorem dX4_envelopeAt_6 : decode cX4_envelopeAt 6 = .ok (.getfield 31, 3) := by decide +kernel
theorem dX4_envelopeAt_9 : decode cX4_envelopeAt 9 = .ok (.if_icmp .ge 12, 3) := by decide +kernel
theorem dX4_envelopeAt_12 : decode cX4_envelopeAt 12 = .ok (.iload_n 1, 1) := by decide +kernel
theorem dX4_envelopeAt_13 : decode cX4_envelopeAt 13 = .ok (.aload_n 0, 1) := by decide +kernel
theorem dX4_envelopeAt_14 : decode cX4_envelopeAt 14 = .ok (.getfield 11, 3) := by decide +kernel
theorem dX4_envelopeAt_17 : decode cX4_envelopeAt 17 = .ok (.arraylength, 1) := by decide +kernel
theorem dX4_envelopeAt_18 : decode cX4_envelopeAt 18 = .ok (.if_icmp .lt 13, 3) := by decide +kernel
theorem dX4_envelopeAt_21 : decode cX4_envelopeAt 21 = .ok (.new 232, 3) := by decide +kernel
theorem dX4_envelopeAt_24 : decode cX4_envelopeAt 24 = .ok (.dup, 1) := by decide +kernel
theorem dX4_envelopeAt_25 : decode cX4_envelopeAt 25 = .ok (.ldc 234, 2) := by decide +kernel
theorem dX4_envelopeAt_27 : decode cX4_envelopeAt 27 = .ok (.invokespecial 236, 3) := by decide +kernel
theorem dX4_envelopeAt_30 : decode cX4_envelopeAt 30 = .ok (.athrow, 1) := by decide +kernel
theorem dX4_envelopeAt_31 : decode cX4_envelopeAt 31 = .ok (.aload_n 0, 1) := by decide +kernel
theorem dX4_envelopeAt_32 : decode cX4_envelopeAt 32 = .ok (.getfield 11, 3) := by decide +kernel
theorem dX4_envelopeAt_35 : decode cX4_envelopeAt 35 = .ok (.iload_n 1, 1) := by decide +kernel
theorem dX4_envelopeAt_36 : decode cX4_envelopeAt 36 = .ok (.aaload, 1) := by decide +kernel
theorem dX4_envelopeAt_37 : decode cX4_envelopeAt 37 = .ok (.astore_n 2, 1) := by decide +kernel
theorem dX4_envelopeAt_38 : decode cX4_envelopeAt 38 = .ok (.aload_n 2, 1) := by decide +kernel
theorem dX4_envelopeAt_39 : decode cX4_envelopeAt 39 = .ok (.ifnonnull 13, 3) := by decide +kernel
theorem dX4_envelopeAt_42 : decode cX4_envelopeAt 42 = .ok (.new 232, 3) := by decide +kernel
theorem dX4_envelopeAt_45 : decode cX4_envelopeAt 45 = .ok (.dup, 1) := by decide +kernel
theorem dX4_envelopeAt_46 : decode cX4_envelopeAt 46 = .ok (.ldc 234, 2) := by decide +kernel
theorem dX4_envelopeAt_48 : decode cX4_envelopeAt 48 = .ok (.invokespecial 236, 3) := by decide +kernel
theorem dX4_envelopeAt_51 : decode cX4_envelopeAt 51 = .ok (.athrow, 1) := by decide +kernel
theorem dX4_envelopeAt_52 : decode cX4_envelopeAt 52 = .ok (.aload_n 2, 1) := by decide +kernel
theorem dX4_envelopeAt_53 : decode cX4_envelopeAt 53 = .ok (.areturn, 1) := by decide +kernel
theorem dX4_standinOf_0 : decode cX4_standinOf 0 = .ok (.iload_n 1, 1) := by decide +kernel
theorem dX4_standinOf_1 : decode cX4_standinOf 1 = .ok (.ifCond .lt 12, 3) := by decide +kernel
theorem dX4_standinOf_4 : decode cX4_standinOf 4 = .ok (.iload_n 1, 1) := by decide +kernel
theorem dX4_standinOf_5 : decode cX4_standinOf 5 = .ok (.aload_n 0, 1) := by decide +kernel
theorem dX4_standinOf_6 : decode cX4_standinOf 6 = .ok (.getfield 17, 3) := by decide +kernel
theorem dX4_standinOf_9 : decode cX4_standinOf 9 = .ok (.arraylength, 1) := by decide +kernel
theorem dX4_standinOf_10 : decode cX4_standinOf 10 = .ok (.if_icmp .lt 13, 3) := by decide +kernel
theorem dX4_standinOf_13 : decode cX4_standinOf 13 = .ok (.new 232, 3) := by decide +kernel
theorem dX4_standinOf_16 : decode cX4_standinOf 16 = .ok (.dup, 1) := by decide +kernel
theorem dX4_standinOf_17 : decode cX4_standinOf 17 = .ok (.ldc 237, 2) := by decide +kernel
theorem dX4_standinOf_19 : decode cX4_standinOf 19 = .ok (.invokespecial 236, 3) := by decide +kernel
theorem dX4_standinOf_22 : decode cX4_standinOf 22 = .ok (.athrow, 1) := by decide +kernel
theorem dX4_standinOf_23 : decode cX4_standinOf 23 = .ok (.aload_n 0, 1) := by decide +kernel
theorem dX4_standinOf_24 : decode cX4_standinOf 24 = .ok (.getfield 17, 3) := by decide +kernel
theorem dX4_standinOf_27 : decode cX4_standinOf 27 = .ok (.iload_n 1, 1) := by decide +kernel
theorem dX4_standinOf_28 : decode cX4_standinOf 28 = .ok (.aaload, 1) := by decide +kernel
theorem dX4_standinOf_29 : decode cX4_standinOf 29 = .ok (.astore_n 2, 1) := by decide +kernel
theorem dX4_standinOf_30 : decode cX4_standinOf 30 = .ok (.aload_n 2, 1) := by decide +kernel
theorem dX4_standinOf_31 : decode cX4_standinOf 31 = .ok (.ifnonnull 13, 3) := by decide +kernel
theorem dX4_standinOf_34 : decode cX4_standinOf 34 = .ok (.new 232, 3) := by decide +kernel
theorem dX4_standinOf_37 : decode cX4_standinOf 37 = .ok (.dup, 1) := by decide +kernel
theorem dX4_standinOf_38 : decode cX4_standinOf 38 = .ok (.ldc 237, 2) := by decide +kernel
theorem dX4_standinOf_40 : decode cX4_standinOf 40 = .ok (.invokespecial 236, 3) := by decide +kernel
theorem dX4_standinOf_43 : decode cX4_standinOf 43 = .ok (.athrow, 1) := by decide +kernel
theorem dX4_standinOf_44 : decode cX4_standinOf 44 = .ok (.aload_n 2, 1) := by decide +kernel
theorem dX4_standinOf_45 : decode cX4_standinOf 45 = .ok (.areturn, 1) := by decide +kernel
theorem dX4_refuseNoPerson_0 : decode cX4_refuseNoPerson 0 = .ok (.iload_n 0, 1) := by decide +kernel
theorem dX4_refuseNoPerson_1 : decode cX4_refuseNoPerson 1 = .ok (.ifCond .lt 9, 3) := by decide +kernel
theorem dX4_refuseNoPerson_4 : decode cX4_refuseNoPerson 4 = .ok (.iload_n 0, 1) := by decide +kernel
theorem dX4_refuseNoPerson_5 : decode cX4_refuseNoPerson 5 = .ok (.bipush 8, 2) := by decide +kernel
theorem dX4_refuseNoPerson_7 : decode cX4_refuseNoPerson 7 = .ok (.if_icmp .lt 13, 3) := by decide +kernel
theorem dX4_refuseNoPerson_10 : decode cX4_refuseNoPerson 10 = .ok (.new 232, 3) := by decide +kernel
theorem dX4_refuseNoPerson_13 : decode cX4_refuseNoPerson 13 = .ok (.dup, 1) := by decide +kernel
theorem dX4_refuseNoPerson_14 : decode cX4_refuseNoPerson 14 = .ok (.ldc 237, 2) := by decide +kernel
theorem dX4_refuseNoPerson_16 : decode cX4_refuseNoPerson 16 = .ok (.invokespecial 236, 3) := by decide +kernel
theorem dX4_refuseNoPerson_19 : decode cX4_refuseNoPerson 19 = .ok (.athrow, 1) := by decide +kernel
theorem dX4_refuseNoPerson_20 : decode cX4_refuseNoPerson 20 = .ok (.return_, 1) := by decide +kernel
theorem dX4_refuseNoSlot_0 : decode cX4_refuseNoSlot 0 = .ok (.iload_n 1, 1) := by decide +kernel
theorem dX4_refuseNoSlot_1 : decode cX4_refuseNoSlot 1 = .ok (.ifCond .lt 11, 3) := by decide +kernel
theorem dX4_refuseNoSlot_4 : decode cX4_refuseNoSlot 4 = .ok (.iload_n 1, 1) := by decide +kernel
theorem dX4_refuseNoSlot_5 : decode cX4_refuseNoSlot 5 = .ok (.aload_n 0, 1) := by decide +kernel
theorem dX4_refuseNoSlot_6 : decode cX4_refuseNoSlot 6 = .ok (.getfield 63, 3) := by decide +kernel
theorem dX4_refuseNoSlot_9 : decode cX4_refuseNoSlot 9 = .ok (.if_icmp .lt 13, 3) := by decide +kernel
theorem dX4_refuseNoSlot_12 : decode cX4_refuseNoSlot 12 = .ok (.new 232, 3) := by decide +kernel
theorem dX4_refuseNoSlot_15 : decode cX4_refuseNoSlot 15 = .ok (.dup, 1) := by decide +kernel
theorem dX4_refuseNoSlot_16 : decode cX4_refuseNoSlot 16 = .ok (.ldc 239, 2) := by decide +kernel
theorem dX4_refuseNoSlot_18 : decode cX4_refuseNoSlot 18 = .ok (.invokespecial 236, 3) := by decide +kernel
theorem dX4_refuseNoSlot_21 : decode cX4_refuseNoSlot 21 = .ok (.athrow, 1) := by decide +kernel
theorem dX4_refuseNoSlot_22 : decode cX4_refuseNoSlot 22 = .ok (.return_, 1) := by decide +kernel
theorem dX4_refuseNoEvent_0 : decode cX4_refuseNoEvent 0 = .ok (.iload_n 1, 1) := by decide +kernel
theorem dX4_refuseNoEvent_1 : decode cX4_refuseNoEvent 1 = .ok (.ifCond .lt 11, 3) := by decide +kernel
theorem dX4_refuseNoEvent_4 : decode cX4_refuseNoEvent 4 = .ok (.iload_n 1, 1) := by decide +kernel
theorem dX4_refuseNoEvent_5 : decode cX4_refuseNoEvent 5 = .ok (.aload_n 0, 1) := by decide +kernel
theorem dX4_refuseNoEvent_6 : decode cX4_refuseNoEvent 6 = .ok (.getfield 200, 3) := by decide +kernel
theorem dX4_refuseNoEvent_9 : decode cX4_refuseNoEvent 9 = .ok (.if_icmp .lt 13, 3) := by decide +kernel
theorem dX4_refuseNoEvent_12 : decode cX4_refuseNoEvent 12 = .ok (.new 232, 3) := by decide +kernel
theorem dX4_refuseNoEvent_15 : decode cX4_refuseNoEvent 15 = .ok (.dup, 1) := by decide +kernel
theorem dX4_refuseNoEvent_16 : decode cX4_refuseNoEvent 16 = .ok (.ldc 241, 2) := by decide +kernel
theorem dX4_refuseNoEvent_18 : decode cX4_refuseNoEvent 18 = .ok (.invokespecial 236, 3) := by decide +kernel
theorem dX4_refuseNoEvent_21 : decode cX4_refuseNoEvent 21 = .ok (.athrow, 1) := by decide +kernel
theorem dX4_refuseNoEvent_22 : decode cX4_refuseNoEvent 22 = .ok (.return_, 1) := by decide +kernel
theorem dX4_refuseTooManyEvents_0 : decode cX4_refuseTooManyEvents 0 = .ok (.iload_n 1, 1) := by decide +kernel
theorem dX4_refuseTooManyEvents_1 : decode cX4_refuseTooManyEvents 1 = .ok (.ifCond .lt 11, 3) := by decide +kernel
theorem dX4_refuseTooManyEvents_4 : decode cX4_refuseTooManyEvents 4 = .ok (.iload_n 1, 1) := by decide +kernel
theorem dX4_refuseTooManyEvents_5 : decode cX4_refuseTooManyEvents 5 = .ok (.aload_n 0, 1) := by decide +kernel
theorem dX4_refuseTooManyEvents_6 : decode cX4_refuseTooManyEvents 6 = .ok (.getfield 200, 3) := by decide +kernel
theorem dX4_refuseTooManyEvents_9 : decode cX4_refuseTooManyEvents 9 = .ok (.if_icmp .le 13, 3) := by decide +kernel
theorem dX4_refuseTooManyEvents_12 : decode cX4_refuseTooManyEvents 12 = .ok (.new 232, 3) := by decide +kernel
theorem dX4_refuseTooManyEvents_15 : decode cX4_refuseTooManyEvents 15 = .ok (.dup, 1) := by decide +kernel
theorem dX4_refuseTooManyEvents_16 : decode cX4_refuseTooManyEvents 16 = .ok (.ldc 243, 2) := by decide +kernel
theorem dX4_refuseTooManyEvents_18 : decode cX4_refuseTooManyEvents 18 = .ok (.invokespecial 236, 3) := by decide +kernel
theorem dX4_refuseTooManyEvents_21 : decode cX4_refuseTooManyEvents 21 = .ok (.athrow, 1) := by decide +kernel
theorem dX4_refuseTooManyEvents_22 : decode cX4_refuseTooManyEvents 22 = .ok (.return_, 1) := by decide +kernel
theorem dX4_refuseNoDraft_0 : decode cX4_refuseNoDraft 0 = .ok (.aload_n 0, 1) := by decide +kernel
theorem dX4_refuseNoDraft_1 : decode cX4_refuseNoDraft 1 = .ok (.getfield 137, 3) := by decide +kernel
theorem dX4_refuseNoDraft_4 : decode cX4_refuseNoDraft 4 = .ok (.ifCond .eq 13, 3) := by decide +kernel
theorem dX4_refuseNoDraft_7 : decode cX4_refuseNoDraft 7 = .ok (.new 35, 3) := by decide +kernel
theorem dX4_refuseNoDraft_10 : decode cX4_refuseNoDraft 10 = .ok (.dup, 1) := by decide +kernel
theorem dX4_refuseNoDraft_11 : decode cX4_refuseNoDraft 11 = .ok (.ldc 245, 2) := by decide +kernel
theorem dX4_refuseNoDraft_13 : decode cX4_refuseNoDraft 13 = .ok (.invokespecial 39, 3) := by decide +kernel
theorem dX4_refuseNoDraft_16 : decode cX4_refuseNoDraft 16 = .ok (.athrow, 1) := by decide +kernel
theorem dX4_refuseNoDraft_17 : decode cX4_refuseNoDraft 17 = .ok (.return_, 1) := by decide +kernel
theorem dX4_reasonFor_0 : decode cX4_reasonFor 0 = .ok (.aload_n 2, 1) := by decide +kernel
theorem dX4_reasonFor_1 : decode cX4_reasonFor 1 = .ok (.getfield 137, 3) := by decide +kernel
theorem dX4_reasonFor_4 : decode cX4_reasonFor 4 = .ok (.iconst 1, 1) := by decide +kernel
theorem dX4_reasonFor_5 : decode cX4_reasonFor 5 = .ok (.if_icmp .eq 5, 3) := by decide +kernel
theorem dX4_reasonFor_8 : decode cX4_reasonFor 8 = .ok (.iconst 2, 1) := by decide +kernel
theorem dX4_reasonFor_9 : decode cX4_reasonFor 9 = .ok (.ireturn, 1) := by decide +kernel
theorem dX4_reasonFor_10 : decode cX4_reasonFor 10 = .ok (.aload_n 2, 1) := by decide +kernel
theorem dX4_reasonFor_11 : decode cX4_reasonFor 11 = .ok (.getfield 247, 3) := by decide +kernel
theorem dX4_reasonFor_14 : decode cX4_reasonFor 14 = .ok (.iload_n 3, 1) := by decide +kernel
theorem dX4_reasonFor_15 : decode cX4_reasonFor 15 = .ok (.invokestatic 82, 3) := by decide +kernel
theorem dX4_reasonFor_18 : decode cX4_reasonFor 18 = .ok (.ifCond .ne 5, 3) := by decide +kernel
theorem dX4_reasonFor_21 : decode cX4_reasonFor 21 = .ok (.iconst 3, 1) := by decide +kernel
theorem dX4_reasonFor_22 : decode cX4_reasonFor 22 = .ok (.ireturn, 1) := by decide +kernel
theorem dX4_reasonFor_23 : decode cX4_reasonFor 23 = .ok (.aload_n 2, 1) := by decide +kernel
theorem dX4_reasonFor_24 : decode cX4_reasonFor 24 = .ok (.getfield 118, 3) := by decide +kernel
theorem dX4_reasonFor_27 : decode cX4_reasonFor 27 = .ok (.iload_n 3, 1) := by decide +kernel
theorem dX4_reasonFor_28 : decode cX4_reasonFor 28 = .ok (.invokevirtual 121, 3) := by decide +kernel
theorem dX4_reasonFor_31 : decode cX4_reasonFor 31 = .ok (.istore 4, 2) := by decide +kernel
theorem dX4_reasonFor_33 : decode cX4_reasonFor 33 = .ok (.iload 4, 2) := by decide +kernel
theorem dX4_reasonFor_35 : decode cX4_reasonFor 35 = .ok (.iload_n 1, 1) := by decide +kernel
theorem dX4_reasonFor_36 : decode cX4_reasonFor 36 = .ok (.if_icmp .ne 5, 3) := by decide +kernel
theorem dX4_reasonFor_39 : decode cX4_reasonFor 39 = .ok (.iconst 0, 1) := by decide +kernel
theorem dX4_reasonFor_40 : decode cX4_reasonFor 40 = .ok (.ireturn, 1) := by decide +kernel
theorem dX4_reasonFor_41 : decode cX4_reasonFor 41 = .ok (.aload_n 0, 1) := by decide +kernel
theorem dX4_reasonFor_42 : decode cX4_reasonFor 42 = .ok (.iload 4, 2) := by decide +kernel
theorem dX4_reasonFor_44 : decode cX4_reasonFor 44 = .ok (.invokevirtual 124, 3) := by decide +kernel
theorem dX4_reasonFor_47 : decode cX4_reasonFor 47 = .ok (.astore 5, 2) := by decide +kernel
theorem dX4_reasonFor_49 : decode cX4_reasonFor 49 = .ok (.aload 5, 2) := by decide +kernel
theorem dX4_reasonFor_51 : decode cX4_reasonFor 51 = .ok (.aload_n 0, 1) := by decide +kernel
theorem dX4_reasonFor_52 : decode cX4_reasonFor 52 = .ok (.getfield 98, 3) := by decide +kernel
theorem dX4_reasonFor_55 : decode cX4_reasonFor 55 = .ok (.invokevirtual 162, 3) := by decide +kernel
theorem dX4_reasonFor_58 : decode cX4_reasonFor 58 = .ok (.iload_n 1, 1) := by decide +kernel
theorem dX4_reasonFor_59 : decode cX4_reasonFor 59 = .ok (.if_icmp .eq 5, 3) := by decide +kernel
theorem dX4_reasonFor_62 : decode cX4_reasonFor 62 = .ok (.iconst 4, 1) := by decide +kernel
theorem dX4_reasonFor_63 : decode cX4_reasonFor 63 = .ok (.ireturn, 1) := by decide +kernel
theorem dX4_reasonFor_64 : decode cX4_reasonFor 64 = .ok (.aload 5, 2) := by decide +kernel
theorem dX4_reasonFor_66 : decode cX4_reasonFor 66 = .ok (.getfield 128, 3) := by decide +kernel
theorem dX4_reasonFor_69 : decode cX4_reasonFor 69 = .ok (.aload 5, 2) := by decide +kernel
theorem dX4_reasonFor_71 : decode cX4_reasonFor 71 = .ok (.getfield 157, 3) := by decide +kernel
theorem dX4_reasonFor_74 : decode cX4_reasonFor 74 = .ok (.if_icmp .lt 7, 3) := by decide +kernel
theorem dX4_reasonFor_77 : decode cX4_reasonFor 77 = .ok (.iconst 5, 1) := by decide +kernel
theorem dX4_reasonFor_78 : decode cX4_reasonFor 78 = .ok (.goto 4, 3) := by decide +kernel
theorem dX4_reasonFor_81 : decode cX4_reasonFor 81 = .ok (.iconst 1, 1) := by decide +kernel
theorem dX4_reasonFor_82 : decode cX4_reasonFor 82 = .ok (.ireturn, 1) := by decide +kernel
theorem dX4_passOneDay_0 : decode cX4_passOneDay 0 = .ok (.aload_n 0, 1) := by decide +kernel
theorem dX4_passOneDay_1 : decode cX4_passOneDay 1 = .ok (.dup, 1) := by decide +kernel
theorem dX4_passOneDay_2 : decode cX4_passOneDay 2 = .ok (.getfield 98, 3) := by decide +kernel
theorem dX4_passOneDay_5 : decode cX4_passOneDay 5 = .ok (.iconst 1, 1) := by decide +kernel
theorem dX4_passOneDay_6 : decode cX4_passOneDay 6 = .ok (.iadd, 1) := by decide +kernel
theorem dX4_passOneDay_7 : decode cX4_passOneDay 7 = .ok (.putfield 98, 3) := by decide +kernel
theorem dX4_passOneDay_10 : decode cX4_passOneDay 10 = .ok (.iconst 0, 1) := by decide +kernel
theorem dX4_passOneDay_11 : decode cX4_passOneDay 11 = .ok (.istore_n 1, 1) := by decide +kernel
theorem dX4_passOneDay_12 : decode cX4_passOneDay 12 = .ok (.iload_n 1, 1) := by decide +kernel
theorem dX4_passOneDay_13 : decode cX4_passOneDay 13 = .ok (.bipush 8, 2) := by decide +kernel
theorem dX4_passOneDay_15 : decode cX4_passOneDay 15 = .ok (.if_icmp .ge 18, 3) := by decide +kernel
theorem dX4_passOneDay_18 : decode cX4_passOneDay 18 = .ok (.aload_n 0, 1) := by decide +kernel
theorem dX4_passOneDay_19 : decode cX4_passOneDay 19 = .ok (.iload_n 1, 1) := by decide +kernel
theorem dX4_passOneDay_20 : decode cX4_passOneDay 20 = .ok (.invokevirtual 124, 3) := by decide +kernel
theorem dX4_passOneDay_23 : decode cX4_passOneDay 23 = .ok (.iconst 0, 1) := by decide +kernel
theorem dX4_passOneDay_24 : decode cX4_passOneDay 24 = .ok (.putfield 128, 3) := by decide +kernel
theorem dX4_passOneDay_27 : decode cX4_passOneDay 27 = .ok (.iinc 1 1, 3) := by decide +kernel
theorem dX4_passOneDay_30 : decode cX4_passOneDay 30 = .ok (.goto (-18), 3) := by decide +kernel
theorem dX4_passOneDay_33 : decode cX4_passOneDay 33 = .ok (.iconst 0, 1) := by decide +kernel
theorem dX4_passOneDay_34 : decode cX4_passOneDay 34 = .ok (.istore_n 1, 1) := by decide +kernel
theorem dX4_passOneDay_35 : decode cX4_passOneDay 35 = .ok (.iconst 0, 1) := by decide +kernel
theorem dX4_passOneDay_36 : decode cX4_passOneDay 36 = .ok (.istore_n 2, 1) := by decide +kernel
theorem dX4_passOneDay_37 : decode cX4_passOneDay 37 = .ok (.iload_n 2, 1) := by decide +kernel
theorem dX4_passOneDay_38 : decode cX4_passOneDay 38 = .ok (.aload_n 0, 1) := by decide +kernel
theorem dX4_passOneDay_39 : decode cX4_passOneDay 39 = .ok (.getfield 31, 3) := by decide +kernel
theorem dX4_passOneDay_42 : decode cX4_passOneDay 42 = .ok (.if_icmp .ge 24, 3) := by decide +kernel
theorem dX4_passOneDay_45 : decode cX4_passOneDay 45 = .ok (.iload_n 1, 1) := by decide +kernel
theorem dX4_passOneDay_46 : decode cX4_passOneDay 46 = .ok (.aload_n 0, 1) := by decide +kernel
theorem dX4_passOneDay_47 : decode cX4_passOneDay 47 = .ok (.iload_n 2, 1) := by decide +kernel
theorem dX4_passOneDay_48 : decode cX4_passOneDay 48 = .ok (.invokevirtual 43, 3) := by decide +kernel
theorem dX4_passOneDay_51 : decode cX4_passOneDay 51 = .ok (.aload_n 0, 1) := by decide +kernel
theorem dX4_passOneDay_52 : decode cX4_passOneDay 52 = .ok (.getfield 98, 3) := by decide +kernel
theorem dX4_passOneDay_55 : decode cX4_passOneDay 55 = .ok (.invokevirtual 250, 3) := by decide +kernel
theorem dX4_passOneDay_58 : decode cX4_passOneDay 58 = .ok (.iadd, 1) := by decide +kernel
theorem dX4_passOneDay_59 : decode cX4_passOneDay 59 = .ok (.istore_n 1, 1) := by decide +kernel
theorem dX4_passOneDay_60 : decode cX4_passOneDay 60 = .ok (.iinc 2 1, 3) := by decide +kernel
theorem dX4_passOneDay_63 : decode cX4_passOneDay 63 = .ok (.goto (-26), 3) := by decide +kernel
theorem dX4_passOneDay_66 : decode cX4_passOneDay 66 = .ok (.iload_n 1, 1) := by decide +kernel
theorem dX4_passOneDay_67 : decode cX4_passOneDay 67 = .ok (.ireturn, 1) := by decide +kernel
theorem dX4_countByTrying_0 : decode cX4_countByTrying 0 = .ok (.iload_n 2, 1) := by decide +kernel
theorem dX4_countByTrying_1 : decode cX4_countByTrying 1 = .ok (.aload_n 0, 1) := by decide +kernel
theorem dX4_countByTrying_2 : decode cX4_countByTrying 2 = .ok (.getfield 63, 3) := by decide +kernel
theorem dX4_countByTrying_5 : decode cX4_countByTrying 5 = .ok (.if_icmp .lt 5, 3) := by decide +kernel
theorem dX4_countByTrying_8 : decode cX4_countByTrying 8 = .ok (.iconst 1, 1) := by decide +kernel
theorem dX4_countByTrying_9 : decode cX4_countByTrying 9 = .ok (.ireturn, 1) := by decide +kernel
theorem dX4_countByTrying_10 : decode cX4_countByTrying 10 = .ok (.iload_n 2, 1) := by decide +kernel
theorem dX4_countByTrying_11 : decode cX4_countByTrying 11 = .ok (.bipush 8, 2) := by decide +kernel
theorem dX4_countByTrying_13 : decode cX4_countByTrying 13 = .ok (.if_icmp .lt 5, 3) := by decide +kernel
theorem dX4_countByTrying_16 : decode cX4_countByTrying 16 = .ok (.iconst 0, 1) := by decide +kernel
theorem dX4_countByTrying_17 : decode cX4_countByTrying 17 = .ok (.ireturn, 1) := by decide +kernel
theorem dX4_countByTrying_18 : decode cX4_countByTrying 18 = .ok (.aload_n 0, 1) := by decide +kernel
theorem dX4_countByTrying_19 : decode cX4_countByTrying 19 = .ok (.iload_n 1, 1) := by decide +kernel
theorem dX4_countByTrying_20 : decode cX4_countByTrying 20 = .ok (.invokevirtual 229, 3) := by decide +kernel
theorem dX4_countByTrying_23 : decode cX4_countByTrying 23 = .ok (.istore_n 3, 1) := by decide +kernel
theorem dX4_countByTrying_24 : decode cX4_countByTrying 24 = .ok (.iconst 0, 1) := by decide +kernel
theorem dX4_countByTrying_25 : decode cX4_countByTrying 25 = .ok (.istore 4, 2) := by decide +kernel
theorem dX4_countByTrying_27 : decode cX4_countByTrying 27 = .ok (.iconst 0, 1) := by decide +kernel
theorem dX4_countByTrying_28 : decode cX4_countByTrying 28 = .ok (.istore 5, 2) := by decide +kernel
theorem dX4_countByTrying_30 : decode cX4_countByTrying 30 = .ok (.iload 5, 2) := by decide +kernel
theorem dX4_countByTrying_32 : decode cX4_countByTrying 32 = .ok (.aload_n 0, 1) := by decide +kernel
theorem dX4_countByTrying_33 : decode cX4_countByTrying 33 = .ok (.getfield 63, 3) := by decide +kernel
theorem dX4_countByTrying_36 : decode cX4_countByTrying 36 = .ok (.if_icmp .ge 36, 3) := by decide +kernel
theorem dX4_countByTrying_39 : decode cX4_countByTrying 39 = .ok (.iload_n 3, 1) := by decide +kernel
theorem dX4_countByTrying_40 : decode cX4_countByTrying 40 = .ok (.iload 5, 2) := by decide +kernel
theorem dX4_countByTrying_42 : decode cX4_countByTrying 42 = .ok (.invokestatic 82, 3) := by decide +kernel
theorem dX4_countByTrying_45 : decode cX4_countByTrying 45 = .ok (.ifCond .eq 21, 3) := by decide +kernel
theorem dX4_countByTrying_48 : decode cX4_countByTrying 48 = .ok (.iload 4, 2) := by decide +kernel
theorem dX4_countByTrying_50 : decode cX4_countByTrying 50 = .ok (.aload_n 0, 1) := by decide +kernel
theorem dX4_countByTrying_51 : decode cX4_countByTrying 51 = .ok (.iload_n 1, 1) := by decide +kernel
theorem dX4_countByTrying_52 : decode cX4_countByTrying 52 = .ok (.iconst 1, 1) := by decide +kernel
theorem dX4_countByTrying_53 : decode cX4_countByTrying 53 = .ok (.iload 5, 2) := by decide +kernel
theorem dX4_countByTrying_55 : decode cX4_countByTrying 55 = .ok (.ishl, 1) := by decide +kernel
theorem dX4_countByTrying_56 : decode cX4_countByTrying 56 = .ok (.ior, 1) := by decide +kernel
theorem dX4_countByTrying_57 : decode cX4_countByTrying 57 = .ok (.iload_n 2, 1) := by decide +kernel
theorem dX4_countByTrying_58 : decode cX4_countByTrying 58 = .ok (.iconst 1, 1) := by decide +kernel
theorem dX4_countByTrying_59 : decode cX4_countByTrying 59 = .ok (.iadd, 1) := by decide +kernel
theorem dX4_countByTrying_60 : decode cX4_countByTrying 60 = .ok (.invokestatic 192, 3) := by decide +kernel
theorem dX4_countByTrying_63 : decode cX4_countByTrying 63 = .ok (.iadd, 1) := by decide +kernel
theorem dX4_countByTrying_64 : decode cX4_countByTrying 64 = .ok (.istore 4, 2) := by decide +kernel
theorem dX4_countByTrying_66 : decode cX4_countByTrying 66 = .ok (.iinc 5 1, 3) := by decide +kernel
theorem dX4_countByTrying_69 : decode cX4_countByTrying 69 = .ok (.goto (-39), 3) := by decide +kernel
theorem dX4_countByTrying_72 : decode cX4_countByTrying 72 = .ok (.iload 4, 2) := by decide +kernel
theorem dX4_countByTrying_74 : decode cX4_countByTrying 74 = .ok (.ireturn, 1) := by decide +kernel
theorem dX4_has_0 : decode cX4_has 0 = .ok (.iload_n 0, 1) := by decide +kernel
theorem dX4_has_1 : decode cX4_has 1 = .ok (.iload_n 1, 1) := by decide +kernel
theorem dX4_has_2 : decode cX4_has 2 = .ok (.ishr, 1) := by decide +kernel
theorem dX4_has_3 : decode cX4_has 3 = .ok (.iconst 1, 1) := by decide +kernel
theorem dX4_has_4 : decode cX4_has 4 = .ok (.iand, 1) := by decide +kernel
theorem dX4_has_5 : decode cX4_has 5 = .ok (.ifCond .eq 7, 3) := by decide +kernel
theorem dX4_has_8 : decode cX4_has 8 = .ok (.iconst 1, 1) := by decide +kernel
theorem dX4_has_9 : decode cX4_has 9 = .ok (.goto 4, 3) := by decide +kernel
theorem dX4_has_12 : decode cX4_has 12 = .ok (.iconst 0, 1) := by decide +kernel
theorem dX4_has_13 : decode cX4_has 13 = .ok (.ireturn, 1) := by decide +kernel
theorem dJ6_bitCount_0f7a4_0 : decode cJ6_bitCount_0f7a4 0 = .ok (.iload_n 0, 1) := by decide +kernel
theorem dJ6_bitCount_0f7a4_1 : decode cJ6_bitCount_0f7a4 1 = .ok (.iload_n 0, 1) := by decide +kernel
theorem dJ6_bitCount_0f7a4_2 : decode cJ6_bitCount_0f7a4 2 = .ok (.iconst 1, 1) := by decide +kernel
theorem dJ6_bitCount_0f7a4_3 : decode cJ6_bitCount_0f7a4 3 = .ok (.iushr, 1) := by decide +kernel
theorem dJ6_bitCount_0f7a4_4 : decode cJ6_bitCount_0f7a4 4 = .ok (.ldc_w 265, 3) := by decide +kernel
theorem dJ6_bitCount_0f7a4_7 : decode cJ6_bitCount_0f7a4 7 = .ok (.iand, 1) := by decide +kernel
theorem dJ6_bitCount_0f7a4_8 : decode cJ6_bitCount_0f7a4 8 = .ok (.isub, 1) := by decide +kernel
theorem dJ6_bitCount_0f7a4_9 : decode cJ6_bitCount_0f7a4 9 = .ok (.istore_n 0, 1) := by decide +kernel
theorem dJ6_bitCount_0f7a4_10 : decode cJ6_bitCount_0f7a4 10 = .ok (.iload_n 0, 1) := by decide +kernel
theorem dJ6_bitCount_0f7a4_11 : decode cJ6_bitCount_0f7a4 11 = .ok (.ldc_w 266, 3) := by decide +kernel
theorem dJ6_bitCount_0f7a4_14 : decode cJ6_bitCount_0f7a4 14 = .ok (.iand, 1) := by decide +kernel
theorem dJ6_bitCount_0f7a4_15 : decode cJ6_bitCount_0f7a4 15 = .ok (.iload_n 0, 1) := by decide +kernel
theorem dJ6_bitCount_0f7a4_16 : decode cJ6_bitCount_0f7a4 16 = .ok (.iconst 2, 1) := by decide +kernel
theorem dJ6_bitCount_0f7a4_17 : decode cJ6_bitCount_0f7a4 17 = .ok (.iushr, 1) := by decide +kernel
theorem dJ6_bitCount_0f7a4_18 : decode cJ6_bitCount_0f7a4 18 = .ok (.ldc_w 266, 3) := by decide +kernel
theorem dJ6_bitCount_0f7a4_21 : decode cJ6_bitCount_0f7a4 21 = .ok (.iand, 1) := by decide +kernel
theorem dJ6_bitCount_0f7a4_22 : decode cJ6_bitCount_0f7a4 22 = .ok (.iadd, 1) := by decide +kernel
theorem dJ6_bitCount_0f7a4_23 : decode cJ6_bitCount_0f7a4 23 = .ok (.istore_n 0, 1) := by decide +kernel
theorem dJ6_bitCount_0f7a4_24 : decode cJ6_bitCount_0f7a4 24 = .ok (.iload_n 0, 1) := by decide +kernel
theorem dJ6_bitCount_0f7a4_25 : decode cJ6_bitCount_0f7a4 25 = .ok (.iload_n 0, 1) := by decide +kernel
theorem dJ6_bitCount_0f7a4_26 : decode cJ6_bitCount_0f7a4 26 = .ok (.iconst 4, 1) := by decide +kernel
theorem dJ6_bitCount_0f7a4_27 : decode cJ6_bitCount_0f7a4 27 = .ok (.iushr, 1) := by decide +kernel
theorem dJ6_bitCount_0f7a4_28 : decode cJ6_bitCount_0f7a4 28 = .ok (.iadd, 1) := by decide +kernel
theorem dJ6_bitCount_0f7a4_29 : decode cJ6_bitCount_0f7a4 29 = .ok (.ldc_w 267, 3) := by decide +kernel
theorem dJ6_bitCount_0f7a4_32 : decode cJ6_bitCount_0f7a4 32 = .ok (.iand, 1) := by decide +kernel
theorem dJ6_bitCount_0f7a4_33 : decode cJ6_bitCount_0f7a4 33 = .ok (.istore_n 0, 1) := by decide +kernel
theorem dJ6_bitCount_0f7a4_34 : decode cJ6_bitCount_0f7a4 34 = .ok (.iload_n 0, 1) := by decide +kernel
theorem dJ6_bitCount_0f7a4_35 : decode cJ6_bitCount_0f7a4 35 = .ok (.iload_n 0, 1) := by decide +kernel
theorem dJ6_bitCount_0f7a4_36 : decode cJ6_bitCount_0f7a4 36 = .ok (.bipush 8, 2) := by decide +kernel
theorem dJ6_bitCount_0f7a4_38 : decode cJ6_bitCount_0f7a4 38 = .ok (.iushr, 1) := by decide +kernel
theorem dJ6_bitCount_0f7a4_39 : decode cJ6_bitCount_0f7a4 39 = .ok (.iadd, 1) := by decide +kernel
theorem dJ6_bitCount_0f7a4_40 : decode cJ6_bitCount_0f7a4 40 = .ok (.istore_n 0, 1) := by decide +kernel
theorem dJ6_bitCount_0f7a4_41 : decode cJ6_bitCount_0f7a4 41 = .ok (.iload_n 0, 1) := by decide +kernel
theorem dJ6_bitCount_0f7a4_42 : decode cJ6_bitCount_0f7a4 42 = .ok (.iload_n 0, 1) := by decide +kernel
theorem dJ6_bitCount_0f7a4_43 : decode cJ6_bitCount_0f7a4 43 = .ok (.bipush 16, 2) := by decide +kernel
theorem dJ6_bitCount_0f7a4_45 : decode cJ6_bitCount_0f7a4 45 = .ok (.iushr, 1) := by decide +kernel
theorem dJ6_bitCount_0f7a4_46 : decode cJ6_bitCount_0f7a4 46 = .ok (.iadd, 1) := by decide +kernel
theorem dJ6_bitCount_0f7a4_47 : decode cJ6_bitCount_0f7a4 47 = .ok (.istore_n 0, 1) := by decide +kernel
theorem dJ6_bitCount_0f7a4_48 : decode cJ6_bitCount_0f7a4 48 = .ok (.iload_n 0, 1) := by decide +kernel
theorem dJ6_bitCount_0f7a4_49 : decode cJ6_bitCount_0f7a4 49 = .ok (.bipush 63, 2) := by decide +kernel
theorem dJ6_bitCount_0f7a4_51 : decode cJ6_bitCount_0f7a4 51 = .ok (.iand, 1) := by decide +kernel
theorem dJ6_bitCount_0f7a4_52 : decode cJ6_bitCount_0f7a4 52 = .ok (.ireturn, 1) := by decide +kernel
theorem dJ9_max_7cf53_0 : decode cJ9_max_7cf53 0 = .ok (.iload_n 0, 1) := by decide +kernel
theorem dJ9_max_7cf53_1 : decode cJ9_max_7cf53 1 = .ok (.iload_n 1, 1) := by decide +kernel
theorem dJ9_max_7cf53_2 : decode cJ9_max_7cf53 2 = .ok (.if_icmp .lt 7, 3) := by decide +kernel
theorem dJ9_max_7cf53_5 : decode cJ9_max_7cf53 5 = .ok (.iload_n 0, 1) := by decide +kernel
theorem dJ9_max_7cf53_6 : decode cJ9_max_7cf53 6 = .ok (.goto 4, 3) := by decide +kernel
theorem dJ9_max_7cf53_9 : decode cJ9_max_7cf53 9 = .ok (.iload_n 1, 1) := by decide +kernel
theorem dJ9_max_7cf53_10 : decode cJ9_max_7cf53 10 = .ok (.ireturn, 1) := by decide +kernel
theorem dJ9_min_7cf53_0 : decode cJ9_min_7cf53 0 = .ok (.iload_n 0, 1) := by decide +kernel
theorem dJ9_min_7cf53_1 : decode cJ9_min_7cf53 1 = .ok (.iload_n 1, 1) := by decide +kernel
theorem dJ9_min_7cf53_2 : decode cJ9_min_7cf53 2 = .ok (.if_icmp .gt 7, 3) := by decide +kernel
theorem dJ9_min_7cf53_5 : decode cJ9_min_7cf53 5 = .ok (.iload_n 0, 1) := by decide +kernel
theorem dJ9_min_7cf53_6 : decode cJ9_min_7cf53 6 = .ok (.goto 4, 3) := by decide +kernel
theorem dJ9_min_7cf53_9 : decode cJ9_min_7cf53 9 = .ok (.iload_n 1, 1) := by decide +kernel
theorem dJ9_min_7cf53_10 : decode cJ9_min_7cf53 10 = .ok (.ireturn, 1) := by decide +kernel
