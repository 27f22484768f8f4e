theorem dX5_init_0 : decode cX5_init 0 = .ok (.aload_n 0, 1) := by decide +kernel
theorem dX5_init_1 : decode cX5_init 1 = .ok (.invokespecial 1, 3) := by decide +kernel
theorem dX5_init_4 : decode cX5_init 4 = .ok (.aload_n 0, 1) := by decide +kernel
theorem dX5_init_5 : decode cX5_init 5 = .ok (.bipush 6, 2) := by decide +kernel
theorem dX5_init_7 : decode cX5_init 7 = .ok (.newarray .int, 2) := by decide +kernel
theorem dX5_init_9 : decode cX5_init 9 = .ok (.putfield 7, 3) := by decide +kernel
theorem dX5_init_12 : decode cX5_init 12 = .ok (.aload_n 0, 1) := by decide +kernel
theorem dX5_init_13 : decode cX5_init 13 = .ok (.bipush 6, 2) := by decide +kernel
theorem dX5_init_15 : decode cX5_init 15 = .ok (.newarray .int, 2) := by decide +kernel
theorem dX5_init_17 : decode cX5_init 17 = .ok (.putfield 13, 3) := by decide +kernel
theorem dX5_init_20 : decode cX5_init 20 = .ok (.aload_n 0, 1) := by decide +kernel
theorem dX5_init_21 : decode cX5_init 21 = .ok (.bipush 6, 2) := by decide +kernel
theorem dX5_init_23 : decode cX5_init 23 = .ok (.newarray .int, 2) := by decide +kernel
theorem dX5_init_25 : decode cX5_init 25 = .ok (.putfield 16, 3) := by decide +kernel
theorem dX5_init_28 : decode cX5_init 28 = .ok (.aload_n 0, 1) := by decide +kernel
theorem dX5_init_29 : decode cX5_init 29 = .ok (.bipush 6, 2) := by decide +kernel
theorem dX5_init_31 : decode cX5_init 31 = .ok (.newarray .int, 2) := by decide +kernel
theorem dX5_init_33 : decode cX5_init 33 = .ok (.putfield 19, 3) := by decide +kernel
theorem dX5_init_36 : decode cX5_init 36 = .ok (.aload_n 0, 1) := by decide +kernel
theorem dX5_init_37 : decode cX5_init 37 = .ok (.bipush 48, 2) := by decide +kernel
theorem dX5_init_39 : decode cX5_init 39 = .ok (.newarray .int, 2) := by decide +kernel
theorem dX5_init_41 : decode cX5_init 41 = .ok (.putfield 22, 3) := by decide +kernel
theorem dX5_init_44 : decode cX5_init 44 = .ok (.aload_n 0, 1) := by decide +kernel
theorem dX5_init_45 : decode cX5_init 45 = .ok (.bipush 48, 2) := by decide +kernel
theorem dX5_init_47 : decode cX5_init 47 = .ok (.newarray .int, 2) := by decide +kernel
theorem dX5_init_49 : decode cX5_init 49 = .ok (.putfield 25, 3) := by decide +kernel
theorem dX5_init_52 : decode cX5_init 52 = .ok (.aload_n 0, 1) := by decide +kernel
theorem dX5_init_53 : decode cX5_init 53 = .ok (.sipush 300, 3) := by decide +kernel
theorem dX5_init_56 : decode cX5_init 56 = .ok (.newarray .int, 2) := by decide +kernel
theorem dX5_init_58 : decode cX5_init 58 = .ok (.putfield 28, 3) := by decide +kernel
theorem dX5_init_61 : decode cX5_init 61 = .ok (.aload_n 0, 1) := by decide +kernel
theorem dX5_init_62 : decode cX5_init 62 = .ok (.sipush 300, 3) := by decide +kernel
theorem dX5_init_65 : decode cX5_init 65 = .ok (.newarray .int, 2) := by decide +kernel
theorem dX5_init_67 : decode cX5_init 67 = .ok (.putfield 31, 3) := by decide +kernel
theorem dX5_init_70 : decode cX5_init 70 = .ok (.aload_n 0, 1) := by decide +kernel
theorem dX5_init_71 : decode cX5_init 71 = .ok (.sipush 300, 3) := by decide +kernel
theorem dX5_init_74 : decode cX5_init 74 = .ok (.newarray .int, 2) := by decide +kernel
theorem dX5_init_76 : decode cX5_init 76 = .ok (.putfield 34, 3) := by decide +kernel
theorem dX5_init_79 : decode cX5_init 79 = .ok (.aload_n 0, 1) := by decide +kernel
theorem dX5_init_80 : decode cX5_init 80 = .ok (.sipush 300, 3) := by decide +kernel
theorem dX5_init_83 : decode cX5_init 83 = .ok (.newarray .int, 2) := by decide +kernel
theorem dX5_init_85 : decode cX5_init 85 = .ok (.putfield 37, 3) := by decide +kernel
theorem dX5_init_88 : decode cX5_init 88 = .ok (.aload_n 0, 1) := by decide +kernel
theorem dX5_init_89 : decode cX5_init 89 = .ok (.bipush 8, 2) := by decide +kernel
theorem dX5_init_91 : decode cX5_init 91 = .ok (.newarray .int, 2) := by decide +kernel
theorem dX5_init_93 : decode cX5_init 93 = .ok (.putfield 40, 3) := by decide +kernel
theorem dX5_init_96 : decode cX5_init 96 = .ok (.aload_n 0, 1) := by decide +kernel
theorem dX5_init_97 : decode cX5_init 97 = .ok (.bipush 8, 2) := by decide +kernel
theorem dX5_init_99 : decode cX5_init 99 = .ok (.newarray .int, 2) := by decide +kernel
theorem dX5_init_101 : decode cX5_init 101 = .ok (.putfield 43, 3) := by decide +kernel
theorem dX5_init_104 : decode cX5_init 104 = .ok (.aload_n 0, 1) := by decide +kernel
theorem dX5_init_105 : decode cX5_init 105 = .ok (.bipush 8, 2) := by decide +kernel
theorem dX5_init_107 : decode cX5_init 107 = .ok (.newarray .int, 2) := by decide +kernel
theorem dX5_init_109 : decode cX5_init 109 = .ok (.putfield 46, 3) := by decide +kernel
theorem dX5_init_112 : decode cX5_init 112 = .ok (.aload_n 0, 1) := by decide +kernel
theorem dX5_init_113 : decode cX5_init 113 = .ok (.bipush 8, 2) := by decide +kernel
theorem dX5_init_115 : decode cX5_init 115 = .ok (.newarray .int, 2) := by decide +kernel
theorem dX5_init_117 : decode cX5_init 117 = .ok (.putfield 49, 3) := by decide +kernel
theorem dX5_init_120 : decode cX5_init 120 = .ok (.aload_n 0, 1) := by decide +kernel
theorem dX5_init_121 : decode cX5_init 121 = .ok (.bipush 8, 2) := by decide +kernel
theorem dX5_init_123 : decode cX5_init 123 = .ok (.newarray .int, 2) := by decide +kernel
theorem dX5_init_125 : decode cX5_init 125 = .ok (.putfield 52, 3) := by decide +kernel
theorem dX5_init_128 : decode cX5_init 128 = .ok (.aload_n 0, 1) := by decide +kernel
theorem dX5_init_129 : decode cX5_init 129 = .ok (.bipush 8, 2) := by decide +kernel
theorem dX5_init_131 : decode cX5_init 131 = .ok (.newarray .int, 2) := by decide +kernel
theorem dX5_init_133 : decode cX5_init 133 = .ok (.putfield 55, 3) := by decide +kernel
theorem dX5_init_136 : decode cX5_init 136 = .ok (.aload_n 0, 1) := by decide +kernel
theorem dX5_init_137 : decode cX5_init 137 = .ok (.bipush 8, 2) := by decide +kernel
theorem dX5_init_139 : decode cX5_init 139 = .ok (.newarray .int, 2) := by decide +kernel
theorem dX5_init_141 : decode cX5_init 141 = .ok (.putfield 58, 3) := by decide +kernel
theorem dX5_init_144 : decode cX5_init 144 = .ok (.aload_n 0, 1) := by decide +kernel
theorem dX5_init_145 : decode cX5_init 145 = .ok (.bipush 8, 2) := by decide +kernel
theorem dX5_init_147 : decode cX5_init 147 = .ok (.newarray .int, 2) := by decide +kernel
theorem dX5_init_149 : decode cX5_init 149 = .ok (.putfield 61, 3) := by decide +kernel
theorem dX5_init_152 : decode cX5_init 152 = .ok (.aload_n 0, 1) := by decide +kernel
theorem dX5_init_153 : decode cX5_init 153 = .ok (.sipush 256, 3) := by decide +kernel
theorem dX5_init_156 : decode cX5_init 156 = .ok (.newarray .int, 2) := by decide +kernel
theorem dX5_init_158 : decode cX5_init 158 = .ok (.putfield 64, 3) := by decide +kernel
theorem dX5_init_161 : decode cX5_init 161 = .ok (.iconst 0, 1) := by decide +kernel
theorem dX5_init_162 : decode cX5_init 162 = .ok (.istore_n 1, 1) := by decide +kernel
theorem dX5_init_163 : decode cX5_init 163 = .ok (.iload_n 1, 1) := by decide +kernel
theorem dX5_init_164 : decode cX5_init 164 = .ok (.bipush 8, 2) := by decide +kernel
theorem dX5_init_166 : decode cX5_init 166 = .ok (.if_icmp .ge 16, 3) := by decide +kernel
theorem dX5_init_169 : decode cX5_init 169 = .ok (.aload_n 0, 1) := by decide +kernel
theorem dX5_init_170 : decode cX5_init 170 = .ok (.getfield 40, 3) := by decide +kernel
theorem dX5_init_173 : decode cX5_init 173 = .ok (.iload_n 1, 1) := by decide +kernel
theorem dX5_init_174 : decode cX5_init 174 = .ok (.iconst (-1), 1) := by decide +kernel
theorem dX5_init_175 : decode cX5_init 175 = .ok (.iastore, 1) := by decide +kernel
theorem dX5_init_176 : decode cX5_init 176 = .ok (.iinc 1 1, 3) := by decide +kernel
theorem dX5_init_179 : decode cX5_init 179 = .ok (.goto (-16), 3) := by decide +kernel
theorem dX5_init_182 : decode cX5_init 182 = .ok (.return_, 1) := by decide +kernel
theorem dX5_thrown_0 : decode cX5_thrown 0 = .ok (.aload_n 0, 1) := by decide +kernel
theorem dX5_thrown_1 : decode cX5_thrown 1 = .ok (.getfield 67, 3) := by decide +kernel
theorem dX5_thrown_4 : decode cX5_thrown 4 = .ok (.ireturn, 1) := by decide +kernel
theorem dX5_in_0 : decode cX5_in 0 = .ok (.iload_n 0, 1) := by decide +kernel
theorem dX5_in_1 : decode cX5_in 1 = .ok (.iload_n 1, 1) := by decide +kernel
theorem dX5_in_2 : decode cX5_in 2 = .ok (.if_icmp .lt 12, 3) := by decide +kernel
theorem dX5_in_5 : decode cX5_in 5 = .ok (.iload_n 0, 1) := by decide +kernel
theorem dX5_in_6 : decode cX5_in 6 = .ok (.iload_n 2, 1) := by decide +kernel
theorem dX5_in_7 : decode cX5_in 7 = .ok (.if_icmp .gt 7, 3) := by decide +kernel
theorem dX5_in_10 : decode cX5_in 10 = .ok (.iconst 1, 1) := by decide +kernel
theorem dX5_in_11 : decode cX5_in 11 = .ok (.goto 4, 3) := by decide +kernel
theorem dX5_in_14 : decode cX5_in 14 = .ok (.iconst 0, 1) := by decide +kernel
theorem dX5_in_15 : decode cX5_in 15 = .ok (.ireturn, 1) := by decide +kernel
theorem dX5_goes_0 : decode cX5_goes 0 = .ok (.aload_n 0, 1) := by decide +kernel
theorem dX5_goes_1 : decode cX5_goes 1 = .ok (.iload_n 1, 1) := by decide +kernel
theorem dX5_goes_2 : decode cX5_goes 2 = .ok (.ifCond .ne 7, 3) := by decide +kernel
theorem dX5_goes_5 : decode cX5_goes 5 = .ok (.iconst 1, 1) := by decide +kernel
theorem dX5_goes_6 : decode cX5_goes 6 = .ok (.goto 20, 3) := by decide +kernel
theorem dX5_goes_9 : decode cX5_goes 9 = .ok (.iload_n 2, 1) := by decide +kernel
theorem dX5_goes_10 : decode cX5_goes 10 = .ok (.ifCond .ne 7, 3) := by decide +kernel
theorem dX5_goes_13 : decode cX5_goes 13 = .ok (.iconst 2, 1) := by decide +kernel
theorem dX5_goes_14 : decode cX5_goes 14 = .ok (.goto 12, 3) := by decide +kernel
theorem dX5_goes_17 : decode cX5_goes 17 = .ok (.iload_n 3, 1) := by decide +kernel
theorem dX5_goes_18 : decode cX5_goes 18 = .ok (.ifCond .ne 7, 3) := by decide +kernel
theorem dX5_goes_21 : decode cX5_goes 21 = .ok (.iconst 3, 1) := by decide +kernel
theorem dX5_goes_22 : decode cX5_goes 22 = .ok (.goto 4, 3) := by decide +kernel
theorem dX5_goes_25 : decode cX5_goes 25 = .ok (.iconst 0, 1) := by decide +kernel
theorem dX5_goes_26 : decode cX5_goes 26 = .ok (.putfield 67, 3) := by decide +kernel
theorem dX5_goes_29 : decode cX5_goes 29 = .ok (.aload_n 0, 1) := by decide +kernel
theorem dX5_goes_30 : decode cX5_goes 30 = .ok (.getfield 67, 3) := by decide +kernel
theorem dX5_goes_33 : decode cX5_goes 33 = .ok (.ifCond .ne 7, 3) := by decide +kernel
theorem dX5_goes_36 : decode cX5_goes 36 = .ok (.iconst 1, 1) := by decide +kernel
theorem dX5_goes_37 : decode cX5_goes 37 = .ok (.goto 4, 3) := by decide +kernel
theorem dX5_goes_40 : decode cX5_goes 40 = .ok (.iconst 0, 1) := by decide +kernel
theorem dX5_goes_41 : decode cX5_goes 41 = .ok (.ireturn, 1) := by decide +kernel
theorem dX5_told_0 : decode cX5_told 0 = .ok (.aload_n 0, 1) := by decide +kernel
theorem dX5_told_1 : decode cX5_told 1 = .ok (.iconst 0, 1) := by decide +kernel
theorem dX5_told_2 : decode cX5_told 2 = .ok (.putfield 67, 3) := by decide +kernel
theorem dX5_told_5 : decode cX5_told 5 = .ok (.iload_n 1, 1) := by decide +kernel
theorem dX5_told_6 : decode cX5_told 6 = .ok (.ireturn, 1) := by decide +kernel
theorem dX5_isPerson_0 : decode cX5_isPerson 0 = .ok (.iload_n 0, 1) := by decide +kernel
theorem dX5_isPerson_1 : decode cX5_isPerson 1 = .ok (.iconst 0, 1) := by decide +kernel
theorem dX5_isPerson_2 : decode cX5_isPerson 2 = .ok (.bipush 7, 2) := by decide +kernel
theorem dX5_isPerson_4 : decode cX5_isPerson 4 = .ok (.invokestatic 71, 3) := by decide +kernel
theorem dX5_isPerson_7 : decode cX5_isPerson 7 = .ok (.ireturn, 1) := by decide +kernel
theorem dX5_isEnvelope_0 : decode cX5_isEnvelope 0 = .ok (.iload_n 1, 1) := by decide +kernel
theorem dX5_isEnvelope_1 : decode cX5_isEnvelope 1 = .ok (.iconst 0, 1) := by decide +kernel
theorem dX5_isEnvelope_2 : decode cX5_isEnvelope 2 = .ok (.aload_n 0, 1) := by decide +kernel
theorem dX5_isEnvelope_3 : decode cX5_isEnvelope 3 = .ok (.getfield 75, 3) := by decide +kernel
theorem dX5_isEnvelope_6 : decode cX5_isEnvelope 6 = .ok (.iconst 1, 1) := by decide +kernel
theorem dX5_isEnvelope_7 : decode cX5_isEnvelope 7 = .ok (.isub, 1) := by decide +kernel
theorem dX5_isEnvelope_8 : decode cX5_isEnvelope 8 = .ok (.invokestatic 71, 3) := by decide +kernel
theorem dX5_isEnvelope_11 : decode cX5_isEnvelope 11 = .ok (.ireturn, 1) := by decide +kernel
theorem dX5_isSlot_0 : decode cX5_isSlot 0 = .ok (.aload_n 0, 1) := by decide +kernel
theorem dX5_isSlot_1 : decode cX5_isSlot 1 = .ok (.iload_n 1, 1) := by decide +kernel
theorem dX5_isSlot_2 : decode cX5_isSlot 2 = .ok (.invokevirtual 78, 3) := by decide +kernel
theorem dX5_isSlot_5 : decode cX5_isSlot 5 = .ok (.ifCond .eq 23, 3) := by decide +kernel
theorem dX5_isSlot_8 : decode cX5_isSlot 8 = .ok (.iload_n 2, 1) := by decide +kernel
theorem dX5_isSlot_9 : decode cX5_isSlot 9 = .ok (.iconst 0, 1) := by decide +kernel
theorem dX5_isSlot_10 : decode cX5_isSlot 10 = .ok (.aload_n 0, 1) := by decide +kernel
theorem dX5_isSlot_11 : decode cX5_isSlot 11 = .ok (.getfield 7, 3) := by decide +kernel
theorem dX5_isSlot_14 : decode cX5_isSlot 14 = .ok (.iload_n 1, 1) := by decide +kernel
theorem dX5_isSlot_15 : decode cX5_isSlot 15 = .ok (.iaload, 1) := by decide +kernel
theorem dX5_isSlot_16 : decode cX5_isSlot 16 = .ok (.iconst 1, 1) := by decide +kernel
theorem dX5_isSlot_17 : decode cX5_isSlot 17 = .ok (.isub, 1) := by decide +kernel
theorem dX5_isSlot_18 : decode cX5_isSlot 18 = .ok (.invokestatic 71, 3) := by decide +kernel
theorem dX5_isSlot_21 : decode cX5_isSlot 21 = .ok (.ifCond .eq 7, 3) := by decide +kernel
theorem dX5_isSlot_24 : decode cX5_isSlot 24 = .ok (.iconst 1, 1) := by decide +kernel
theorem dX5_isSlot_25 : decode cX5_isSlot 25 = .ok (.goto 4, 3) := by decide +kernel
theorem dX5_isSlot_28 : decode cX5_isSlot 28 = .ok (.iconst 0, 1) := by decide +kernel
theorem dX5_isSlot_29 : decode cX5_isSlot 29 = .ok (.ireturn, 1) := by decide +kernel
theorem dX5_isEvent_0 : decode cX5_isEvent 0 = .ok (.aload_n 0, 1) := by decide +kernel
theorem dX5_isEvent_1 : decode cX5_isEvent 1 = .ok (.iload_n 1, 1) := by decide +kernel
theorem dX5_isEvent_2 : decode cX5_isEvent 2 = .ok (.invokevirtual 78, 3) := by decide +kernel
theorem dX5_isEvent_5 : decode cX5_isEvent 5 = .ok (.ifCond .eq 23, 3) := by decide +kernel
theorem dX5_isEvent_8 : decode cX5_isEvent 8 = .ok (.iload_n 2, 1) := by decide +kernel
theorem dX5_isEvent_9 : decode cX5_isEvent 9 = .ok (.iconst 0, 1) := by decide +kernel
theorem dX5_isEvent_10 : decode cX5_isEvent 10 = .ok (.aload_n 0, 1) := by decide +kernel
theorem dX5_isEvent_11 : decode cX5_isEvent 11 = .ok (.getfield 19, 3) := by decide +kernel
theorem dX5_isEvent_14 : decode cX5_isEvent 14 = .ok (.iload_n 1, 1) := by decide +kernel
theorem dX5_isEvent_15 : decode cX5_isEvent 15 = .ok (.iaload, 1) := by decide +kernel
theorem dX5_isEvent_16 : decode cX5_isEvent 16 = .ok (.iconst 1, 1) := by decide +kernel
theorem dX5_isEvent_17 : decode cX5_isEvent 17 = .ok (.isub, 1) := by decide +kernel
theorem dX5_isEvent_18 : decode cX5_isEvent 18 = .ok (.invokestatic 71, 3) := by decide +kernel
theorem dX5_isEvent_21 : decode cX5_isEvent 21 = .ok (.ifCond .eq 7, 3) := by decide +kernel
theorem dX5_isEvent_24 : decode cX5_isEvent 24 = .ok (.iconst 1, 1) := by decide +kernel
theorem dX5_isEvent_25 : decode cX5_isEvent 25 = .ok (.goto 4, 3) := by decide +kernel
theorem dX5_isEvent_28 : decode cX5_isEvent 28 = .ok (.iconst 0, 1) := by decide +kernel
theorem dX5_isEvent_29 : decode cX5_isEvent 29 = .ok (.ireturn, 1) := by decide +kernel
theorem dX5_areEvents_0 : decode cX5_areEvents 0 = .ok (.aload_n 0, 1) := by decide +kernel
theorem dX5_areEvents_1 : decode cX5_areEvents 1 = .ok (.iload_n 1, 1) := by decide +kernel
theorem dX5_areEvents_2 : decode cX5_areEvents 2 = .ok (.invokevirtual 78, 3) := by decide +kernel
theorem dX5_areEvents_5 : decode cX5_areEvents 5 = .ok (.ifCond .eq 21, 3) := by decide +kernel
theorem dX5_areEvents_8 : decode cX5_areEvents 8 = .ok (.iload_n 2, 1) := by decide +kernel
theorem dX5_areEvents_9 : decode cX5_areEvents 9 = .ok (.iconst 0, 1) := by decide +kernel
theorem dX5_areEvents_10 : decode cX5_areEvents 10 = .ok (.aload_n 0, 1) := by decide +kernel
theorem dX5_areEvents_11 : decode cX5_areEvents 11 = .ok (.getfield 19, 3) := by decide +kernel
theorem dX5_areEvents_14 : decode cX5_areEvents 14 = .ok (.iload_n 1, 1) := by decide +kernel
theorem dX5_areEvents_15 : decode cX5_areEvents 15 = .ok (.iaload, 1) := by decide +kernel
theorem dX5_areEvents_16 : decode cX5_areEvents 16 = .ok (.invokestatic 71, 3) := by decide +kernel
theorem dX5_areEvents_19 : decode cX5_areEvents 19 = .ok (.ifCond .eq 7, 3) := by decide +kernel
theorem dX5_areEvents_22 : decode cX5_areEvents 22 = .ok (.iconst 1, 1) := by decide +kernel
theorem dX5_areEvents_23 : decode cX5_areEvents 23 = .ok (.goto 4, 3) := by decide +kernel
theorem dX5_areEvents_26 : decode cX5_areEvents 26 = .ok (.iconst 0, 1) := by decide +kernel
theorem dX5_areEvents_27 : decode cX5_areEvents 27 = .ok (.ireturn, 1) := by decide +kernel
theorem dX5_has_0 : decode cX5_has 0 = .ok (.iload_n 0, 1) := by decide +kernel
theorem dX5_has_1 : decode cX5_has 1 = .ok (.iload_n 1, 1) := by decide +kernel
theorem dX5_has_2 : decode cX5_has 2 = .ok (.ishr, 1) := by decide +kernel
theorem dX5_has_3 : decode cX5_has 3 = .ok (.iconst 1, 1) := by decide +kernel
theorem dX5_has_4 : decode cX5_has 4 = .ok (.iand, 1) := by decide +kernel
theorem dX5_has_5 : decode cX5_has 5 = .ok (.iconst 1, 1) := by decide +kernel
theorem dX5_has_6 : decode cX5_has 6 = .ok (.if_icmp .ne 7, 3) := by decide +kernel
theorem dX5_has_9 : decode cX5_has 9 = .ok (.iconst 1, 1) := by decide +kernel
theorem dX5_has_10 : decode cX5_has 10 = .ok (.goto 4, 3) := by decide +kernel
theorem dX5_has_13 : decode cX5_has 13 = .ok (.iconst 0, 1) := by decide +kernel
theorem dX5_has_14 : decode cX5_has 14 = .ok (.ireturn, 1) := by decide +kernel
theorem dX5_many_0 : decode cX5_many 0 = .ok (.iconst 0, 1) := by decide +kernel
theorem dX5_many_1 : decode cX5_many 1 = .ok (.istore_n 1, 1) := by decide +kernel
theorem dX5_many_2 : decode cX5_many 2 = .ok (.iconst 0, 1) := by decide +kernel
theorem dX5_many_3 : decode cX5_many 3 = .ok (.istore_n 2, 1) := by decide +kernel
theorem dX5_many_4 : decode cX5_many 4 = .ok (.iload_n 2, 1) := by decide +kernel
theorem dX5_many_5 : decode cX5_many 5 = .ok (.bipush 8, 2) := by decide +kernel
theorem dX5_many_7 : decode cX5_many 7 = .ok (.if_icmp .ge 17, 3) := by decide +kernel
theorem dX5_many_10 : decode cX5_many 10 = .ok (.iload_n 1, 1) := by decide +kernel
theorem dX5_many_11 : decode cX5_many 11 = .ok (.iload_n 0, 1) := by decide +kernel
theorem dX5_many_12 : decode cX5_many 12 = .ok (.iload_n 2, 1) := by decide +kernel
theorem dX5_many_13 : decode cX5_many 13 = .ok (.ishr, 1) := by decide +kernel
theorem dX5_many_14 : decode cX5_many 14 = .ok (.iconst 1, 1) := by decide +kernel
theorem dX5_many_15 : decode cX5_many 15 = .ok (.iand, 1) := by decide +kernel
theorem dX5_many_16 : decode cX5_many 16 = .ok (.iadd, 1) := by decide +kernel
theorem dX5_many_17 : decode cX5_many 17 = .ok (.istore_n 1, 1) := by decide +kernel
theorem dX5_many_18 : decode cX5_many 18 = .ok (.iinc 2 1, 3) := by decide +kernel
theorem dX5_many_21 : decode cX5_many 21 = .ok (.goto (-17), 3) := by decide +kernel
theorem dX5_many_24 : decode cX5_many 24 = .ok (.iload_n 1, 1) := by decide +kernel
theorem dX5_many_25 : decode cX5_many 25 = .ok (.ireturn, 1) := by decide +kernel
theorem dX5_all_0 : decode cX5_all 0 = .ok (.iconst 1, 1) := by decide +kernel
theorem dX5_all_1 : decode cX5_all 1 = .ok (.aload_n 0, 1) := by decide +kernel
theorem dX5_all_2 : decode cX5_all 2 = .ok (.getfield 7, 3) := by decide +kernel
theorem dX5_all_5 : decode cX5_all 5 = .ok (.iload_n 1, 1) := by decide +kernel
theorem dX5_all_6 : decode cX5_all 6 = .ok (.iaload, 1) := by decide +kernel
theorem dX5_all_7 : decode cX5_all 7 = .ok (.ishl, 1) := by decide +kernel
theorem dX5_all_8 : decode cX5_all 8 = .ok (.iconst 1, 1) := by decide +kernel
theorem dX5_all_9 : decode cX5_all 9 = .ok (.isub, 1) := by decide +kernel
theorem dX5_all_10 : decode cX5_all 10 = .ok (.ireturn, 1) := by decide +kernel
theorem dX5_opens_0 : decode cX5_opens 0 = .ok (.iconst 0, 1) := by decide +kernel
theorem dX5_opens_1 : decode cX5_opens 1 = .ok (.istore_n 3, 1) := by decide +kernel
theorem dX5_opens_2 : decode cX5_opens 2 = .ok (.iload_n 3, 1) := by decide +kernel
theorem dX5_opens_3 : decode cX5_opens 3 = .ok (.aload_n 0, 1) := by decide +kernel
theorem dX5_opens_4 : decode cX5_opens 4 = .ok (.getfield 7, 3) := by decide +kernel
theorem dX5_opens_7 : decode cX5_opens 7 = .ok (.iload_n 1, 1) := by decide +kernel
theorem dX5_opens_8 : decode cX5_opens 8 = .ok (.iaload, 1) := by decide +kernel
theorem dX5_opens_9 : decode cX5_opens 9 = .ok (.if_icmp .ge 90, 3) := by decide +kernel
theorem dX5_opens_12 : decode cX5_opens 12 = .ok (.aload_n 0, 1) := by decide +kernel
theorem dX5_opens_13 : decode cX5_opens 13 = .ok (.getfield 82, 3) := by decide +kernel
theorem dX5_opens_16 : decode cX5_opens 16 = .ok (.iload_n 3, 1) := by decide +kernel
theorem dX5_opens_17 : decode cX5_opens 17 = .ok (.invokestatic 85, 3) := by decide +kernel
theorem dX5_opens_20 : decode cX5_opens 20 = .ok (.ifCond .ne 28, 3) := by decide +kernel
theorem dX5_opens_23 : decode cX5_opens 23 = .ok (.aload_n 0, 1) := by decide +kernel
theorem dX5_opens_24 : decode cX5_opens 24 = .ok (.getfield 25, 3) := by decide +kernel
theorem dX5_opens_27 : decode cX5_opens 27 = .ok (.bipush 8, 2) := by decide +kernel
theorem dX5_opens_29 : decode cX5_opens 29 = .ok (.iload_n 1, 1) := by decide +kernel
theorem dX5_opens_30 : decode cX5_opens 30 = .ok (.imul, 1) := by decide +kernel
theorem dX5_opens_31 : decode cX5_opens 31 = .ok (.iload_n 3, 1) := by decide +kernel
theorem dX5_opens_32 : decode cX5_opens 32 = .ok (.iadd, 1) := by decide +kernel
theorem dX5_opens_33 : decode cX5_opens 33 = .ok (.iaload, 1) := by decide +kernel
theorem dX5_opens_34 : decode cX5_opens 34 = .ok (.aload_n 0, 1) := by decide +kernel
theorem dX5_opens_35 : decode cX5_opens 35 = .ok (.getfield 89, 3) := by decide +kernel
theorem dX5_opens_38 : decode cX5_opens 38 = .ok (.iconst (-1), 1) := by decide +kernel
theorem dX5_opens_39 : decode cX5_opens 39 = .ok (.ixor, 1) := by decide +kernel
theorem dX5_opens_40 : decode cX5_opens 40 = .ok (.iand, 1) := by decide +kernel
theorem dX5_opens_41 : decode cX5_opens 41 = .ok (.ifCond .ne 7, 3) := by decide +kernel
theorem dX5_opens_44 : decode cX5_opens 44 = .ok (.iconst 1, 1) := by decide +kernel
theorem dX5_opens_45 : decode cX5_opens 45 = .ok (.goto 4, 3) := by decide +kernel
theorem dX5_opens_48 : decode cX5_opens 48 = .ok (.iconst 0, 1) := by decide +kernel
theorem dX5_opens_49 : decode cX5_opens 49 = .ok (.istore 4, 2) := by decide +kernel
theorem dX5_opens_51 : decode cX5_opens 51 = .ok (.aload_n 0, 1) := by decide +kernel
theorem dX5_opens_52 : decode cX5_opens 52 = .ok (.getfield 58, 3) := by decide +kernel
theorem dX5_opens_55 : decode cX5_opens 55 = .ok (.iload_n 3, 1) := by decide +kernel
theorem dX5_opens_56 : decode cX5_opens 56 = .ok (.iload 4, 2) := by decide +kernel
theorem dX5_opens_58 : decode cX5_opens 58 = .ok (.ifCond .eq 7, 3) := by decide +kernel
theorem dX5_opens_61 : decode cX5_opens 61 = .ok (.iload_n 2, 1) := by decide +kernel
theorem dX5_opens_62 : decode cX5_opens 62 = .ok (.goto 9, 3) := by decide +kernel
theorem dX5_opens_65 : decode cX5_opens 65 = .ok (.aload_n 0, 1) := by decide +kernel
theorem dX5_opens_66 : decode cX5_opens 66 = .ok (.getfield 58, 3) := by decide +kernel
theorem dX5_opens_69 : decode cX5_opens 69 = .ok (.iload_n 3, 1) := by decide +kernel
theorem dX5_opens_70 : decode cX5_opens 70 = .ok (.iaload, 1) := by decide +kernel
theorem dX5_opens_71 : decode cX5_opens 71 = .ok (.iastore, 1) := by decide +kernel
theorem dX5_opens_72 : decode cX5_opens 72 = .ok (.aload_n 0, 1) := by decide +kernel
theorem dX5_opens_73 : decode cX5_opens 73 = .ok (.dup, 1) := by decide +kernel
theorem dX5_opens_74 : decode cX5_opens 74 = .ok (.getfield 82, 3) := by decide +kernel
theorem dX5_opens_77 : decode cX5_opens 77 = .ok (.iload 4, 2) := by decide +kernel
theorem dX5_opens_79 : decode cX5_opens 79 = .ok (.ifCond .eq 9, 3) := by decide +kernel
theorem dX5_opens_82 : decode cX5_opens 82 = .ok (.iconst 1, 1) := by decide +kernel
theorem dX5_opens_83 : decode cX5_opens 83 = .ok (.iload_n 3, 1) := by decide +kernel
theorem dX5_opens_84 : decode cX5_opens 84 = .ok (.ishl, 1) := by decide +kernel
theorem dX5_opens_85 : decode cX5_opens 85 = .ok (.goto 4, 3) := by decide +kernel
theorem dX5_opens_88 : decode cX5_opens 88 = .ok (.iconst 0, 1) := by decide +kernel
theorem dX5_opens_89 : decode cX5_opens 89 = .ok (.ior, 1) := by decide +kernel
theorem dX5_opens_90 : decode cX5_opens 90 = .ok (.putfield 82, 3) := by decide +kernel
theorem dX5_opens_93 : decode cX5_opens 93 = .ok (.iinc 3 1, 3) := by decide +kernel
theorem dX5_opens_96 : decode cX5_opens 96 = .ok (.goto (-94), 3) := by decide +kernel
theorem dX5_opens_99 : decode cX5_opens 99 = .ok (.return_, 1) := by decide +kernel
theorem dX5_ends_0 : decode cX5_ends 0 = .ok (.iload_n 0, 1) := by decide +kernel
theorem dX5_ends_1 : decode cX5_ends 1 = .ok (.iconst 3, 1) := by decide +kernel
theorem dX5_ends_2 : decode cX5_ends 2 = .ok (.if_icmp .ne 7, 3) := by decide +kernel
theorem dX5_ends_5 : decode cX5_ends 5 = .ok (.iconst 3, 1) := by decide +kernel
theorem dX5_ends_6 : decode cX5_ends 6 = .ok (.goto 13, 3) := by decide +kernel
theorem dX5_ends_9 : decode cX5_ends 9 = .ok (.iload_n 0, 1) := by decide +kernel
theorem dX5_ends_10 : decode cX5_ends 10 = .ok (.iconst 4, 1) := by decide +kernel
theorem dX5_ends_11 : decode cX5_ends 11 = .ok (.if_icmp .ne 7, 3) := by decide +kernel
theorem dX5_ends_14 : decode cX5_ends 14 = .ok (.iconst 4, 1) := by decide +kernel
theorem dX5_ends_15 : decode cX5_ends 15 = .ok (.goto 4, 3) := by decide +kernel
theorem dX5_ends_18 : decode cX5_ends 18 = .ok (.iconst 5, 1) := by decide +kernel
theorem dX5_ends_19 : decode cX5_ends 19 = .ok (.ireturn, 1) := by decide +kernel
theorem dX5_tells_0 : decode cX5_tells 0 = .ok (.aload_n 0, 1) := by decide +kernel
theorem dX5_tells_1 : decode cX5_tells 1 = .ok (.iconst 0, 1) := by decide +kernel
theorem dX5_tells_2 : decode cX5_tells 2 = .ok (.putfield 92, 3) := by decide +kernel
theorem dX5_tells_5 : decode cX5_tells 5 = .ok (.aload_n 0, 1) := by decide +kernel
theorem dX5_tells_6 : decode cX5_tells 6 = .ok (.iconst 0, 1) := by decide +kernel
theorem dX5_tells_7 : decode cX5_tells 7 = .ok (.putfield 89, 3) := by decide +kernel
theorem dX5_tells_10 : decode cX5_tells 10 = .ok (.aload_n 0, 1) := by decide +kernel
theorem dX5_tells_11 : decode cX5_tells 11 = .ok (.iconst 0, 1) := by decide +kernel
theorem dX5_tells_12 : decode cX5_tells 12 = .ok (.putfield 82, 3) := by decide +kernel
theorem dX5_tells_15 : decode cX5_tells 15 = .ok (.iconst 0, 1) := by decide +kernel
theorem dX5_tells_16 : decode cX5_tells 16 = .ok (.istore_n 3, 1) := by decide +kernel
theorem dX5_tells_17 : decode cX5_tells 17 = .ok (.iload_n 3, 1) := by decide +kernel
theorem dX5_tells_18 : decode cX5_tells 18 = .ok (.bipush 8, 2) := by decide +kernel
theorem dX5_tells_20 : decode cX5_tells 20 = .ok (.if_icmp .ge 16, 3) := by decide +kernel
theorem dX5_tells_23 : decode cX5_tells 23 = .ok (.aload_n 0, 1) := by decide +kernel
theorem dX5_tells_24 : decode cX5_tells 24 = .ok (.getfield 61, 3) := by decide +kernel
theorem dX5_tells_27 : decode cX5_tells 27 = .ok (.iload_n 3, 1) := by decide +kernel
theorem dX5_tells_28 : decode cX5_tells 28 = .ok (.iconst 0, 1) := by decide +kernel
theorem dX5_tells_29 : decode cX5_tells 29 = .ok (.iastore, 1) := by decide +kernel
theorem dX5_tells_30 : decode cX5_tells 30 = .ok (.iinc 3 1, 3) := by decide +kernel
theorem dX5_tells_33 : decode cX5_tells 33 = .ok (.goto (-16), 3) := by decide +kernel
theorem dX5_tells_36 : decode cX5_tells 36 = .ok (.bipush 50, 2) := by decide +kernel
theorem dX5_tells_38 : decode cX5_tells 38 = .ok (.iload_n 1, 1) := by decide +kernel
theorem dX5_tells_39 : decode cX5_tells 39 = .ok (.imul, 1) := by decide +kernel
theorem dX5_tells_40 : decode cX5_tells 40 = .ok (.istore_n 3, 1) := by decide +kernel
theorem dX5_tells_41 : decode cX5_tells 41 = .ok (.iload_n 3, 1) := by decide +kernel
theorem dX5_tells_42 : decode cX5_tells 42 = .ok (.bipush 50, 2) := by decide +kernel
theorem dX5_tells_44 : decode cX5_tells 44 = .ok (.iload_n 1, 1) := by decide +kernel
theorem dX5_tells_45 : decode cX5_tells 45 = .ok (.imul, 1) := by decide +kernel
theorem dX5_tells_46 : decode cX5_tells 46 = .ok (.iload_n 2, 1) := by decide +kernel
theorem dX5_tells_47 : decode cX5_tells 47 = .ok (.iadd, 1) := by decide +kernel
theorem dX5_tells_48 : decode cX5_tells 48 = .ok (.if_icmp .ge 151, 3) := by decide +kernel
theorem dX5_tells_51 : decode cX5_tells 51 = .ok (.aload_n 0, 1) := by decide +kernel
theorem dX5_tells_52 : decode cX5_tells 52 = .ok (.getfield 28, 3) := by decide +kernel
theorem dX5_tells_55 : decode cX5_tells 55 = .ok (.iload_n 3, 1) := by decide +kernel
theorem dX5_tells_56 : decode cX5_tells 56 = .ok (.iaload, 1) := by decide +kernel
theorem dX5_tells_57 : decode cX5_tells 57 = .ok (.ifCond .ne 22, 3) := by decide +kernel
theorem dX5_tells_60 : decode cX5_tells 60 = .ok (.aload_n 0, 1) := by decide +kernel
theorem dX5_tells_61 : decode cX5_tells 61 = .ok (.iconst 1, 1) := by decide +kernel
theorem dX5_tells_62 : decode cX5_tells 62 = .ok (.putfield 92, 3) := by decide +kernel
theorem dX5_tells_65 : decode cX5_tells 65 = .ok (.aload_n 0, 1) := by decide +kernel
theorem dX5_tells_66 : decode cX5_tells 66 = .ok (.iload_n 1, 1) := by decide +kernel
theorem dX5_tells_67 : decode cX5_tells 67 = .ok (.aload_n 0, 1) := by decide +kernel
theorem dX5_tells_68 : decode cX5_tells 68 = .ok (.getfield 37, 3) := by decide +kernel
theorem dX5_tells_71 : decode cX5_tells 71 = .ok (.iload_n 3, 1) := by decide +kernel
theorem dX5_tells_72 : decode cX5_tells 72 = .ok (.iaload, 1) := by decide +kernel
theorem dX5_tells_73 : decode cX5_tells 73 = .ok (.invokevirtual 95, 3) := by decide +kernel
theorem dX5_tells_76 : decode cX5_tells 76 = .ok (.goto 117, 3) := by decide +kernel
theorem dX5_tells_79 : decode cX5_tells 79 = .ok (.aload_n 0, 1) := by decide +kernel
theorem dX5_tells_80 : decode cX5_tells 80 = .ok (.getfield 28, 3) := by decide +kernel
theorem dX5_tells_83 : decode cX5_tells 83 = .ok (.iload_n 3, 1) := by decide +kernel
theorem dX5_tells_84 : decode cX5_tells 84 = .ok (.iaload, 1) := by decide +kernel
theorem dX5_tells_85 : decode cX5_tells 85 = .ok (.iconst 1, 1) := by decide +kernel
theorem dX5_tells_86 : decode cX5_tells 86 = .ok (.if_icmp .eq 13, 3) := by decide +kernel
theorem dX5_tells_89 : decode cX5_tells 89 = .ok (.aload_n 0, 1) := by decide +kernel
theorem dX5_tells_90 : decode cX5_tells 90 = .ok (.getfield 28, 3) := by decide +kernel
theorem dX5_tells_93 : decode cX5_tells 93 = .ok (.iload_n 3, 1) := by decide +kernel
theorem dX5_tells_94 : decode cX5_tells 94 = .ok (.iaload, 1) := by decide +kernel
theorem dX5_tells_95 : decode cX5_tells 95 = .ok (.iconst 2, 1) := by decide +kernel
theorem dX5_tells_96 : decode cX5_tells 96 = .ok (.if_icmp .ne 55, 3) := by decide +kernel
theorem dX5_tells_99 : decode cX5_tells 99 = .ok (.aload_n 0, 1) := by decide +kernel
theorem dX5_tells_100 : decode cX5_tells 100 = .ok (.dup, 1) := by decide +kernel
theorem dX5_tells_101 : decode cX5_tells 101 = .ok (.getfield 89, 3) := by decide +kernel
theorem dX5_tells_104 : decode cX5_tells 104 = .ok (.iconst 1, 1) := by decide +kernel
theorem dX5_tells_105 : decode cX5_tells 105 = .ok (.aload_n 0, 1) := by decide +kernel
theorem dX5_tells_106 : decode cX5_tells 106 = .ok (.getfield 34, 3) := by decide +kernel
theorem dX5_tells_109 : decode cX5_tells 109 = .ok (.iload_n 3, 1) := by decide +kernel
theorem dX5_tells_110 : decode cX5_tells 110 = .ok (.iaload, 1) := by decide +kernel
theorem dX5_tells_111 : decode cX5_tells 111 = .ok (.ishl, 1) := by decide +kernel
theorem dX5_tells_112 : decode cX5_tells 112 = .ok (.ior, 1) := by decide +kernel
theorem dX5_tells_113 : decode cX5_tells 113 = .ok (.putfield 89, 3) := by decide +kernel
theorem dX5_tells_116 : decode cX5_tells 116 = .ok (.aload_n 0, 1) := by decide +kernel
theorem dX5_tells_117 : decode cX5_tells 117 = .ok (.iload_n 1, 1) := by decide +kernel
theorem dX5_tells_118 : decode cX5_tells 118 = .ok (.aload_n 0, 1) := by decide +kernel
theorem dX5_tells_119 : decode cX5_tells 119 = .ok (.getfield 37, 3) := by decide +kernel
theorem dX5_tells_122 : decode cX5_tells 122 = .ok (.iload_n 3, 1) := by decide +kernel
theorem dX5_tells_123 : decode cX5_tells 123 = .ok (.iaload, 1) := by decide +kernel
theorem dX5_tells_124 : decode cX5_tells 124 = .ok (.invokevirtual 95, 3) := by decide +kernel
theorem dX5_tells_127 : decode cX5_tells 127 = .ok (.aload_n 0, 1) := by decide +kernel
theorem dX5_tells_128 : decode cX5_tells 128 = .ok (.aload_n 0, 1) := by decide +kernel
theorem dX5_tells_129 : decode cX5_tells 129 = .ok (.getfield 89, 3) := by decide +kernel
theorem dX5_tells_132 : decode cX5_tells 132 = .ok (.aload_n 0, 1) := by decide +kernel
theorem dX5_tells_133 : decode cX5_tells 133 = .ok (.iload_n 1, 1) := by decide +kernel
theorem dX5_tells_134 : decode cX5_tells 134 = .ok (.invokevirtual 99, 3) := by decide +kernel
theorem dX5_tells_137 : decode cX5_tells 137 = .ok (.if_icmp .ne 7, 3) := by decide +kernel
theorem dX5_tells_140 : decode cX5_tells 140 = .ok (.iconst 2, 1) := by decide +kernel
theorem dX5_tells_141 : decode cX5_tells 141 = .ok (.goto 4, 3) := by decide +kernel
theorem dX5_tells_144 : decode cX5_tells 144 = .ok (.iconst 1, 1) := by decide +kernel
theorem dX5_tells_145 : decode cX5_tells 145 = .ok (.putfield 92, 3) := by decide +kernel
theorem dX5_tells_148 : decode cX5_tells 148 = .ok (.goto 45, 3) := by decide +kernel
theorem dX5_tells_151 : decode cX5_tells 151 = .ok (.aload_n 0, 1) := by decide +kernel
theorem dX5_tells_152 : decode cX5_tells 152 = .ok (.getfield 28, 3) := by decide +kernel
theorem dX5_tells_155 : decode cX5_tells 155 = .ok (.iload_n 3, 1) := by decide +kernel
theorem dX5_tells_156 : decode cX5_tells 156 = .ok (.iaload, 1) := by decide +kernel
theorem dX5_tells_157 : decode cX5_tells 157 = .ok (.bipush 6, 2) := by decide +kernel
theorem dX5_tells_159 : decode cX5_tells 159 = .ok (.if_icmp .ne 21, 3) := by decide +kernel
theorem dX5_tells_162 : decode cX5_tells 162 = .ok (.aload_n 0, 1) := by decide +kernel
theorem dX5_tells_163 : decode cX5_tells 163 = .ok (.getfield 61, 3) := by decide +kernel
theorem dX5_tells_166 : decode cX5_tells 166 = .ok (.aload_n 0, 1) := by decide +kernel
theorem dX5_tells_167 : decode cX5_tells 167 = .ok (.getfield 34, 3) := by decide +kernel
theorem dX5_tells_170 : decode cX5_tells 170 = .ok (.iload_n 3, 1) := by decide +kernel
theorem dX5_tells_171 : decode cX5_tells 171 = .ok (.iaload, 1) := by decide +kernel
theorem dX5_tells_172 : decode cX5_tells 172 = .ok (.dup2, 1) := by decide +kernel
theorem dX5_tells_173 : decode cX5_tells 173 = .ok (.iaload, 1) := by decide +kernel
theorem dX5_tells_174 : decode cX5_tells 174 = .ok (.iconst 1, 1) := by decide +kernel
theorem dX5_tells_175 : decode cX5_tells 175 = .ok (.iadd, 1) := by decide +kernel
theorem dX5_tells_176 : decode cX5_tells 176 = .ok (.iastore, 1) := by decide +kernel
theorem dX5_tells_177 : decode cX5_tells 177 = .ok (.goto 16, 3) := by decide +kernel
theorem dX5_tells_180 : decode cX5_tells 180 = .ok (.aload_n 0, 1) := by decide +kernel
theorem dX5_tells_181 : decode cX5_tells 181 = .ok (.aload_n 0, 1) := by decide +kernel
theorem dX5_tells_182 : decode cX5_tells 182 = .ok (.getfield 28, 3) := by decide +kernel
theorem dX5_tells_185 : decode cX5_tells 185 = .ok (.iload_n 3, 1) := by decide +kernel
theorem dX5_tells_186 : decode cX5_tells 186 = .ok (.iaload, 1) := by decide +kernel
theorem dX5_tells_187 : decode cX5_tells 187 = .ok (.invokestatic 103, 3) := by decide +kernel
theorem dX5_tells_190 : decode cX5_tells 190 = .ok (.putfield 92, 3) := by decide +kernel
theorem dX5_tells_193 : decode cX5_tells 193 = .ok (.iinc 3 1, 3) := by decide +kernel
theorem dX5_tells_196 : decode cX5_tells 196 = .ok (.goto (-155), 3) := by decide +kernel
theorem dX5_tells_199 : decode cX5_tells 199 = .ok (.return_, 1) := by decide +kernel
theorem dX5_looks_0 : decode cX5_looks 0 = .ok (.aload_n 0, 1) := by decide +kernel
theorem dX5_looks_1 : decode cX5_looks 1 = .ok (.iload_n 1, 1) := by decide +kernel
theorem dX5_looks_2 : decode cX5_looks 2 = .ok (.aload_n 0, 1) := by decide +kernel
theorem dX5_looks_3 : decode cX5_looks 3 = .ok (.getfield 19, 3) := by decide +kernel
theorem dX5_looks_6 : decode cX5_looks 6 = .ok (.iload_n 1, 1) := by decide +kernel
theorem dX5_looks_7 : decode cX5_looks 7 = .ok (.iaload, 1) := by decide +kernel
theorem dX5_looks_8 : decode cX5_looks 8 = .ok (.invokevirtual 106, 3) := by decide +kernel
theorem dX5_looks_11 : decode cX5_looks 11 = .ok (.return_, 1) := by decide +kernel
theorem dX5_isIn_0 : decode cX5_isIn 0 = .ok (.aload_n 0, 1) := by decide +kernel
theorem dX5_isIn_1 : decode cX5_isIn 1 = .ok (.iload_n 1, 1) := by decide +kernel
theorem dX5_isIn_2 : decode cX5_isIn 2 = .ok (.invokevirtual 109, 3) := by decide +kernel
theorem dX5_isIn_5 : decode cX5_isIn 5 = .ok (.aload_n 0, 1) := by decide +kernel
theorem dX5_isIn_6 : decode cX5_isIn 6 = .ok (.getfield 92, 3) := by decide +kernel
theorem dX5_isIn_9 : decode cX5_isIn 9 = .ok (.iload_n 2, 1) := by decide +kernel
theorem dX5_isIn_10 : decode cX5_isIn 10 = .ok (.if_icmp .ne 7, 3) := by decide +kernel
theorem dX5_isIn_13 : decode cX5_isIn 13 = .ok (.iconst 1, 1) := by decide +kernel
theorem dX5_isIn_14 : decode cX5_isIn 14 = .ok (.goto 4, 3) := by decide +kernel
theorem dX5_isIn_17 : decode cX5_isIn 17 = .ok (.iconst 0, 1) := by decide +kernel
theorem dX5_isIn_18 : decode cX5_isIn 18 = .ok (.ireturn, 1) := by decide +kernel
theorem dX5_open_0 : decode cX5_open 0 = .ok (.aload_n 0, 1) := by decide +kernel
theorem dX5_open_1 : decode cX5_open 1 = .ok (.getfield 92, 3) := by decide +kernel
theorem dX5_open_4 : decode cX5_open 4 = .ok (.iconst 1, 1) := by decide +kernel
theorem dX5_open_5 : decode cX5_open 5 = .ok (.if_icmp .ne 17, 3) := by decide +kernel
theorem dX5_open_8 : decode cX5_open 8 = .ok (.aload_n 0, 1) := by decide +kernel
theorem dX5_open_9 : decode cX5_open 9 = .ok (.getfield 82, 3) := by decide +kernel
theorem dX5_open_12 : decode cX5_open 12 = .ok (.aload_n 0, 1) := by decide +kernel
theorem dX5_open_13 : decode cX5_open 13 = .ok (.getfield 89, 3) := by decide +kernel
theorem dX5_open_16 : decode cX5_open 16 = .ok (.iconst (-1), 1) := by decide +kernel
theorem dX5_open_17 : decode cX5_open 17 = .ok (.ixor, 1) := by decide +kernel
theorem dX5_open_18 : decode cX5_open 18 = .ok (.iand, 1) := by decide +kernel
theorem dX5_open_19 : decode cX5_open 19 = .ok (.goto 4, 3) := by decide +kernel
theorem dX5_open_22 : decode cX5_open 22 = .ok (.iconst 0, 1) := by decide +kernel
theorem dX5_open_23 : decode cX5_open 23 = .ok (.ireturn, 1) := by decide +kernel
theorem dX5_notes_0 : decode cX5_notes 0 = .ok (.bipush 50, 2) := by decide +kernel
theorem dX5_notes_2 : decode cX5_notes 2 = .ok (.iload_n 1, 1) := by decide +kernel
theorem dX5_notes_3 : decode cX5_notes 3 = .ok (.imul, 1) := by decide +kernel
theorem dX5_notes_4 : decode cX5_notes 4 = .ok (.aload_n 0, 1) := by decide +kernel
theorem dX5_notes_5 : decode cX5_notes 5 = .ok (.getfield 19, 3) := by decide +kernel
theorem dX5_notes_8 : decode cX5_notes 8 = .ok (.iload_n 1, 1) := by decide +kernel
theorem dX5_notes_9 : decode cX5_notes 9 = .ok (.iaload, 1) := by decide +kernel
theorem dX5_notes_10 : decode cX5_notes 10 = .ok (.iadd, 1) := by decide +kernel
theorem dX5_notes_11 : decode cX5_notes 11 = .ok (.istore 5, 2) := by decide +kernel
theorem dX5_notes_13 : decode cX5_notes 13 = .ok (.aload_n 0, 1) := by decide +kernel
theorem dX5_notes_14 : decode cX5_notes 14 = .ok (.getfield 28, 3) := by decide +kernel
theorem dX5_notes_17 : decode cX5_notes 17 = .ok (.iload 5, 2) := by decide +kernel
theorem dX5_notes_19 : decode cX5_notes 19 = .ok (.iload_n 2, 1) := by decide +kernel
theorem dX5_notes_20 : decode cX5_notes 20 = .ok (.iastore, 1) := by decide +kernel
theorem dX5_notes_21 : decode cX5_notes 21 = .ok (.aload_n 0, 1) := by decide +kernel
theorem dX5_notes_22 : decode cX5_notes 22 = .ok (.getfield 31, 3) := by decide +kernel
theorem dX5_notes_25 : decode cX5_notes 25 = .ok (.iload 5, 2) := by decide +kernel
theorem dX5_notes_27 : decode cX5_notes 27 = .ok (.iload_n 3, 1) := by decide +kernel
theorem dX5_notes_28 : decode cX5_notes 28 = .ok (.iastore, 1) := by decide +kernel
theorem dX5_notes_29 : decode cX5_notes 29 = .ok (.aload_n 0, 1) := by decide +kernel
theorem dX5_notes_30 : decode cX5_notes 30 = .ok (.getfield 34, 3) := by decide +kernel
theorem dX5_notes_33 : decode cX5_notes 33 = .ok (.iload 5, 2) := by decide +kernel
theorem dX5_notes_35 : decode cX5_notes 35 = .ok (.iload 4, 2) := by decide +kernel
theorem dX5_notes_37 : decode cX5_notes 37 = .ok (.iastore, 1) := by decide +kernel
theorem dX5_notes_38 : decode cX5_notes 38 = .ok (.aload_n 0, 1) := by decide +kernel
theorem dX5_notes_39 : decode cX5_notes 39 = .ok (.getfield 37, 3) := by decide +kernel
theorem dX5_notes_42 : decode cX5_notes 42 = .ok (.iload 5, 2) := by decide +kernel
theorem dX5_notes_44 : decode cX5_notes 44 = .ok (.aload_n 0, 1) := by decide +kernel
theorem dX5_notes_45 : decode cX5_notes 45 = .ok (.getfield 113, 3) := by decide +kernel
theorem dX5_notes_48 : decode cX5_notes 48 = .ok (.iastore, 1) := by decide +kernel
theorem dX5_notes_49 : decode cX5_notes 49 = .ok (.aload_n 0, 1) := by decide +kernel
theorem dX5_notes_50 : decode cX5_notes 50 = .ok (.getfield 19, 3) := by decide +kernel
theorem dX5_notes_53 : decode cX5_notes 53 = .ok (.iload_n 1, 1) := by decide +kernel
theorem dX5_notes_54 : decode cX5_notes 54 = .ok (.dup2, 1) := by decide +kernel
theorem dX5_notes_55 : decode cX5_notes 55 = .ok (.iaload, 1) := by decide +kernel
theorem dX5_notes_56 : decode cX5_notes 56 = .ok (.iconst 1, 1) := by decide +kernel
theorem dX5_notes_57 : decode cX5_notes 57 = .ok (.iadd, 1) := by decide +kernel
theorem dX5_notes_58 : decode cX5_notes 58 = .ok (.iastore, 1) := by decide +kernel
theorem dX5_notes_59 : decode cX5_notes 59 = .ok (.return_, 1) := by decide +kernel
theorem dX5_closes_0 : decode cX5_closes 0 = .ok (.aload_n 0, 1) := by decide +kernel
theorem dX5_closes_1 : decode cX5_closes 1 = .ok (.iload_n 1, 1) := by decide +kernel
theorem dX5_closes_2 : decode cX5_closes 2 = .ok (.invokevirtual 109, 3) := by decide +kernel
theorem dX5_closes_5 : decode cX5_closes 5 = .ok (.aload_n 0, 1) := by decide +kernel
theorem dX5_closes_6 : decode cX5_closes 6 = .ok (.iload_n 1, 1) := by decide +kernel
theorem dX5_closes_7 : decode cX5_closes 7 = .ok (.iload_n 2, 1) := by decide +kernel
theorem dX5_closes_8 : decode cX5_closes 8 = .ok (.iload_n 3, 1) := by decide +kernel
theorem dX5_closes_9 : decode cX5_closes 9 = .ok (.iload 4, 2) := by decide +kernel
theorem dX5_closes_11 : decode cX5_closes 11 = .ok (.invokevirtual 116, 3) := by decide +kernel
theorem dX5_closes_14 : decode cX5_closes 14 = .ok (.aload_n 0, 1) := by decide +kernel
theorem dX5_closes_15 : decode cX5_closes 15 = .ok (.iload_n 1, 1) := by decide +kernel
theorem dX5_closes_16 : decode cX5_closes 16 = .ok (.invokevirtual 99, 3) := by decide +kernel
theorem dX5_closes_19 : decode cX5_closes 19 = .ok (.aload_n 0, 1) := by decide +kernel
theorem dX5_closes_20 : decode cX5_closes 20 = .ok (.getfield 89, 3) := by decide +kernel
theorem dX5_closes_23 : decode cX5_closes 23 = .ok (.iconst (-1), 1) := by decide +kernel
theorem dX5_closes_24 : decode cX5_closes 24 = .ok (.ixor, 1) := by decide +kernel
theorem dX5_closes_25 : decode cX5_closes 25 = .ok (.iand, 1) := by decide +kernel
theorem dX5_closes_26 : decode cX5_closes 26 = .ok (.invokestatic 120, 3) := by decide +kernel
theorem dX5_closes_29 : decode cX5_closes 29 = .ok (.ireturn, 1) := by decide +kernel
theorem dX5_draft_0 : decode cX5_draft 0 = .ok (.aload_n 0, 1) := by decide +kernel
theorem dX5_draft_1 : decode cX5_draft 1 = .ok (.aload_n 0, 1) := by decide +kernel
theorem dX5_draft_2 : decode cX5_draft 2 = .ok (.getfield 75, 3) := by decide +kernel
theorem dX5_draft_5 : decode cX5_draft 5 = .ok (.bipush 6, 2) := by decide +kernel
theorem dX5_draft_7 : decode cX5_draft 7 = .ok (.if_icmp .ge 7, 3) := by decide +kernel
theorem dX5_draft_10 : decode cX5_draft 10 = .ok (.iconst 1, 1) := by decide +kernel
theorem dX5_draft_11 : decode cX5_draft 11 = .ok (.goto 4, 3) := by decide +kernel
theorem dX5_draft_14 : decode cX5_draft 14 = .ok (.iconst 0, 1) := by decide +kernel
theorem dX5_draft_15 : decode cX5_draft 15 = .ok (.iconst 1, 1) := by decide +kernel
theorem dX5_draft_16 : decode cX5_draft 16 = .ok (.iconst 1, 1) := by decide +kernel
theorem dX5_draft_17 : decode cX5_draft 17 = .ok (.invokevirtual 123, 3) := by decide +kernel
theorem dX5_draft_20 : decode cX5_draft 20 = .ok (.ifCond .ne 5, 3) := by decide +kernel
theorem dX5_draft_23 : decode cX5_draft 23 = .ok (.iconst 0, 1) := by decide +kernel
theorem dX5_draft_24 : decode cX5_draft 24 = .ok (.ireturn, 1) := by decide +kernel
theorem dX5_draft_25 : decode cX5_draft 25 = .ok (.aload_n 0, 1) := by decide +kernel
theorem dX5_draft_26 : decode cX5_draft 26 = .ok (.dup, 1) := by decide +kernel
theorem dX5_draft_27 : decode cX5_draft 27 = .ok (.getfield 75, 3) := by decide +kernel
theorem dX5_draft_30 : decode cX5_draft 30 = .ok (.iconst 1, 1) := by decide +kernel
theorem dX5_draft_31 : decode cX5_draft 31 = .ok (.iadd, 1) := by decide +kernel
theorem dX5_draft_32 : decode cX5_draft 32 = .ok (.putfield 75, 3) := by decide +kernel
theorem dX5_draft_35 : decode cX5_draft 35 = .ok (.aload_n 0, 1) := by decide +kernel
theorem dX5_draft_36 : decode cX5_draft 36 = .ok (.getfield 75, 3) := by decide +kernel
theorem dX5_draft_39 : decode cX5_draft 39 = .ok (.iconst 1, 1) := by decide +kernel
theorem dX5_draft_40 : decode cX5_draft 40 = .ok (.isub, 1) := by decide +kernel
theorem dX5_draft_41 : decode cX5_draft 41 = .ok (.ireturn, 1) := by decide +kernel
theorem dX5_adds_0 : decode cX5_adds 0 = .ok (.aload_n 0, 1) := by decide +kernel
theorem dX5_adds_1 : decode cX5_adds 1 = .ok (.getfield 22, 3) := by decide +kernel
theorem dX5_adds_4 : decode cX5_adds 4 = .ok (.bipush 8, 2) := by decide +kernel
theorem dX5_adds_6 : decode cX5_adds 6 = .ok (.iload_n 1, 1) := by decide +kernel
theorem dX5_adds_7 : decode cX5_adds 7 = .ok (.imul, 1) := by decide +kernel
theorem dX5_adds_8 : decode cX5_adds 8 = .ok (.aload_n 0, 1) := by decide +kernel
theorem dX5_adds_9 : decode cX5_adds 9 = .ok (.getfield 7, 3) := by decide +kernel
theorem dX5_adds_12 : decode cX5_adds 12 = .ok (.iload_n 1, 1) := by decide +kernel
theorem dX5_adds_13 : decode cX5_adds 13 = .ok (.iaload, 1) := by decide +kernel
theorem dX5_adds_14 : decode cX5_adds 14 = .ok (.iadd, 1) := by decide +kernel
theorem dX5_adds_15 : decode cX5_adds 15 = .ok (.iload_n 2, 1) := by decide +kernel
theorem dX5_adds_16 : decode cX5_adds 16 = .ok (.iastore, 1) := by decide +kernel
theorem dX5_adds_17 : decode cX5_adds 17 = .ok (.aload_n 0, 1) := by decide +kernel
theorem dX5_adds_18 : decode cX5_adds 18 = .ok (.getfield 25, 3) := by decide +kernel
theorem dX5_adds_21 : decode cX5_adds 21 = .ok (.bipush 8, 2) := by decide +kernel
theorem dX5_adds_23 : decode cX5_adds 23 = .ok (.iload_n 1, 1) := by decide +kernel
theorem dX5_adds_24 : decode cX5_adds 24 = .ok (.imul, 1) := by decide +kernel
theorem dX5_adds_25 : decode cX5_adds 25 = .ok (.aload_n 0, 1) := by decide +kernel
theorem dX5_adds_26 : decode cX5_adds 26 = .ok (.getfield 7, 3) := by decide +kernel
theorem dX5_adds_29 : decode cX5_adds 29 = .ok (.iload_n 1, 1) := by decide +kernel
theorem dX5_adds_30 : decode cX5_adds 30 = .ok (.iaload, 1) := by decide +kernel
theorem dX5_adds_31 : decode cX5_adds 31 = .ok (.iadd, 1) := by decide +kernel
theorem dX5_adds_32 : decode cX5_adds 32 = .ok (.iload_n 3, 1) := by decide +kernel
theorem dX5_adds_33 : decode cX5_adds 33 = .ok (.iastore, 1) := by decide +kernel
theorem dX5_adds_34 : decode cX5_adds 34 = .ok (.aload_n 0, 1) := by decide +kernel
theorem dX5_adds_35 : decode cX5_adds 35 = .ok (.getfield 7, 3) := by decide +kernel
theorem dX5_adds_38 : decode cX5_adds 38 = .ok (.iload_n 1, 1) := by decide +kernel
theorem dX5_adds_39 : decode cX5_adds 39 = .ok (.dup2, 1) := by decide +kernel
theorem dX5_adds_40 : decode cX5_adds 40 = .ok (.iaload, 1) := by decide +kernel
theorem dX5_adds_41 : decode cX5_adds 41 = .ok (.iconst 1, 1) := by decide +kernel
theorem dX5_adds_42 : decode cX5_adds 42 = .ok (.iadd, 1) := by decide +kernel
theorem dX5_adds_43 : decode cX5_adds 43 = .ok (.iastore, 1) := by decide +kernel
theorem dX5_adds_44 : decode cX5_adds 44 = .ok (.aload_n 0, 1) := by decide +kernel
theorem dX5_adds_45 : decode cX5_adds 45 = .ok (.getfield 7, 3) := by decide +kernel
theorem dX5_adds_48 : decode cX5_adds 48 = .ok (.iload_n 1, 1) := by decide +kernel
theorem dX5_adds_49 : decode cX5_adds 49 = .ok (.iaload, 1) := by decide +kernel
theorem dX5_adds_50 : decode cX5_adds 50 = .ok (.iconst 1, 1) := by decide +kernel
theorem dX5_adds_51 : decode cX5_adds 51 = .ok (.isub, 1) := by decide +kernel
theorem dX5_adds_52 : decode cX5_adds 52 = .ok (.ireturn, 1) := by decide +kernel
theorem dX5_addSlot_0 : decode cX5_addSlot 0 = .ok (.aload_n 0, 1) := by decide +kernel
theorem dX5_addSlot_1 : decode cX5_addSlot 1 = .ok (.iload_n 1, 1) := by decide +kernel
theorem dX5_addSlot_2 : decode cX5_addSlot 2 = .ok (.invokevirtual 78, 3) := by decide +kernel
theorem dX5_addSlot_5 : decode cX5_addSlot 5 = .ok (.ifCond .eq 14, 3) := by decide +kernel
theorem dX5_addSlot_8 : decode cX5_addSlot 8 = .ok (.iload_n 2, 1) := by decide +kernel
theorem dX5_addSlot_9 : decode cX5_addSlot 9 = .ok (.invokestatic 127, 3) := by decide +kernel
theorem dX5_addSlot_12 : decode cX5_addSlot 12 = .ok (.ifCond .eq 7, 3) := by decide +kernel
theorem dX5_addSlot_15 : decode cX5_addSlot 15 = .ok (.iconst 1, 1) := by decide +kernel
theorem dX5_addSlot_16 : decode cX5_addSlot 16 = .ok (.goto 4, 3) := by decide +kernel
theorem dX5_addSlot_19 : decode cX5_addSlot 19 = .ok (.iconst 0, 1) := by decide +kernel
theorem dX5_addSlot_20 : decode cX5_addSlot 20 = .ok (.istore 4, 2) := by decide +kernel
theorem dX5_addSlot_22 : decode cX5_addSlot 22 = .ok (.aload_n 0, 1) := by decide +kernel
theorem dX5_addSlot_23 : decode cX5_addSlot 23 = .ok (.iload 4, 2) := by decide +kernel
theorem dX5_addSlot_25 : decode cX5_addSlot 25 = .ok (.iload 4, 2) := by decide +kernel
theorem dX5_addSlot_27 : decode cX5_addSlot 27 = .ok (.ifCond .eq 23, 3) := by decide +kernel
theorem dX5_addSlot_30 : decode cX5_addSlot 30 = .ok (.iload_n 3, 1) := by decide +kernel
theorem dX5_addSlot_31 : decode cX5_addSlot 31 = .ok (.ifCond .lt 19, 3) := by decide +kernel
theorem dX5_addSlot_34 : decode cX5_addSlot 34 = .ok (.iload_n 3, 1) := by decide +kernel
theorem dX5_addSlot_35 : decode cX5_addSlot 35 = .ok (.aload_n 0, 1) := by decide +kernel
theorem dX5_addSlot_36 : decode cX5_addSlot 36 = .ok (.iload_n 1, 1) := by decide +kernel
theorem dX5_addSlot_37 : decode cX5_addSlot 37 = .ok (.invokevirtual 99, 3) := by decide +kernel
theorem dX5_addSlot_40 : decode cX5_addSlot 40 = .ok (.iconst (-1), 1) := by decide +kernel
theorem dX5_addSlot_41 : decode cX5_addSlot 41 = .ok (.ixor, 1) := by decide +kernel
theorem dX5_addSlot_42 : decode cX5_addSlot 42 = .ok (.iand, 1) := by decide +kernel
theorem dX5_addSlot_43 : decode cX5_addSlot 43 = .ok (.ifCond .ne 7, 3) := by decide +kernel
theorem dX5_addSlot_46 : decode cX5_addSlot 46 = .ok (.iconst 1, 1) := by decide +kernel
theorem dX5_addSlot_47 : decode cX5_addSlot 47 = .ok (.goto 4, 3) := by decide +kernel
theorem dX5_addSlot_50 : decode cX5_addSlot 50 = .ok (.iconst 0, 1) := by decide +kernel
theorem dX5_addSlot_51 : decode cX5_addSlot 51 = .ok (.iload 4, 2) := by decide +kernel
theorem dX5_addSlot_53 : decode cX5_addSlot 53 = .ok (.ifCond .eq 27, 3) := by decide +kernel
theorem dX5_addSlot_56 : decode cX5_addSlot 56 = .ok (.aload_n 0, 1) := by decide +kernel
theorem dX5_addSlot_57 : decode cX5_addSlot 57 = .ok (.iload_n 1, 1) := by decide +kernel
theorem dX5_addSlot_58 : decode cX5_addSlot 58 = .ok (.iconst 0, 1) := by decide +kernel
theorem dX5_addSlot_59 : decode cX5_addSlot 59 = .ok (.invokevirtual 130, 3) := by decide +kernel
theorem dX5_addSlot_62 : decode cX5_addSlot 62 = .ok (.ifCond .eq 18, 3) := by decide +kernel
theorem dX5_addSlot_65 : decode cX5_addSlot 65 = .ok (.aload_n 0, 1) := by decide +kernel
theorem dX5_addSlot_66 : decode cX5_addSlot 66 = .ok (.getfield 7, 3) := by decide +kernel
theorem dX5_addSlot_69 : decode cX5_addSlot 69 = .ok (.iload_n 1, 1) := by decide +kernel
theorem dX5_addSlot_70 : decode cX5_addSlot 70 = .ok (.iaload, 1) := by decide +kernel
theorem dX5_addSlot_71 : decode cX5_addSlot 71 = .ok (.bipush 8, 2) := by decide +kernel
theorem dX5_addSlot_73 : decode cX5_addSlot 73 = .ok (.if_icmp .ge 7, 3) := by decide +kernel
theorem dX5_addSlot_76 : decode cX5_addSlot 76 = .ok (.iconst 1, 1) := by decide +kernel
theorem dX5_addSlot_77 : decode cX5_addSlot 77 = .ok (.goto 4, 3) := by decide +kernel
theorem dX5_addSlot_80 : decode cX5_addSlot 80 = .ok (.iconst 0, 1) := by decide +kernel
theorem dX5_addSlot_81 : decode cX5_addSlot 81 = .ok (.invokevirtual 123, 3) := by decide +kernel
theorem dX5_addSlot_84 : decode cX5_addSlot 84 = .ok (.ifCond .ne 5, 3) := by decide +kernel
theorem dX5_addSlot_87 : decode cX5_addSlot 87 = .ok (.iconst 0, 1) := by decide +kernel
theorem dX5_addSlot_88 : decode cX5_addSlot 88 = .ok (.ireturn, 1) := by decide +kernel
theorem dX5_addSlot_89 : decode cX5_addSlot 89 = .ok (.aload_n 0, 1) := by decide +kernel
theorem dX5_addSlot_90 : decode cX5_addSlot 90 = .ok (.iload_n 1, 1) := by decide +kernel
theorem dX5_addSlot_91 : decode cX5_addSlot 91 = .ok (.iload_n 2, 1) := by decide +kernel
theorem dX5_addSlot_92 : decode cX5_addSlot 92 = .ok (.iload_n 3, 1) := by decide +kernel
theorem dX5_addSlot_93 : decode cX5_addSlot 93 = .ok (.invokevirtual 133, 3) := by decide +kernel
theorem dX5_addSlot_96 : decode cX5_addSlot 96 = .ok (.ireturn, 1) := by decide +kernel
theorem dX5_addRound_0 : decode cX5_addRound 0 = .ok (.aload_n 0, 1) := by decide +kernel
theorem dX5_addRound_1 : decode cX5_addRound 1 = .ok (.iload_n 1, 1) := by decide +kernel
theorem dX5_addRound_2 : decode cX5_addRound 2 = .ok (.invokevirtual 78, 3) := by decide +kernel
theorem dX5_addRound_5 : decode cX5_addRound 5 = .ok (.istore_n 3, 1) := by decide +kernel
theorem dX5_addRound_6 : decode cX5_addRound 6 = .ok (.aload_n 0, 1) := by decide +kernel
theorem dX5_addRound_7 : decode cX5_addRound 7 = .ok (.iload_n 3, 1) := by decide +kernel
theorem dX5_addRound_8 : decode cX5_addRound 8 = .ok (.iload_n 2, 1) := by decide +kernel
theorem dX5_addRound_9 : decode cX5_addRound 9 = .ok (.iconst 1, 1) := by decide +kernel
theorem dX5_addRound_10 : decode cX5_addRound 10 = .ok (.sipush 255, 3) := by decide +kernel
theorem dX5_addRound_13 : decode cX5_addRound 13 = .ok (.invokestatic 71, 3) := by decide +kernel
theorem dX5_addRound_16 : decode cX5_addRound 16 = .ok (.iload_n 3, 1) := by decide +kernel
theorem dX5_addRound_17 : decode cX5_addRound 17 = .ok (.ifCond .eq 32, 3) := by decide +kernel
theorem dX5_addRound_20 : decode cX5_addRound 20 = .ok (.aload_n 0, 1) := by decide +kernel
theorem dX5_addRound_21 : decode cX5_addRound 21 = .ok (.iload_n 1, 1) := by decide +kernel
theorem dX5_addRound_22 : decode cX5_addRound 22 = .ok (.iconst 0, 1) := by decide +kernel
theorem dX5_addRound_23 : decode cX5_addRound 23 = .ok (.invokevirtual 130, 3) := by decide +kernel
theorem dX5_addRound_26 : decode cX5_addRound 26 = .ok (.ifCond .eq 23, 3) := by decide +kernel
theorem dX5_addRound_29 : decode cX5_addRound 29 = .ok (.aload_n 0, 1) := by decide +kernel
theorem dX5_addRound_30 : decode cX5_addRound 30 = .ok (.getfield 7, 3) := by decide +kernel
theorem dX5_addRound_33 : decode cX5_addRound 33 = .ok (.iload_n 1, 1) := by decide +kernel
theorem dX5_addRound_34 : decode cX5_addRound 34 = .ok (.iaload, 1) := by decide +kernel
theorem dX5_addRound_35 : decode cX5_addRound 35 = .ok (.iload_n 2, 1) := by decide +kernel
theorem dX5_addRound_36 : decode cX5_addRound 36 = .ok (.invokestatic 120, 3) := by decide +kernel
theorem dX5_addRound_39 : decode cX5_addRound 39 = .ok (.iadd, 1) := by decide +kernel
theorem dX5_addRound_40 : decode cX5_addRound 40 = .ok (.bipush 8, 2) := by decide +kernel
theorem dX5_addRound_42 : decode cX5_addRound 42 = .ok (.if_icmp .gt 7, 3) := by decide +kernel
theorem dX5_addRound_45 : decode cX5_addRound 45 = .ok (.iconst 1, 1) := by decide +kernel
theorem dX5_addRound_46 : decode cX5_addRound 46 = .ok (.goto 4, 3) := by decide +kernel
theorem dX5_addRound_49 : decode cX5_addRound 49 = .ok (.iconst 0, 1) := by decide +kernel
theorem dX5_addRound_50 : decode cX5_addRound 50 = .ok (.invokevirtual 123, 3) := by decide +kernel
theorem dX5_addRound_53 : decode cX5_addRound 53 = .ok (.ifCond .ne 5, 3) := by decide +kernel
theorem dX5_addRound_56 : decode cX5_addRound 56 = .ok (.iconst 0, 1) := by decide +kernel
theorem dX5_addRound_57 : decode cX5_addRound 57 = .ok (.ireturn, 1) := by decide +kernel
theorem dX5_addRound_58 : decode cX5_addRound 58 = .ok (.aload_n 0, 1) := by decide +kernel
theorem dX5_addRound_59 : decode cX5_addRound 59 = .ok (.iload_n 1, 1) := by decide +kernel
theorem dX5_addRound_60 : decode cX5_addRound 60 = .ok (.invokevirtual 99, 3) := by decide +kernel
theorem dX5_addRound_63 : decode cX5_addRound 63 = .ok (.istore 4, 2) := by decide +kernel
theorem dX5_addRound_65 : decode cX5_addRound 65 = .ok (.iconst 0, 1) := by decide +kernel
theorem dX5_addRound_66 : decode cX5_addRound 66 = .ok (.istore 5, 2) := by decide +kernel
theorem dX5_addRound_68 : decode cX5_addRound 68 = .ok (.iload 5, 2) := by decide +kernel
theorem dX5_addRound_70 : decode cX5_addRound 70 = .ok (.bipush 8, 2) := by decide +kernel
theorem dX5_addRound_72 : decode cX5_addRound 72 = .ok (.if_icmp .ge 29, 3) := by decide +kernel
theorem dX5_addRound_75 : decode cX5_addRound 75 = .ok (.iload_n 2, 1) := by decide +kernel
theorem dX5_addRound_76 : decode cX5_addRound 76 = .ok (.iload 5, 2) := by decide +kernel
theorem dX5_addRound_78 : decode cX5_addRound 78 = .ok (.invokestatic 85, 3) := by decide +kernel
theorem dX5_addRound_81 : decode cX5_addRound 81 = .ok (.ifCond .eq 14, 3) := by decide +kernel
theorem dX5_addRound_84 : decode cX5_addRound 84 = .ok (.aload_n 0, 1) := by decide +kernel
theorem dX5_addRound_85 : decode cX5_addRound 85 = .ok (.iload_n 1, 1) := by decide +kernel
theorem dX5_addRound_86 : decode cX5_addRound 86 = .ok (.iload 5, 2) := by decide +kernel
theorem dX5_addRound_88 : decode cX5_addRound 88 = .ok (.iload 4, 2) := by decide +kernel
theorem dX5_addRound_90 : decode cX5_addRound 90 = .ok (.invokevirtual 133, 3) := by decide +kernel
theorem dX5_addRound_93 : decode cX5_addRound 93 = .ok (.istore 6, 2) := by decide +kernel
theorem dX5_addRound_95 : decode cX5_addRound 95 = .ok (.iinc 5 1, 3) := by decide +kernel
theorem dX5_addRound_98 : decode cX5_addRound 98 = .ok (.goto (-30), 3) := by decide +kernel
theorem dX5_addRound_101 : decode cX5_addRound 101 = .ok (.aload_n 0, 1) := by decide +kernel
theorem dX5_addRound_102 : decode cX5_addRound 102 = .ok (.getfield 7, 3) := by decide +kernel
theorem dX5_addRound_105 : decode cX5_addRound 105 = .ok (.iload_n 1, 1) := by decide +kernel
theorem dX5_addRound_106 : decode cX5_addRound 106 = .ok (.iaload, 1) := by decide +kernel
theorem dX5_addRound_107 : decode cX5_addRound 107 = .ok (.ireturn, 1) := by decide +kernel
theorem dX5_setTimes_0 : decode cX5_setTimes 0 = .ok (.aload_n 0, 1) := by decide +kernel
theorem dX5_setTimes_1 : decode cX5_setTimes 1 = .ok (.iload_n 1, 1) := by decide +kernel
theorem dX5_setTimes_2 : decode cX5_setTimes 2 = .ok (.invokevirtual 78, 3) := by decide +kernel
theorem dX5_setTimes_5 : decode cX5_setTimes 5 = .ok (.istore 4, 2) := by decide +kernel
theorem dX5_setTimes_7 : decode cX5_setTimes 7 = .ok (.aload_n 0, 1) := by decide +kernel
theorem dX5_setTimes_8 : decode cX5_setTimes 8 = .ok (.iload 4, 2) := by decide +kernel
theorem dX5_setTimes_10 : decode cX5_setTimes 10 = .ok (.iload_n 2, 1) := by decide +kernel
theorem dX5_setTimes_11 : decode cX5_setTimes 11 = .ok (.iconst 0, 1) := by decide +kernel
theorem dX5_setTimes_12 : decode cX5_setTimes 12 = .ok (.bipush 30, 2) := by decide +kernel
theorem dX5_setTimes_14 : decode cX5_setTimes 14 = .ok (.invokestatic 71, 3) := by decide +kernel
theorem dX5_setTimes_17 : decode cX5_setTimes 17 = .ok (.ifCond .eq 17, 3) := by decide +kernel
theorem dX5_setTimes_20 : decode cX5_setTimes 20 = .ok (.iload_n 3, 1) := by decide +kernel
theorem dX5_setTimes_21 : decode cX5_setTimes 21 = .ok (.iconst 0, 1) := by decide +kernel
theorem dX5_setTimes_22 : decode cX5_setTimes 22 = .ok (.bipush 60, 2) := by decide +kernel
theorem dX5_setTimes_24 : decode cX5_setTimes 24 = .ok (.invokestatic 71, 3) := by decide +kernel
theorem dX5_setTimes_27 : decode cX5_setTimes 27 = .ok (.ifCond .eq 7, 3) := by decide +kernel
theorem dX5_setTimes_30 : decode cX5_setTimes 30 = .ok (.iconst 1, 1) := by decide +kernel
theorem dX5_setTimes_31 : decode cX5_setTimes 31 = .ok (.goto 4, 3) := by decide +kernel
theorem dX5_setTimes_34 : decode cX5_setTimes 34 = .ok (.iconst 0, 1) := by decide +kernel
theorem dX5_setTimes_35 : decode cX5_setTimes 35 = .ok (.iload 4, 2) := by decide +kernel
theorem dX5_setTimes_37 : decode cX5_setTimes 37 = .ok (.ifCond .eq 16, 3) := by decide +kernel
theorem dX5_setTimes_40 : decode cX5_setTimes 40 = .ok (.aload_n 0, 1) := by decide +kernel
theorem dX5_setTimes_41 : decode cX5_setTimes 41 = .ok (.iload_n 1, 1) := by decide +kernel
theorem dX5_setTimes_42 : decode cX5_setTimes 42 = .ok (.iconst 0, 1) := by decide +kernel
theorem dX5_setTimes_43 : decode cX5_setTimes 43 = .ok (.invokevirtual 130, 3) := by decide +kernel
theorem dX5_setTimes_46 : decode cX5_setTimes 46 = .ok (.ifCond .eq 7, 3) := by decide +kernel
theorem dX5_setTimes_49 : decode cX5_setTimes 49 = .ok (.iconst 1, 1) := by decide +kernel
theorem dX5_setTimes_50 : decode cX5_setTimes 50 = .ok (.goto 4, 3) := by decide +kernel
theorem dX5_setTimes_53 : decode cX5_setTimes 53 = .ok (.iconst 0, 1) := by decide +kernel
theorem dX5_setTimes_54 : decode cX5_setTimes 54 = .ok (.invokevirtual 123, 3) := by decide +kernel
theorem dX5_setTimes_57 : decode cX5_setTimes 57 = .ok (.ifCond .eq 17, 3) := by decide +kernel
theorem dX5_setTimes_60 : decode cX5_setTimes 60 = .ok (.aload_n 0, 1) := by decide +kernel
theorem dX5_setTimes_61 : decode cX5_setTimes 61 = .ok (.getfield 13, 3) := by decide +kernel
theorem dX5_setTimes_64 : decode cX5_setTimes 64 = .ok (.iload_n 1, 1) := by decide +kernel
theorem dX5_setTimes_65 : decode cX5_setTimes 65 = .ok (.iload_n 2, 1) := by decide +kernel
theorem dX5_setTimes_66 : decode cX5_setTimes 66 = .ok (.iastore, 1) := by decide +kernel
theorem dX5_setTimes_67 : decode cX5_setTimes 67 = .ok (.aload_n 0, 1) := by decide +kernel
theorem dX5_setTimes_68 : decode cX5_setTimes 68 = .ok (.getfield 16, 3) := by decide +kernel
theorem dX5_setTimes_71 : decode cX5_setTimes 71 = .ok (.iload_n 1, 1) := by decide +kernel
theorem dX5_setTimes_72 : decode cX5_setTimes 72 = .ok (.iload_n 3, 1) := by decide +kernel
theorem dX5_setTimes_73 : decode cX5_setTimes 73 = .ok (.iastore, 1) := by decide +kernel
theorem dX5_setTimes_74 : decode cX5_setTimes 74 = .ok (.return_, 1) := by decide +kernel
theorem dX5_send_0 : decode cX5_send 0 = .ok (.aload_n 0, 1) := by decide +kernel
theorem dX5_send_1 : decode cX5_send 1 = .ok (.iload_n 1, 1) := by decide +kernel
theorem dX5_send_2 : decode cX5_send 2 = .ok (.invokevirtual 78, 3) := by decide +kernel
theorem dX5_send_5 : decode cX5_send 5 = .ok (.istore_n 2, 1) := by decide +kernel
theorem dX5_send_6 : decode cX5_send 6 = .ok (.aload_n 0, 1) := by decide +kernel
theorem dX5_send_7 : decode cX5_send 7 = .ok (.iload_n 2, 1) := by decide +kernel
theorem dX5_send_8 : decode cX5_send 8 = .ok (.iload_n 2, 1) := by decide +kernel
theorem dX5_send_9 : decode cX5_send 9 = .ok (.ifCond .eq 25, 3) := by decide +kernel
theorem dX5_send_12 : decode cX5_send 12 = .ok (.aload_n 0, 1) := by decide +kernel
theorem dX5_send_13 : decode cX5_send 13 = .ok (.iload_n 1, 1) := by decide +kernel
theorem dX5_send_14 : decode cX5_send 14 = .ok (.iconst 0, 1) := by decide +kernel
theorem dX5_send_15 : decode cX5_send 15 = .ok (.invokevirtual 130, 3) := by decide +kernel
theorem dX5_send_18 : decode cX5_send 18 = .ok (.ifCond .eq 16, 3) := by decide +kernel
theorem dX5_send_21 : decode cX5_send 21 = .ok (.aload_n 0, 1) := by decide +kernel
theorem dX5_send_22 : decode cX5_send 22 = .ok (.getfield 7, 3) := by decide +kernel
theorem dX5_send_25 : decode cX5_send 25 = .ok (.iload_n 1, 1) := by decide +kernel
theorem dX5_send_26 : decode cX5_send 26 = .ok (.iaload, 1) := by decide +kernel
theorem dX5_send_27 : decode cX5_send 27 = .ok (.ifCond .le 7, 3) := by decide +kernel
theorem dX5_send_30 : decode cX5_send 30 = .ok (.iconst 1, 1) := by decide +kernel
theorem dX5_send_31 : decode cX5_send 31 = .ok (.goto 4, 3) := by decide +kernel
theorem dX5_send_34 : decode cX5_send 34 = .ok (.iconst 0, 1) := by decide +kernel
theorem dX5_send_35 : decode cX5_send 35 = .ok (.iconst 1, 1) := by decide +kernel
theorem dX5_send_36 : decode cX5_send 36 = .ok (.invokevirtual 123, 3) := by decide +kernel
theorem dX5_send_39 : decode cX5_send 39 = .ok (.ifCond .ne 5, 3) := by decide +kernel
theorem dX5_send_42 : decode cX5_send 42 = .ok (.iconst 0, 1) := by decide +kernel
theorem dX5_send_43 : decode cX5_send 43 = .ok (.ireturn, 1) := by decide +kernel
theorem dX5_send_44 : decode cX5_send 44 = .ok (.aload_n 0, 1) := by decide +kernel
theorem dX5_send_45 : decode cX5_send 45 = .ok (.iload_n 1, 1) := by decide +kernel
theorem dX5_send_46 : decode cX5_send 46 = .ok (.iconst 0, 1) := by decide +kernel
theorem dX5_send_47 : decode cX5_send 47 = .ok (.iconst (-1), 1) := by decide +kernel
theorem dX5_send_48 : decode cX5_send 48 = .ok (.iconst (-1), 1) := by decide +kernel
theorem dX5_send_49 : decode cX5_send 49 = .ok (.invokevirtual 116, 3) := by decide +kernel
theorem dX5_send_52 : decode cX5_send 52 = .ok (.aload_n 0, 1) := by decide +kernel
theorem dX5_send_53 : decode cX5_send 53 = .ok (.iload_n 1, 1) := by decide +kernel
theorem dX5_send_54 : decode cX5_send 54 = .ok (.invokevirtual 109, 3) := by decide +kernel
theorem dX5_send_57 : decode cX5_send 57 = .ok (.aload_n 0, 1) := by decide +kernel
theorem dX5_send_58 : decode cX5_send 58 = .ok (.invokevirtual 137, 3) := by decide +kernel
theorem dX5_send_61 : decode cX5_send 61 = .ok (.invokestatic 120, 3) := by decide +kernel
theorem dX5_send_64 : decode cX5_send 64 = .ok (.ireturn, 1) := by decide +kernel
theorem dX5_delegated_0 : decode cX5_delegated 0 = .ok (.aload_n 0, 1) := by decide +kernel
theorem dX5_delegated_1 : decode cX5_delegated 1 = .ok (.getfield 40, 3) := by decide +kernel
theorem dX5_delegated_4 : decode cX5_delegated 4 = .ok (.iload_n 1, 1) := by decide +kernel
theorem dX5_delegated_5 : decode cX5_delegated 5 = .ok (.iaload, 1) := by decide +kernel
theorem dX5_delegated_6 : decode cX5_delegated 6 = .ok (.iconst (-1), 1) := by decide +kernel
theorem dX5_delegated_7 : decode cX5_delegated 7 = .ok (.if_icmp .eq 34, 3) := by decide +kernel
theorem dX5_delegated_10 : decode cX5_delegated 10 = .ok (.aload_n 0, 1) := by decide +kernel
theorem dX5_delegated_11 : decode cX5_delegated 11 = .ok (.getfield 113, 3) := by decide +kernel
theorem dX5_delegated_14 : decode cX5_delegated 14 = .ok (.aload_n 0, 1) := by decide +kernel
theorem dX5_delegated_15 : decode cX5_delegated 15 = .ok (.getfield 43, 3) := by decide +kernel
theorem dX5_delegated_18 : decode cX5_delegated 18 = .ok (.iload_n 1, 1) := by decide +kernel
theorem dX5_delegated_19 : decode cX5_delegated 19 = .ok (.iaload, 1) := by decide +kernel
theorem dX5_delegated_20 : decode cX5_delegated 20 = .ok (.aload_n 0, 1) := by decide +kernel
theorem dX5_delegated_21 : decode cX5_delegated 21 = .ok (.getfield 46, 3) := by decide +kernel
theorem dX5_delegated_24 : decode cX5_delegated 24 = .ok (.iload_n 1, 1) := by decide +kernel
theorem dX5_delegated_25 : decode cX5_delegated 25 = .ok (.iaload, 1) := by decide +kernel
theorem dX5_delegated_26 : decode cX5_delegated 26 = .ok (.invokestatic 71, 3) := by decide +kernel
theorem dX5_delegated_29 : decode cX5_delegated 29 = .ok (.ifCond .eq 12, 3) := by decide +kernel
theorem dX5_delegated_32 : decode cX5_delegated 32 = .ok (.aload_n 0, 1) := by decide +kernel
theorem dX5_delegated_33 : decode cX5_delegated 33 = .ok (.getfield 40, 3) := by decide +kernel
theorem dX5_delegated_36 : decode cX5_delegated 36 = .ok (.iload_n 1, 1) := by decide +kernel
theorem dX5_delegated_37 : decode cX5_delegated 37 = .ok (.iaload, 1) := by decide +kernel
theorem dX5_delegated_38 : decode cX5_delegated 38 = .ok (.goto 4, 3) := by decide +kernel
theorem dX5_delegated_41 : decode cX5_delegated 41 = .ok (.iconst (-1), 1) := by decide +kernel
theorem dX5_delegated_42 : decode cX5_delegated 42 = .ok (.ireturn, 1) := by decide +kernel
theorem dX5_signedToday_0 : decode cX5_signedToday 0 = .ok (.aload_n 0, 1) := by decide +kernel
theorem dX5_signedToday_1 : decode cX5_signedToday 1 = .ok (.getfield 55, 3) := by decide +kernel
theorem dX5_signedToday_4 : decode cX5_signedToday 4 = .ok (.iload_n 1, 1) := by decide +kernel
theorem dX5_signedToday_5 : decode cX5_signedToday 5 = .ok (.iaload, 1) := by decide +kernel
theorem dX5_signedToday_6 : decode cX5_signedToday 6 = .ok (.aload_n 0, 1) := by decide +kernel
theorem dX5_signedToday_7 : decode cX5_signedToday 7 = .ok (.getfield 113, 3) := by decide +kernel
theorem dX5_signedToday_10 : decode cX5_signedToday 10 = .ok (.if_icmp .ne 12, 3) := by decide +kernel
theorem dX5_signedToday_13 : decode cX5_signedToday 13 = .ok (.aload_n 0, 1) := by decide +kernel
theorem dX5_signedToday_14 : decode cX5_signedToday 14 = .ok (.getfield 52, 3) := by decide +kernel
theorem dX5_signedToday_17 : decode cX5_signedToday 17 = .ok (.iload_n 1, 1) := by decide +kernel
theorem dX5_signedToday_18 : decode cX5_signedToday 18 = .ok (.iaload, 1) := by decide +kernel
theorem dX5_signedToday_19 : decode cX5_signedToday 19 = .ok (.goto 4, 3) := by decide +kernel
theorem dX5_signedToday_22 : decode cX5_signedToday 22 = .ok (.iconst 0, 1) := by decide +kernel
theorem dX5_signedToday_23 : decode cX5_signedToday 23 = .ok (.ireturn, 1) := by decide +kernel
theorem dX5_why_0 : decode cX5_why 0 = .ok (.aload_n 0, 1) := by decide +kernel
theorem dX5_why_1 : decode cX5_why 1 = .ok (.iload_n 2, 1) := by decide +kernel
theorem dX5_why_2 : decode cX5_why 2 = .ok (.invokevirtual 109, 3) := by decide +kernel
theorem dX5_why_5 : decode cX5_why 5 = .ok (.aload_n 0, 1) := by decide +kernel
theorem dX5_why_6 : decode cX5_why 6 = .ok (.getfield 22, 3) := by decide +kernel
theorem dX5_why_9 : decode cX5_why 9 = .ok (.bipush 8, 2) := by decide +kernel
theorem dX5_why_11 : decode cX5_why 11 = .ok (.iload_n 2, 1) := by decide +kernel
theorem dX5_why_12 : decode cX5_why 12 = .ok (.imul, 1) := by decide +kernel
theorem dX5_why_13 : decode cX5_why 13 = .ok (.iload_n 3, 1) := by decide +kernel
theorem dX5_why_14 : decode cX5_why 14 = .ok (.iadd, 1) := by decide +kernel
theorem dX5_why_15 : decode cX5_why 15 = .ok (.iaload, 1) := by decide +kernel
theorem dX5_why_16 : decode cX5_why 16 = .ok (.istore 4, 2) := by decide +kernel
theorem dX5_why_18 : decode cX5_why 18 = .ok (.aload_n 0, 1) := by decide +kernel
theorem dX5_why_19 : decode cX5_why 19 = .ok (.getfield 92, 3) := by decide +kernel
theorem dX5_why_22 : decode cX5_why 22 = .ok (.iconst 1, 1) := by decide +kernel
theorem dX5_why_23 : decode cX5_why 23 = .ok (.if_icmp .ne 14, 3) := by decide +kernel
theorem dX5_why_26 : decode cX5_why 26 = .ok (.aload_n 0, 1) := by decide +kernel
theorem dX5_why_27 : decode cX5_why 27 = .ok (.invokevirtual 137, 3) := by decide +kernel
theorem dX5_why_30 : decode cX5_why 30 = .ok (.iload_n 3, 1) := by decide +kernel
theorem dX5_why_31 : decode cX5_why 31 = .ok (.invokestatic 85, 3) := by decide +kernel
theorem dX5_why_34 : decode cX5_why 34 = .ok (.ifCond .ne 17, 3) := by decide +kernel
theorem dX5_why_37 : decode cX5_why 37 = .ok (.aload_n 0, 1) := by decide +kernel
theorem dX5_why_38 : decode cX5_why 38 = .ok (.getfield 92, 3) := by decide +kernel
theorem dX5_why_41 : decode cX5_why 41 = .ok (.iconst 1, 1) := by decide +kernel
theorem dX5_why_42 : decode cX5_why 42 = .ok (.if_icmp .eq 7, 3) := by decide +kernel
theorem dX5_why_45 : decode cX5_why 45 = .ok (.iconst 2, 1) := by decide +kernel
theorem dX5_why_46 : decode cX5_why 46 = .ok (.goto 4, 3) := by decide +kernel
theorem dX5_why_49 : decode cX5_why 49 = .ok (.iconst 3, 1) := by decide +kernel
theorem dX5_why_50 : decode cX5_why 50 = .ok (.ireturn, 1) := by decide +kernel
theorem dX5_why_51 : decode cX5_why 51 = .ok (.iload_n 1, 1) := by decide +kernel
theorem dX5_why_52 : decode cX5_why 52 = .ok (.iload 4, 2) := by decide +kernel
theorem dX5_why_54 : decode cX5_why 54 = .ok (.if_icmp .ne 5, 3) := by decide +kernel
theorem dX5_why_57 : decode cX5_why 57 = .ok (.iconst 0, 1) := by decide +kernel
theorem dX5_why_58 : decode cX5_why 58 = .ok (.ireturn, 1) := by decide +kernel
theorem dX5_why_59 : decode cX5_why 59 = .ok (.aload_n 0, 1) := by decide +kernel
theorem dX5_why_60 : decode cX5_why 60 = .ok (.iload 4, 2) := by decide +kernel
theorem dX5_why_62 : decode cX5_why 62 = .ok (.invokevirtual 141, 3) := by decide +kernel
theorem dX5_why_65 : decode cX5_why 65 = .ok (.iload_n 1, 1) := by decide +kernel
theorem dX5_why_66 : decode cX5_why 66 = .ok (.if_icmp .eq 7, 3) := by decide +kernel
theorem dX5_why_69 : decode cX5_why 69 = .ok (.iconst 4, 1) := by decide +kernel
theorem dX5_why_70 : decode cX5_why 70 = .ok (.goto 24, 3) := by decide +kernel
theorem dX5_why_73 : decode cX5_why 73 = .ok (.aload_n 0, 1) := by decide +kernel
theorem dX5_why_74 : decode cX5_why 74 = .ok (.iload 4, 2) := by decide +kernel
theorem dX5_why_76 : decode cX5_why 76 = .ok (.invokevirtual 144, 3) := by decide +kernel
theorem dX5_why_79 : decode cX5_why 79 = .ok (.aload_n 0, 1) := by decide +kernel
theorem dX5_why_80 : decode cX5_why 80 = .ok (.getfield 49, 3) := by decide +kernel
theorem dX5_why_83 : decode cX5_why 83 = .ok (.iload 4, 2) := by decide +kernel
theorem dX5_why_85 : decode cX5_why 85 = .ok (.iaload, 1) := by decide +kernel
theorem dX5_why_86 : decode cX5_why 86 = .ok (.if_icmp .lt 7, 3) := by decide +kernel
theorem dX5_why_89 : decode cX5_why 89 = .ok (.iconst 5, 1) := by decide +kernel
theorem dX5_why_90 : decode cX5_why 90 = .ok (.goto 4, 3) := by decide +kernel
theorem dX5_why_93 : decode cX5_why 93 = .ok (.iconst 1, 1) := by decide +kernel
theorem dX5_why_94 : decode cX5_why 94 = .ok (.ireturn, 1) := by decide +kernel
theorem dX5_sign_0 : decode cX5_sign 0 = .ok (.iload_n 1, 1) := by decide +kernel
theorem dX5_sign_1 : decode cX5_sign 1 = .ok (.invokestatic 127, 3) := by decide +kernel
theorem dX5_sign_4 : decode cX5_sign 4 = .ok (.ifCond .eq 16, 3) := by decide +kernel
theorem dX5_sign_7 : decode cX5_sign 7 = .ok (.aload_n 0, 1) := by decide +kernel
theorem dX5_sign_8 : decode cX5_sign 8 = .ok (.iload_n 2, 1) := by decide +kernel
theorem dX5_sign_9 : decode cX5_sign 9 = .ok (.iload_n 3, 1) := by decide +kernel
theorem dX5_sign_10 : decode cX5_sign 10 = .ok (.invokevirtual 147, 3) := by decide +kernel
theorem dX5_sign_13 : decode cX5_sign 13 = .ok (.ifCond .eq 7, 3) := by decide +kernel
theorem dX5_sign_16 : decode cX5_sign 16 = .ok (.iconst 1, 1) := by decide +kernel
theorem dX5_sign_17 : decode cX5_sign 17 = .ok (.goto 4, 3) := by decide +kernel
theorem dX5_sign_20 : decode cX5_sign 20 = .ok (.iconst 0, 1) := by decide +kernel
theorem dX5_sign_21 : decode cX5_sign 21 = .ok (.istore 4, 2) := by decide +kernel
theorem dX5_sign_23 : decode cX5_sign 23 = .ok (.aload_n 0, 1) := by decide +kernel
theorem dX5_sign_24 : decode cX5_sign 24 = .ok (.iload 4, 2) := by decide +kernel
theorem dX5_sign_26 : decode cX5_sign 26 = .ok (.iload 4, 2) := by decide +kernel
theorem dX5_sign_28 : decode cX5_sign 28 = .ok (.ifCond .eq 18, 3) := by decide +kernel
theorem dX5_sign_31 : decode cX5_sign 31 = .ok (.aload_n 0, 1) := by decide +kernel
theorem dX5_sign_32 : decode cX5_sign 32 = .ok (.iload_n 1, 1) := by decide +kernel
theorem dX5_sign_33 : decode cX5_sign 33 = .ok (.iload_n 2, 1) := by decide +kernel
theorem dX5_sign_34 : decode cX5_sign 34 = .ok (.iload_n 3, 1) := by decide +kernel
theorem dX5_sign_35 : decode cX5_sign 35 = .ok (.invokevirtual 150, 3) := by decide +kernel
theorem dX5_sign_38 : decode cX5_sign 38 = .ok (.iconst 2, 1) := by decide +kernel
theorem dX5_sign_39 : decode cX5_sign 39 = .ok (.if_icmp .ge 7, 3) := by decide +kernel
theorem dX5_sign_42 : decode cX5_sign 42 = .ok (.iconst 1, 1) := by decide +kernel
theorem dX5_sign_43 : decode cX5_sign 43 = .ok (.goto 4, 3) := by decide +kernel
theorem dX5_sign_46 : decode cX5_sign 46 = .ok (.iconst 0, 1) := by decide +kernel
theorem dX5_sign_47 : decode cX5_sign 47 = .ok (.iconst 1, 1) := by decide +kernel
theorem dX5_sign_48 : decode cX5_sign 48 = .ok (.invokevirtual 123, 3) := by decide +kernel
theorem dX5_sign_51 : decode cX5_sign 51 = .ok (.ifCond .ne 5, 3) := by decide +kernel
theorem dX5_sign_54 : decode cX5_sign 54 = .ok (.iconst 0, 1) := by decide +kernel
theorem dX5_sign_55 : decode cX5_sign 55 = .ok (.ireturn, 1) := by decide +kernel
theorem dX5_sign_56 : decode cX5_sign 56 = .ok (.aload_n 0, 1) := by decide +kernel
theorem dX5_sign_57 : decode cX5_sign 57 = .ok (.getfield 22, 3) := by decide +kernel
theorem dX5_sign_60 : decode cX5_sign 60 = .ok (.bipush 8, 2) := by decide +kernel
theorem dX5_sign_62 : decode cX5_sign 62 = .ok (.iload_n 2, 1) := by decide +kernel
theorem dX5_sign_63 : decode cX5_sign 63 = .ok (.imul, 1) := by decide +kernel
theorem dX5_sign_64 : decode cX5_sign 64 = .ok (.iload_n 3, 1) := by decide +kernel
theorem dX5_sign_65 : decode cX5_sign 65 = .ok (.iadd, 1) := by decide +kernel
theorem dX5_sign_66 : decode cX5_sign 66 = .ok (.iaload, 1) := by decide +kernel
theorem dX5_sign_67 : decode cX5_sign 67 = .ok (.istore 5, 2) := by decide +kernel
theorem dX5_sign_69 : decode cX5_sign 69 = .ok (.aload_n 0, 1) := by decide +kernel
theorem dX5_sign_70 : decode cX5_sign 70 = .ok (.invokevirtual 137, 3) := by decide +kernel
theorem dX5_sign_73 : decode cX5_sign 73 = .ok (.istore 6, 2) := by decide +kernel
theorem dX5_sign_75 : decode cX5_sign 75 = .ok (.iload_n 1, 1) := by decide +kernel
theorem dX5_sign_76 : decode cX5_sign 76 = .ok (.iload 5, 2) := by decide +kernel
theorem dX5_sign_78 : decode cX5_sign 78 = .ok (.if_icmp .eq 29, 3) := by decide +kernel
theorem dX5_sign_81 : decode cX5_sign 81 = .ok (.aload_n 0, 1) := by decide +kernel
theorem dX5_sign_82 : decode cX5_sign 82 = .ok (.getfield 52, 3) := by decide +kernel
theorem dX5_sign_85 : decode cX5_sign 85 = .ok (.iload 5, 2) := by decide +kernel
theorem dX5_sign_87 : decode cX5_sign 87 = .ok (.aload_n 0, 1) := by decide +kernel
theorem dX5_sign_88 : decode cX5_sign 88 = .ok (.iload 5, 2) := by decide +kernel
theorem dX5_sign_90 : decode cX5_sign 90 = .ok (.invokevirtual 144, 3) := by decide +kernel
theorem dX5_sign_93 : decode cX5_sign 93 = .ok (.iconst 1, 1) := by decide +kernel
theorem dX5_sign_94 : decode cX5_sign 94 = .ok (.iadd, 1) := by decide +kernel
theorem dX5_sign_95 : decode cX5_sign 95 = .ok (.iastore, 1) := by decide +kernel
theorem dX5_sign_96 : decode cX5_sign 96 = .ok (.aload_n 0, 1) := by decide +kernel
theorem dX5_sign_97 : decode cX5_sign 97 = .ok (.getfield 55, 3) := by decide +kernel
theorem dX5_sign_100 : decode cX5_sign 100 = .ok (.iload 5, 2) := by decide +kernel
theorem dX5_sign_102 : decode cX5_sign 102 = .ok (.aload_n 0, 1) := by decide +kernel
theorem dX5_sign_103 : decode cX5_sign 103 = .ok (.getfield 113, 3) := by decide +kernel
theorem dX5_sign_106 : decode cX5_sign 106 = .ok (.iastore, 1) := by decide +kernel
theorem dX5_sign_107 : decode cX5_sign 107 = .ok (.aload_n 0, 1) := by decide +kernel
theorem dX5_sign_108 : decode cX5_sign 108 = .ok (.iload_n 2, 1) := by decide +kernel
theorem dX5_sign_109 : decode cX5_sign 109 = .ok (.iload_n 1, 1) := by decide +kernel
theorem dX5_sign_110 : decode cX5_sign 110 = .ok (.iload 5, 2) := by decide +kernel
theorem dX5_sign_112 : decode cX5_sign 112 = .ok (.if_icmp .ne 7, 3) := by decide +kernel
theorem dX5_sign_115 : decode cX5_sign 115 = .ok (.iconst 1, 1) := by decide +kernel
theorem dX5_sign_116 : decode cX5_sign 116 = .ok (.goto 4, 3) := by decide +kernel
theorem dX5_sign_119 : decode cX5_sign 119 = .ok (.iconst 2, 1) := by decide +kernel
theorem dX5_sign_120 : decode cX5_sign 120 = .ok (.iload_n 1, 1) := by decide +kernel
theorem dX5_sign_121 : decode cX5_sign 121 = .ok (.iload_n 3, 1) := by decide +kernel
theorem dX5_sign_122 : decode cX5_sign 122 = .ok (.invokevirtual 116, 3) := by decide +kernel
theorem dX5_sign_125 : decode cX5_sign 125 = .ok (.aload_n 0, 1) := by decide +kernel
theorem dX5_sign_126 : decode cX5_sign 126 = .ok (.iload_n 2, 1) := by decide +kernel
theorem dX5_sign_127 : decode cX5_sign 127 = .ok (.invokevirtual 109, 3) := by decide +kernel
theorem dX5_sign_130 : decode cX5_sign 130 = .ok (.aload_n 0, 1) := by decide +kernel
theorem dX5_sign_131 : decode cX5_sign 131 = .ok (.invokevirtual 137, 3) := by decide +kernel
theorem dX5_sign_134 : decode cX5_sign 134 = .ok (.iload 6, 2) := by decide +kernel
theorem dX5_sign_136 : decode cX5_sign 136 = .ok (.iconst (-1), 1) := by decide +kernel
theorem dX5_sign_137 : decode cX5_sign 137 = .ok (.ixor, 1) := by decide +kernel
theorem dX5_sign_138 : decode cX5_sign 138 = .ok (.iand, 1) := by decide +kernel
theorem dX5_sign_139 : decode cX5_sign 139 = .ok (.invokestatic 120, 3) := by decide +kernel
theorem dX5_sign_142 : decode cX5_sign 142 = .ok (.ireturn, 1) := by decide +kernel
theorem dX5_whyNot_0 : decode cX5_whyNot 0 = .ok (.aload_n 0, 1) := by decide +kernel
theorem dX5_whyNot_1 : decode cX5_whyNot 1 = .ok (.iload_n 1, 1) := by decide +kernel
theorem dX5_whyNot_2 : decode cX5_whyNot 2 = .ok (.invokestatic 127, 3) := by decide +kernel
theorem dX5_whyNot_5 : decode cX5_whyNot 5 = .ok (.ifCond .eq 16, 3) := by decide +kernel
theorem dX5_whyNot_8 : decode cX5_whyNot 8 = .ok (.aload_n 0, 1) := by decide +kernel
theorem dX5_whyNot_9 : decode cX5_whyNot 9 = .ok (.iload_n 2, 1) := by decide +kernel
theorem dX5_whyNot_10 : decode cX5_whyNot 10 = .ok (.iload_n 3, 1) := by decide +kernel
theorem dX5_whyNot_11 : decode cX5_whyNot 11 = .ok (.invokevirtual 147, 3) := by decide +kernel
theorem dX5_whyNot_14 : decode cX5_whyNot 14 = .ok (.ifCond .eq 7, 3) := by decide +kernel
theorem dX5_whyNot_17 : decode cX5_whyNot 17 = .ok (.iconst 1, 1) := by decide +kernel
theorem dX5_whyNot_18 : decode cX5_whyNot 18 = .ok (.goto 4, 3) := by decide +kernel
theorem dX5_whyNot_21 : decode cX5_whyNot 21 = .ok (.iconst 0, 1) := by decide +kernel
theorem dX5_whyNot_22 : decode cX5_whyNot 22 = .ok (.iconst 1, 1) := by decide +kernel
theorem dX5_whyNot_23 : decode cX5_whyNot 23 = .ok (.iconst 1, 1) := by decide +kernel
theorem dX5_whyNot_24 : decode cX5_whyNot 24 = .ok (.invokevirtual 123, 3) := by decide +kernel
theorem dX5_whyNot_27 : decode cX5_whyNot 27 = .ok (.ifCond .eq 13, 3) := by decide +kernel
theorem dX5_whyNot_30 : decode cX5_whyNot 30 = .ok (.aload_n 0, 1) := by decide +kernel
theorem dX5_whyNot_31 : decode cX5_whyNot 31 = .ok (.iload_n 1, 1) := by decide +kernel
theorem dX5_whyNot_32 : decode cX5_whyNot 32 = .ok (.iload_n 2, 1) := by decide +kernel
theorem dX5_whyNot_33 : decode cX5_whyNot 33 = .ok (.iload_n 3, 1) := by decide +kernel
theorem dX5_whyNot_34 : decode cX5_whyNot 34 = .ok (.invokevirtual 150, 3) := by decide +kernel
theorem dX5_whyNot_37 : decode cX5_whyNot 37 = .ok (.goto 4, 3) := by decide +kernel
theorem dX5_whyNot_40 : decode cX5_whyNot 40 = .ok (.iconst 0, 1) := by decide +kernel
theorem dX5_whyNot_41 : decode cX5_whyNot 41 = .ok (.ireturn, 1) := by decide +kernel
theorem dX5_decline_0 : decode cX5_decline 0 = .ok (.iload_n 1, 1) := by decide +kernel
theorem dX5_decline_1 : decode cX5_decline 1 = .ok (.invokestatic 127, 3) := by decide +kernel
theorem dX5_decline_4 : decode cX5_decline 4 = .ok (.ifCond .eq 16, 3) := by decide +kernel
theorem dX5_decline_7 : decode cX5_decline 7 = .ok (.aload_n 0, 1) := by decide +kernel
theorem dX5_decline_8 : decode cX5_decline 8 = .ok (.iload_n 2, 1) := by decide +kernel
theorem dX5_decline_9 : decode cX5_decline 9 = .ok (.iload_n 3, 1) := by decide +kernel
theorem dX5_decline_10 : decode cX5_decline 10 = .ok (.invokevirtual 147, 3) := by decide +kernel
theorem dX5_decline_13 : decode cX5_decline 13 = .ok (.ifCond .eq 7, 3) := by decide +kernel
theorem dX5_decline_16 : decode cX5_decline 16 = .ok (.iconst 1, 1) := by decide +kernel
theorem dX5_decline_17 : decode cX5_decline 17 = .ok (.goto 4, 3) := by decide +kernel
theorem dX5_decline_20 : decode cX5_decline 20 = .ok (.iconst 0, 1) := by decide +kernel
theorem dX5_decline_21 : decode cX5_decline 21 = .ok (.istore 4, 2) := by decide +kernel
theorem dX5_decline_23 : decode cX5_decline 23 = .ok (.aload_n 0, 1) := by decide +kernel
theorem dX5_decline_24 : decode cX5_decline 24 = .ok (.iload 4, 2) := by decide +kernel
theorem dX5_decline_26 : decode cX5_decline 26 = .ok (.iload 4, 2) := by decide +kernel
theorem dX5_decline_28 : decode cX5_decline 28 = .ok (.ifCond .eq 17, 3) := by decide +kernel
theorem dX5_decline_31 : decode cX5_decline 31 = .ok (.aload_n 0, 1) := by decide +kernel
theorem dX5_decline_32 : decode cX5_decline 32 = .ok (.iload_n 1, 1) := by decide +kernel
theorem dX5_decline_33 : decode cX5_decline 33 = .ok (.iload_n 2, 1) := by decide +kernel
theorem dX5_decline_34 : decode cX5_decline 34 = .ok (.iload_n 3, 1) := by decide +kernel
theorem dX5_decline_35 : decode cX5_decline 35 = .ok (.invokevirtual 150, 3) := by decide +kernel
theorem dX5_decline_38 : decode cX5_decline 38 = .ok (.ifCond .ne 7, 3) := by decide +kernel
theorem dX5_decline_41 : decode cX5_decline 41 = .ok (.iconst 1, 1) := by decide +kernel
theorem dX5_decline_42 : decode cX5_decline 42 = .ok (.goto 4, 3) := by decide +kernel
theorem dX5_decline_45 : decode cX5_decline 45 = .ok (.iconst 0, 1) := by decide +kernel
theorem dX5_decline_46 : decode cX5_decline 46 = .ok (.iconst 1, 1) := by decide +kernel
theorem dX5_decline_47 : decode cX5_decline 47 = .ok (.invokevirtual 123, 3) := by decide +kernel
theorem dX5_decline_50 : decode cX5_decline 50 = .ok (.ifCond .ne 5, 3) := by decide +kernel
theorem dX5_decline_53 : decode cX5_decline 53 = .ok (.iconst 0, 1) := by decide +kernel
theorem dX5_decline_54 : decode cX5_decline 54 = .ok (.ireturn, 1) := by decide +kernel
theorem dX5_decline_55 : decode cX5_decline 55 = .ok (.aload_n 0, 1) := by decide +kernel
theorem dX5_decline_56 : decode cX5_decline 56 = .ok (.iload_n 2, 1) := by decide +kernel
theorem dX5_decline_57 : decode cX5_decline 57 = .ok (.iconst 3, 1) := by decide +kernel
theorem dX5_decline_58 : decode cX5_decline 58 = .ok (.iload_n 1, 1) := by decide +kernel
theorem dX5_decline_59 : decode cX5_decline 59 = .ok (.iload_n 3, 1) := by decide +kernel
theorem dX5_decline_60 : decode cX5_decline 60 = .ok (.invokevirtual 153, 3) := by decide +kernel
theorem dX5_decline_63 : decode cX5_decline 63 = .ok (.ireturn, 1) := by decide +kernel
theorem dX5_cancel_0 : decode cX5_cancel 0 = .ok (.aload_n 0, 1) := by decide +kernel
theorem dX5_cancel_1 : decode cX5_cancel 1 = .ok (.iload_n 1, 1) := by decide +kernel
theorem dX5_cancel_2 : decode cX5_cancel 2 = .ok (.invokevirtual 78, 3) := by decide +kernel
theorem dX5_cancel_5 : decode cX5_cancel 5 = .ok (.istore_n 2, 1) := by decide +kernel
theorem dX5_cancel_6 : decode cX5_cancel 6 = .ok (.aload_n 0, 1) := by decide +kernel
theorem dX5_cancel_7 : decode cX5_cancel 7 = .ok (.iload_n 2, 1) := by decide +kernel
theorem dX5_cancel_8 : decode cX5_cancel 8 = .ok (.iload_n 2, 1) := by decide +kernel
theorem dX5_cancel_9 : decode cX5_cancel 9 = .ok (.ifCond .eq 16, 3) := by decide +kernel
theorem dX5_cancel_12 : decode cX5_cancel 12 = .ok (.aload_n 0, 1) := by decide +kernel
theorem dX5_cancel_13 : decode cX5_cancel 13 = .ok (.iload_n 1, 1) := by decide +kernel
theorem dX5_cancel_14 : decode cX5_cancel 14 = .ok (.iconst 1, 1) := by decide +kernel
theorem dX5_cancel_15 : decode cX5_cancel 15 = .ok (.invokevirtual 130, 3) := by decide +kernel
theorem dX5_cancel_18 : decode cX5_cancel 18 = .ok (.ifCond .eq 7, 3) := by decide +kernel
theorem dX5_cancel_21 : decode cX5_cancel 21 = .ok (.iconst 1, 1) := by decide +kernel
theorem dX5_cancel_22 : decode cX5_cancel 22 = .ok (.goto 4, 3) := by decide +kernel
theorem dX5_cancel_25 : decode cX5_cancel 25 = .ok (.iconst 0, 1) := by decide +kernel
theorem dX5_cancel_26 : decode cX5_cancel 26 = .ok (.iconst 1, 1) := by decide +kernel
theorem dX5_cancel_27 : decode cX5_cancel 27 = .ok (.invokevirtual 123, 3) := by decide +kernel
theorem dX5_cancel_30 : decode cX5_cancel 30 = .ok (.ifCond .eq 14, 3) := by decide +kernel
theorem dX5_cancel_33 : decode cX5_cancel 33 = .ok (.aload_n 0, 1) := by decide +kernel
theorem dX5_cancel_34 : decode cX5_cancel 34 = .ok (.iload_n 1, 1) := by decide +kernel
theorem dX5_cancel_35 : decode cX5_cancel 35 = .ok (.iconst 4, 1) := by decide +kernel
theorem dX5_cancel_36 : decode cX5_cancel 36 = .ok (.iconst (-1), 1) := by decide +kernel
theorem dX5_cancel_37 : decode cX5_cancel 37 = .ok (.iconst (-1), 1) := by decide +kernel
theorem dX5_cancel_38 : decode cX5_cancel 38 = .ok (.invokevirtual 153, 3) := by decide +kernel
theorem dX5_cancel_41 : decode cX5_cancel 41 = .ok (.goto 4, 3) := by decide +kernel
theorem dX5_cancel_44 : decode cX5_cancel 44 = .ok (.iconst 0, 1) := by decide +kernel
theorem dX5_cancel_45 : decode cX5_cancel 45 = .ok (.ireturn, 1) := by decide +kernel
theorem dX5_delegate_0 : decode cX5_delegate 0 = .ok (.aload_n 0, 1) := by decide +kernel
theorem dX5_delegate_1 : decode cX5_delegate 1 = .ok (.iload_n 1, 1) := by decide +kernel
theorem dX5_delegate_2 : decode cX5_delegate 2 = .ok (.invokestatic 127, 3) := by decide +kernel
theorem dX5_delegate_5 : decode cX5_delegate 5 = .ok (.ifCond .eq 14, 3) := by decide +kernel
theorem dX5_delegate_8 : decode cX5_delegate 8 = .ok (.iload_n 2, 1) := by decide +kernel
theorem dX5_delegate_9 : decode cX5_delegate 9 = .ok (.invokestatic 127, 3) := by decide +kernel
theorem dX5_delegate_12 : decode cX5_delegate 12 = .ok (.ifCond .eq 7, 3) := by decide +kernel
theorem dX5_delegate_15 : decode cX5_delegate 15 = .ok (.iconst 1, 1) := by decide +kernel
theorem dX5_delegate_16 : decode cX5_delegate 16 = .ok (.goto 4, 3) := by decide +kernel
theorem dX5_delegate_19 : decode cX5_delegate 19 = .ok (.iconst 0, 1) := by decide +kernel
theorem dX5_delegate_20 : decode cX5_delegate 20 = .ok (.iload_n 1, 1) := by decide +kernel
theorem dX5_delegate_21 : decode cX5_delegate 21 = .ok (.iload_n 2, 1) := by decide +kernel
theorem dX5_delegate_22 : decode cX5_delegate 22 = .ok (.if_icmp .eq 32, 3) := by decide +kernel
theorem dX5_delegate_25 : decode cX5_delegate 25 = .ok (.iload_n 3, 1) := by decide +kernel
theorem dX5_delegate_26 : decode cX5_delegate 26 = .ok (.aload_n 0, 1) := by decide +kernel
theorem dX5_delegate_27 : decode cX5_delegate 27 = .ok (.getfield 113, 3) := by decide +kernel
theorem dX5_delegate_30 : decode cX5_delegate 30 = .ok (.if_icmp .lt 24, 3) := by decide +kernel
theorem dX5_delegate_33 : decode cX5_delegate 33 = .ok (.iload 4, 2) := by decide +kernel
theorem dX5_delegate_35 : decode cX5_delegate 35 = .ok (.iload_n 3, 1) := by decide +kernel
theorem dX5_delegate_36 : decode cX5_delegate 36 = .ok (.if_icmp .lt 18, 3) := by decide +kernel
theorem dX5_delegate_39 : decode cX5_delegate 39 = .ok (.iload 5, 2) := by decide +kernel
theorem dX5_delegate_41 : decode cX5_delegate 41 = .ok (.iconst 1, 1) := by decide +kernel
theorem dX5_delegate_42 : decode cX5_delegate 42 = .ok (.bipush 9, 2) := by decide +kernel
theorem dX5_delegate_44 : decode cX5_delegate 44 = .ok (.invokestatic 71, 3) := by decide +kernel
theorem dX5_delegate_47 : decode cX5_delegate 47 = .ok (.ifCond .eq 7, 3) := by decide +kernel
theorem dX5_delegate_50 : decode cX5_delegate 50 = .ok (.iconst 1, 1) := by decide +kernel
theorem dX5_delegate_51 : decode cX5_delegate 51 = .ok (.goto 4, 3) := by decide +kernel
theorem dX5_delegate_54 : decode cX5_delegate 54 = .ok (.iconst 0, 1) := by decide +kernel
theorem dX5_delegate_55 : decode cX5_delegate 55 = .ok (.iconst 1, 1) := by decide +kernel
theorem dX5_delegate_56 : decode cX5_delegate 56 = .ok (.invokevirtual 123, 3) := by decide +kernel
theorem dX5_delegate_59 : decode cX5_delegate 59 = .ok (.ifCond .ne 5, 3) := by decide +kernel
theorem dX5_delegate_62 : decode cX5_delegate 62 = .ok (.iconst 0, 1) := by decide +kernel
theorem dX5_delegate_63 : decode cX5_delegate 63 = .ok (.ireturn, 1) := by decide +kernel
theorem dX5_delegate_64 : decode cX5_delegate 64 = .ok (.aload_n 0, 1) := by decide +kernel
theorem dX5_delegate_65 : decode cX5_delegate 65 = .ok (.getfield 40, 3) := by decide +kernel
theorem dX5_delegate_68 : decode cX5_delegate 68 = .ok (.iload_n 1, 1) := by decide +kernel
theorem dX5_delegate_69 : decode cX5_delegate 69 = .ok (.iaload, 1) := by decide +kernel
theorem dX5_delegate_70 : decode cX5_delegate 70 = .ok (.istore 6, 2) := by decide +kernel
theorem dX5_delegate_72 : decode cX5_delegate 72 = .ok (.aload_n 0, 1) := by decide +kernel
theorem dX5_delegate_73 : decode cX5_delegate 73 = .ok (.getfield 40, 3) := by decide +kernel
theorem dX5_delegate_76 : decode cX5_delegate 76 = .ok (.iload_n 1, 1) := by decide +kernel
theorem dX5_delegate_77 : decode cX5_delegate 77 = .ok (.iload_n 2, 1) := by decide +kernel
theorem dX5_delegate_78 : decode cX5_delegate 78 = .ok (.iastore, 1) := by decide +kernel
theorem dX5_delegate_79 : decode cX5_delegate 79 = .ok (.aload_n 0, 1) := by decide +kernel
theorem dX5_delegate_80 : decode cX5_delegate 80 = .ok (.getfield 43, 3) := by decide +kernel
theorem dX5_delegate_83 : decode cX5_delegate 83 = .ok (.iload_n 1, 1) := by decide +kernel
theorem dX5_delegate_84 : decode cX5_delegate 84 = .ok (.iload_n 3, 1) := by decide +kernel
theorem dX5_delegate_85 : decode cX5_delegate 85 = .ok (.iastore, 1) := by decide +kernel
theorem dX5_delegate_86 : decode cX5_delegate 86 = .ok (.aload_n 0, 1) := by decide +kernel
theorem dX5_delegate_87 : decode cX5_delegate 87 = .ok (.getfield 46, 3) := by decide +kernel
theorem dX5_delegate_90 : decode cX5_delegate 90 = .ok (.iload_n 1, 1) := by decide +kernel
theorem dX5_delegate_91 : decode cX5_delegate 91 = .ok (.iload 4, 2) := by decide +kernel
theorem dX5_delegate_93 : decode cX5_delegate 93 = .ok (.iastore, 1) := by decide +kernel
theorem dX5_delegate_94 : decode cX5_delegate 94 = .ok (.aload_n 0, 1) := by decide +kernel
theorem dX5_delegate_95 : decode cX5_delegate 95 = .ok (.getfield 49, 3) := by decide +kernel
theorem dX5_delegate_98 : decode cX5_delegate 98 = .ok (.iload_n 1, 1) := by decide +kernel
theorem dX5_delegate_99 : decode cX5_delegate 99 = .ok (.iload 5, 2) := by decide +kernel
theorem dX5_delegate_101 : decode cX5_delegate 101 = .ok (.iastore, 1) := by decide +kernel
theorem dX5_delegate_102 : decode cX5_delegate 102 = .ok (.iload 6, 2) := by decide +kernel
theorem dX5_delegate_104 : decode cX5_delegate 104 = .ok (.ireturn, 1) := by decide +kernel
theorem dX5_revoke_0 : decode cX5_revoke 0 = .ok (.iload_n 1, 1) := by decide +kernel
theorem dX5_revoke_1 : decode cX5_revoke 1 = .ok (.invokestatic 127, 3) := by decide +kernel
theorem dX5_revoke_4 : decode cX5_revoke 4 = .ok (.istore_n 2, 1) := by decide +kernel
theorem dX5_revoke_5 : decode cX5_revoke 5 = .ok (.aload_n 0, 1) := by decide +kernel
theorem dX5_revoke_6 : decode cX5_revoke 6 = .ok (.iload_n 2, 1) := by decide +kernel
theorem dX5_revoke_7 : decode cX5_revoke 7 = .ok (.iload_n 2, 1) := by decide +kernel
theorem dX5_revoke_8 : decode cX5_revoke 8 = .ok (.ifCond .eq 17, 3) := by decide +kernel
theorem dX5_revoke_11 : decode cX5_revoke 11 = .ok (.aload_n 0, 1) := by decide +kernel
theorem dX5_revoke_12 : decode cX5_revoke 12 = .ok (.getfield 40, 3) := by decide +kernel
theorem dX5_revoke_15 : decode cX5_revoke 15 = .ok (.iload_n 1, 1) := by decide +kernel
theorem dX5_revoke_16 : decode cX5_revoke 16 = .ok (.iaload, 1) := by decide +kernel
theorem dX5_revoke_17 : decode cX5_revoke 17 = .ok (.iconst (-1), 1) := by decide +kernel
theorem dX5_revoke_18 : decode cX5_revoke 18 = .ok (.if_icmp .eq 7, 3) := by decide +kernel
theorem dX5_revoke_21 : decode cX5_revoke 21 = .ok (.iconst 1, 1) := by decide +kernel
theorem dX5_revoke_22 : decode cX5_revoke 22 = .ok (.goto 4, 3) := by decide +kernel
theorem dX5_revoke_25 : decode cX5_revoke 25 = .ok (.iconst 0, 1) := by decide +kernel
theorem dX5_revoke_26 : decode cX5_revoke 26 = .ok (.iconst 1, 1) := by decide +kernel
theorem dX5_revoke_27 : decode cX5_revoke 27 = .ok (.invokevirtual 123, 3) := by decide +kernel
theorem dX5_revoke_30 : decode cX5_revoke 30 = .ok (.ifCond .ne 5, 3) := by decide +kernel
theorem dX5_revoke_33 : decode cX5_revoke 33 = .ok (.iconst 0, 1) := by decide +kernel
theorem dX5_revoke_34 : decode cX5_revoke 34 = .ok (.ireturn, 1) := by decide +kernel
theorem dX5_revoke_35 : decode cX5_revoke 35 = .ok (.aload_n 0, 1) := by decide +kernel
theorem dX5_revoke_36 : decode cX5_revoke 36 = .ok (.getfield 40, 3) := by decide +kernel
theorem dX5_revoke_39 : decode cX5_revoke 39 = .ok (.iload_n 1, 1) := by decide +kernel
theorem dX5_revoke_40 : decode cX5_revoke 40 = .ok (.iaload, 1) := by decide +kernel
theorem dX5_revoke_41 : decode cX5_revoke 41 = .ok (.istore_n 3, 1) := by decide +kernel
theorem dX5_revoke_42 : decode cX5_revoke 42 = .ok (.aload_n 0, 1) := by decide +kernel
theorem dX5_revoke_43 : decode cX5_revoke 43 = .ok (.getfield 40, 3) := by decide +kernel
theorem dX5_revoke_46 : decode cX5_revoke 46 = .ok (.iload_n 1, 1) := by decide +kernel
theorem dX5_revoke_47 : decode cX5_revoke 47 = .ok (.iconst (-1), 1) := by decide +kernel
theorem dX5_revoke_48 : decode cX5_revoke 48 = .ok (.iastore, 1) := by decide +kernel
theorem dX5_revoke_49 : decode cX5_revoke 49 = .ok (.iload_n 3, 1) := by decide +kernel
theorem dX5_revoke_50 : decode cX5_revoke 50 = .ok (.ireturn, 1) := by decide +kernel
theorem dX5_delegateToday_0 : decode cX5_delegateToday 0 = .ok (.aload_n 0, 1) := by decide +kernel
theorem dX5_delegateToday_1 : decode cX5_delegateToday 1 = .ok (.iload_n 1, 1) := by decide +kernel
theorem dX5_delegateToday_2 : decode cX5_delegateToday 2 = .ok (.invokestatic 127, 3) := by decide +kernel
theorem dX5_delegateToday_5 : decode cX5_delegateToday 5 = .ok (.iconst 1, 1) := by decide +kernel
theorem dX5_delegateToday_6 : decode cX5_delegateToday 6 = .ok (.iconst 1, 1) := by decide +kernel
theorem dX5_delegateToday_7 : decode cX5_delegateToday 7 = .ok (.invokevirtual 123, 3) := by decide +kernel
theorem dX5_delegateToday_10 : decode cX5_delegateToday 10 = .ok (.ifCond .eq 11, 3) := by decide +kernel
theorem dX5_delegateToday_13 : decode cX5_delegateToday 13 = .ok (.aload_n 0, 1) := by decide +kernel
theorem dX5_delegateToday_14 : decode cX5_delegateToday 14 = .ok (.iload_n 1, 1) := by decide +kernel
theorem dX5_delegateToday_15 : decode cX5_delegateToday 15 = .ok (.invokevirtual 141, 3) := by decide +kernel
theorem dX5_delegateToday_18 : decode cX5_delegateToday 18 = .ok (.goto 4, 3) := by decide +kernel
theorem dX5_delegateToday_21 : decode cX5_delegateToday 21 = .ok (.iconst 0, 1) := by decide +kernel
theorem dX5_delegateToday_22 : decode cX5_delegateToday 22 = .ok (.ireturn, 1) := by decide +kernel
theorem dX5_signedFor_0 : decode cX5_signedFor 0 = .ok (.aload_n 0, 1) := by decide +kernel
theorem dX5_signedFor_1 : decode cX5_signedFor 1 = .ok (.iload_n 1, 1) := by decide +kernel
theorem dX5_signedFor_2 : decode cX5_signedFor 2 = .ok (.invokestatic 127, 3) := by decide +kernel
theorem dX5_signedFor_5 : decode cX5_signedFor 5 = .ok (.iconst 1, 1) := by decide +kernel
theorem dX5_signedFor_6 : decode cX5_signedFor 6 = .ok (.iconst 1, 1) := by decide +kernel
theorem dX5_signedFor_7 : decode cX5_signedFor 7 = .ok (.invokevirtual 123, 3) := by decide +kernel
theorem dX5_signedFor_10 : decode cX5_signedFor 10 = .ok (.ifCond .eq 11, 3) := by decide +kernel
theorem dX5_signedFor_13 : decode cX5_signedFor 13 = .ok (.aload_n 0, 1) := by decide +kernel
theorem dX5_signedFor_14 : decode cX5_signedFor 14 = .ok (.iload_n 1, 1) := by decide +kernel
theorem dX5_signedFor_15 : decode cX5_signedFor 15 = .ok (.invokevirtual 144, 3) := by decide +kernel
theorem dX5_signedFor_18 : decode cX5_signedFor 18 = .ok (.goto 4, 3) := by decide +kernel
theorem dX5_signedFor_21 : decode cX5_signedFor 21 = .ok (.iconst 0, 1) := by decide +kernel
theorem dX5_signedFor_22 : decode cX5_signedFor 22 = .ok (.ireturn, 1) := by decide +kernel
theorem dX5_toSign_0 : decode cX5_toSign 0 = .ok (.aload_n 0, 1) := by decide +kernel
theorem dX5_toSign_1 : decode cX5_toSign 1 = .ok (.iload_n 1, 1) := by decide +kernel
theorem dX5_toSign_2 : decode cX5_toSign 2 = .ok (.invokestatic 127, 3) := by decide +kernel
theorem dX5_toSign_5 : decode cX5_toSign 5 = .ok (.iconst 1, 1) := by decide +kernel
theorem dX5_toSign_6 : decode cX5_toSign 6 = .ok (.iconst 1, 1) := by decide +kernel
theorem dX5_toSign_7 : decode cX5_toSign 7 = .ok (.invokevirtual 123, 3) := by decide +kernel
theorem dX5_toSign_10 : decode cX5_toSign 10 = .ok (.ifCond .ne 5, 3) := by decide +kernel
theorem dX5_toSign_13 : decode cX5_toSign 13 = .ok (.iconst 0, 1) := by decide +kernel
theorem dX5_toSign_14 : decode cX5_toSign 14 = .ok (.ireturn, 1) := by decide +kernel
theorem dX5_toSign_15 : decode cX5_toSign 15 = .ok (.iconst 0, 1) := by decide +kernel
theorem dX5_toSign_16 : decode cX5_toSign 16 = .ok (.istore_n 2, 1) := by decide +kernel
theorem dX5_toSign_17 : decode cX5_toSign 17 = .ok (.iconst 0, 1) := by decide +kernel
theorem dX5_toSign_18 : decode cX5_toSign 18 = .ok (.istore_n 3, 1) := by decide +kernel
theorem dX5_toSign_19 : decode cX5_toSign 19 = .ok (.iload_n 3, 1) := by decide +kernel
theorem dX5_toSign_20 : decode cX5_toSign 20 = .ok (.aload_n 0, 1) := by decide +kernel
theorem dX5_toSign_21 : decode cX5_toSign 21 = .ok (.getfield 75, 3) := by decide +kernel
theorem dX5_toSign_24 : decode cX5_toSign 24 = .ok (.if_icmp .ge 49, 3) := by decide +kernel
theorem dX5_toSign_27 : decode cX5_toSign 27 = .ok (.iconst 0, 1) := by decide +kernel
theorem dX5_toSign_28 : decode cX5_toSign 28 = .ok (.istore 4, 2) := by decide +kernel
theorem dX5_toSign_30 : decode cX5_toSign 30 = .ok (.iload 4, 2) := by decide +kernel
theorem dX5_toSign_32 : decode cX5_toSign 32 = .ok (.aload_n 0, 1) := by decide +kernel
theorem dX5_toSign_33 : decode cX5_toSign 33 = .ok (.getfield 7, 3) := by decide +kernel
theorem dX5_toSign_36 : decode cX5_toSign 36 = .ok (.iload_n 3, 1) := by decide +kernel
theorem dX5_toSign_37 : decode cX5_toSign 37 = .ok (.iaload, 1) := by decide +kernel
theorem dX5_toSign_38 : decode cX5_toSign 38 = .ok (.if_icmp .ge 29, 3) := by decide +kernel
theorem dX5_toSign_41 : decode cX5_toSign 41 = .ok (.iload_n 2, 1) := by decide +kernel
theorem dX5_toSign_42 : decode cX5_toSign 42 = .ok (.aload_n 0, 1) := by decide +kernel
theorem dX5_toSign_43 : decode cX5_toSign 43 = .ok (.iload_n 1, 1) := by decide +kernel
theorem dX5_toSign_44 : decode cX5_toSign 44 = .ok (.iload_n 3, 1) := by decide +kernel
theorem dX5_toSign_45 : decode cX5_toSign 45 = .ok (.iload 4, 2) := by decide +kernel
theorem dX5_toSign_47 : decode cX5_toSign 47 = .ok (.invokevirtual 150, 3) := by decide +kernel
theorem dX5_toSign_50 : decode cX5_toSign 50 = .ok (.iconst 2, 1) := by decide +kernel
theorem dX5_toSign_51 : decode cX5_toSign 51 = .ok (.if_icmp .ge 7, 3) := by decide +kernel
theorem dX5_toSign_54 : decode cX5_toSign 54 = .ok (.iconst 1, 1) := by decide +kernel
theorem dX5_toSign_55 : decode cX5_toSign 55 = .ok (.goto 4, 3) := by decide +kernel
theorem dX5_toSign_58 : decode cX5_toSign 58 = .ok (.iconst 0, 1) := by decide +kernel
theorem dX5_toSign_59 : decode cX5_toSign 59 = .ok (.iadd, 1) := by decide +kernel
theorem dX5_toSign_60 : decode cX5_toSign 60 = .ok (.istore_n 2, 1) := by decide +kernel
theorem dX5_toSign_61 : decode cX5_toSign 61 = .ok (.iinc 4 1, 3) := by decide +kernel
theorem dX5_toSign_64 : decode cX5_toSign 64 = .ok (.goto (-34), 3) := by decide +kernel
theorem dX5_toSign_67 : decode cX5_toSign 67 = .ok (.iinc 3 1, 3) := by decide +kernel
theorem dX5_toSign_70 : decode cX5_toSign 70 = .ok (.goto (-51), 3) := by decide +kernel
theorem dX5_toSign_73 : decode cX5_toSign 73 = .ok (.iload_n 2, 1) := by decide +kernel
theorem dX5_toSign_74 : decode cX5_toSign 74 = .ok (.ireturn, 1) := by decide +kernel
theorem dX5_reminds_0 : decode cX5_reminds 0 = .ok (.iconst 0, 1) := by decide +kernel
theorem dX5_reminds_1 : decode cX5_reminds 1 = .ok (.istore_n 2, 1) := by decide +kernel
theorem dX5_reminds_2 : decode cX5_reminds 2 = .ok (.aload_n 0, 1) := by decide +kernel
theorem dX5_reminds_3 : decode cX5_reminds 3 = .ok (.iload_n 1, 1) := by decide +kernel
theorem dX5_reminds_4 : decode cX5_reminds 4 = .ok (.invokevirtual 109, 3) := by decide +kernel
theorem dX5_reminds_7 : decode cX5_reminds 7 = .ok (.aload_n 0, 1) := by decide +kernel
theorem dX5_reminds_8 : decode cX5_reminds 8 = .ok (.invokevirtual 137, 3) := by decide +kernel
theorem dX5_reminds_11 : decode cX5_reminds 11 = .ok (.istore_n 3, 1) := by decide +kernel
theorem dX5_reminds_12 : decode cX5_reminds 12 = .ok (.iconst 0, 1) := by decide +kernel
theorem dX5_reminds_13 : decode cX5_reminds 13 = .ok (.istore 4, 2) := by decide +kernel
theorem dX5_reminds_15 : decode cX5_reminds 15 = .ok (.iload 4, 2) := by decide +kernel
theorem dX5_reminds_17 : decode cX5_reminds 17 = .ok (.aload_n 0, 1) := by decide +kernel
theorem dX5_reminds_18 : decode cX5_reminds 18 = .ok (.getfield 7, 3) := by decide +kernel
theorem dX5_reminds_21 : decode cX5_reminds 21 = .ok (.iload_n 1, 1) := by decide +kernel
theorem dX5_reminds_22 : decode cX5_reminds 22 = .ok (.iaload, 1) := by decide +kernel
theorem dX5_reminds_23 : decode cX5_reminds 23 = .ok (.if_icmp .ge 84, 3) := by decide +kernel
theorem dX5_reminds_26 : decode cX5_reminds 26 = .ok (.aload_n 0, 1) := by decide +kernel
theorem dX5_reminds_27 : decode cX5_reminds 27 = .ok (.getfield 113, 3) := by decide +kernel
theorem dX5_reminds_30 : decode cX5_reminds 30 = .ok (.aload_n 0, 1) := by decide +kernel
theorem dX5_reminds_31 : decode cX5_reminds 31 = .ok (.getfield 58, 3) := by decide +kernel
theorem dX5_reminds_34 : decode cX5_reminds 34 = .ok (.iload 4, 2) := by decide +kernel
theorem dX5_reminds_36 : decode cX5_reminds 36 = .ok (.iaload, 1) := by decide +kernel
theorem dX5_reminds_37 : decode cX5_reminds 37 = .ok (.isub, 1) := by decide +kernel
theorem dX5_reminds_38 : decode cX5_reminds 38 = .ok (.istore 5, 2) := by decide +kernel
theorem dX5_reminds_40 : decode cX5_reminds 40 = .ok (.iload_n 3, 1) := by decide +kernel
theorem dX5_reminds_41 : decode cX5_reminds 41 = .ok (.iload 4, 2) := by decide +kernel
theorem dX5_reminds_43 : decode cX5_reminds 43 = .ok (.invokestatic 85, 3) := by decide +kernel
theorem dX5_reminds_46 : decode cX5_reminds 46 = .ok (.ifCond .eq 55, 3) := by decide +kernel
theorem dX5_reminds_49 : decode cX5_reminds 49 = .ok (.aload_n 0, 1) := by decide +kernel
theorem dX5_reminds_50 : decode cX5_reminds 50 = .ok (.getfield 61, 3) := by decide +kernel
theorem dX5_reminds_53 : decode cX5_reminds 53 = .ok (.iload 4, 2) := by decide +kernel
theorem dX5_reminds_55 : decode cX5_reminds 55 = .ok (.iaload, 1) := by decide +kernel
theorem dX5_reminds_56 : decode cX5_reminds 56 = .ok (.iconst 5, 1) := by decide +kernel
theorem dX5_reminds_57 : decode cX5_reminds 57 = .ok (.if_icmp .ge 44, 3) := by decide +kernel
theorem dX5_reminds_60 : decode cX5_reminds 60 = .ok (.iload 5, 2) := by decide +kernel
theorem dX5_reminds_62 : decode cX5_reminds 62 = .ok (.ifCond .le 39, 3) := by decide +kernel
theorem dX5_reminds_65 : decode cX5_reminds 65 = .ok (.iload 5, 2) := by decide +kernel
theorem dX5_reminds_67 : decode cX5_reminds 67 = .ok (.aload_n 0, 1) := by decide +kernel
theorem dX5_reminds_68 : decode cX5_reminds 68 = .ok (.getfield 13, 3) := by decide +kernel
theorem dX5_reminds_71 : decode cX5_reminds 71 = .ok (.iload_n 1, 1) := by decide +kernel
theorem dX5_reminds_72 : decode cX5_reminds 72 = .ok (.iaload, 1) := by decide +kernel
theorem dX5_reminds_73 : decode cX5_reminds 73 = .ok (.irem, 1) := by decide +kernel
theorem dX5_reminds_74 : decode cX5_reminds 74 = .ok (.ifCond .ne 27, 3) := by decide +kernel
theorem dX5_reminds_77 : decode cX5_reminds 77 = .ok (.aload_n 0, 1) := by decide +kernel
theorem dX5_reminds_78 : decode cX5_reminds 78 = .ok (.iload_n 1, 1) := by decide +kernel
theorem dX5_reminds_79 : decode cX5_reminds 79 = .ok (.bipush 6, 2) := by decide +kernel
theorem dX5_reminds_81 : decode cX5_reminds 81 = .ok (.aload_n 0, 1) := by decide +kernel
theorem dX5_reminds_82 : decode cX5_reminds 82 = .ok (.getfield 22, 3) := by decide +kernel
theorem dX5_reminds_85 : decode cX5_reminds 85 = .ok (.bipush 8, 2) := by decide +kernel
theorem dX5_reminds_87 : decode cX5_reminds 87 = .ok (.iload_n 1, 1) := by decide +kernel
theorem dX5_reminds_88 : decode cX5_reminds 88 = .ok (.imul, 1) := by decide +kernel
theorem dX5_reminds_89 : decode cX5_reminds 89 = .ok (.iload 4, 2) := by decide +kernel
theorem dX5_reminds_91 : decode cX5_reminds 91 = .ok (.iadd, 1) := by decide +kernel
theorem dX5_reminds_92 : decode cX5_reminds 92 = .ok (.iaload, 1) := by decide +kernel
theorem dX5_reminds_93 : decode cX5_reminds 93 = .ok (.iload 4, 2) := by decide +kernel
theorem dX5_reminds_95 : decode cX5_reminds 95 = .ok (.invokevirtual 116, 3) := by decide +kernel
theorem dX5_reminds_98 : decode cX5_reminds 98 = .ok (.iinc 2 1, 3) := by decide +kernel
theorem dX5_reminds_101 : decode cX5_reminds 101 = .ok (.iinc 4 1, 3) := by decide +kernel
theorem dX5_reminds_104 : decode cX5_reminds 104 = .ok (.goto (-89), 3) := by decide +kernel
theorem dX5_reminds_107 : decode cX5_reminds 107 = .ok (.iload_n 2, 1) := by decide +kernel
theorem dX5_reminds_108 : decode cX5_reminds 108 = .ok (.ireturn, 1) := by decide +kernel
theorem dX5_passes_0 : decode cX5_passes 0 = .ok (.iconst 0, 1) := by decide +kernel
theorem dX5_passes_1 : decode cX5_passes 1 = .ok (.istore_n 1, 1) := by decide +kernel
theorem dX5_passes_2 : decode cX5_passes 2 = .ok (.aload_n 0, 1) := by decide +kernel
theorem dX5_passes_3 : decode cX5_passes 3 = .ok (.dup, 1) := by decide +kernel
theorem dX5_passes_4 : decode cX5_passes 4 = .ok (.getfield 113, 3) := by decide +kernel
theorem dX5_passes_7 : decode cX5_passes 7 = .ok (.iconst 1, 1) := by decide +kernel
theorem dX5_passes_8 : decode cX5_passes 8 = .ok (.iadd, 1) := by decide +kernel
theorem dX5_passes_9 : decode cX5_passes 9 = .ok (.putfield 113, 3) := by decide +kernel
theorem dX5_passes_12 : decode cX5_passes 12 = .ok (.iconst 0, 1) := by decide +kernel
theorem dX5_passes_13 : decode cX5_passes 13 = .ok (.istore_n 2, 1) := by decide +kernel
theorem dX5_passes_14 : decode cX5_passes 14 = .ok (.iload_n 2, 1) := by decide +kernel
theorem dX5_passes_15 : decode cX5_passes 15 = .ok (.aload_n 0, 1) := by decide +kernel
theorem dX5_passes_16 : decode cX5_passes 16 = .ok (.getfield 75, 3) := by decide +kernel
theorem dX5_passes_19 : decode cX5_passes 19 = .ok (.if_icmp .ge 99, 3) := by decide +kernel
theorem dX5_passes_22 : decode cX5_passes 22 = .ok (.aload_n 0, 1) := by decide +kernel
theorem dX5_passes_23 : decode cX5_passes 23 = .ok (.iload_n 2, 1) := by decide +kernel
theorem dX5_passes_24 : decode cX5_passes 24 = .ok (.iconst 1, 1) := by decide +kernel
theorem dX5_passes_25 : decode cX5_passes 25 = .ok (.invokevirtual 130, 3) := by decide +kernel
theorem dX5_passes_28 : decode cX5_passes 28 = .ok (.ifCond .eq 84, 3) := by decide +kernel
theorem dX5_passes_31 : decode cX5_passes 31 = .ok (.aload_n 0, 1) := by decide +kernel
theorem dX5_passes_32 : decode cX5_passes 32 = .ok (.getfield 16, 3) := by decide +kernel
theorem dX5_passes_35 : decode cX5_passes 35 = .ok (.iload_n 2, 1) := by decide +kernel
theorem dX5_passes_36 : decode cX5_passes 36 = .ok (.iaload, 1) := by decide +kernel
theorem dX5_passes_37 : decode cX5_passes 37 = .ok (.ifCond .le 30, 3) := by decide +kernel
theorem dX5_passes_40 : decode cX5_passes 40 = .ok (.aload_n 0, 1) := by decide +kernel
theorem dX5_passes_41 : decode cX5_passes 41 = .ok (.getfield 113, 3) := by decide +kernel
theorem dX5_passes_44 : decode cX5_passes 44 = .ok (.aload_n 0, 1) := by decide +kernel
theorem dX5_passes_45 : decode cX5_passes 45 = .ok (.getfield 37, 3) := by decide +kernel
theorem dX5_passes_48 : decode cX5_passes 48 = .ok (.bipush 50, 2) := by decide +kernel
theorem dX5_passes_50 : decode cX5_passes 50 = .ok (.iload_n 2, 1) := by decide +kernel
theorem dX5_passes_51 : decode cX5_passes 51 = .ok (.imul, 1) := by decide +kernel
theorem dX5_passes_52 : decode cX5_passes 52 = .ok (.iaload, 1) := by decide +kernel
theorem dX5_passes_53 : decode cX5_passes 53 = .ok (.aload_n 0, 1) := by decide +kernel
theorem dX5_passes_54 : decode cX5_passes 54 = .ok (.getfield 16, 3) := by decide +kernel
theorem dX5_passes_57 : decode cX5_passes 57 = .ok (.iload_n 2, 1) := by decide +kernel
theorem dX5_passes_58 : decode cX5_passes 58 = .ok (.iaload, 1) := by decide +kernel
theorem dX5_passes_59 : decode cX5_passes 59 = .ok (.iadd, 1) := by decide +kernel
theorem dX5_passes_60 : decode cX5_passes 60 = .ok (.if_icmp .ne 7, 3) := by decide +kernel
theorem dX5_passes_63 : decode cX5_passes 63 = .ok (.iconst 1, 1) := by decide +kernel
theorem dX5_passes_64 : decode cX5_passes 64 = .ok (.goto 4, 3) := by decide +kernel
theorem dX5_passes_67 : decode cX5_passes 67 = .ok (.iconst 0, 1) := by decide +kernel
theorem dX5_passes_68 : decode cX5_passes 68 = .ok (.istore_n 3, 1) := by decide +kernel
theorem dX5_passes_69 : decode cX5_passes 69 = .ok (.iload_n 3, 1) := by decide +kernel
theorem dX5_passes_70 : decode cX5_passes 70 = .ok (.ifCond .eq 14, 3) := by decide +kernel
theorem dX5_passes_73 : decode cX5_passes 73 = .ok (.aload_n 0, 1) := by decide +kernel
theorem dX5_passes_74 : decode cX5_passes 74 = .ok (.iload_n 2, 1) := by decide +kernel
theorem dX5_passes_75 : decode cX5_passes 75 = .ok (.iconst 5, 1) := by decide +kernel
theorem dX5_passes_76 : decode cX5_passes 76 = .ok (.iconst (-1), 1) := by decide +kernel
theorem dX5_passes_77 : decode cX5_passes 77 = .ok (.iconst (-1), 1) := by decide +kernel
theorem dX5_passes_78 : decode cX5_passes 78 = .ok (.invokevirtual 153, 3) := by decide +kernel
theorem dX5_passes_81 : decode cX5_passes 81 = .ok (.goto 4, 3) := by decide +kernel
theorem dX5_passes_84 : decode cX5_passes 84 = .ok (.iconst 0, 1) := by decide +kernel
theorem dX5_passes_85 : decode cX5_passes 85 = .ok (.istore 4, 2) := by decide +kernel
theorem dX5_passes_87 : decode cX5_passes 87 = .ok (.iload_n 1, 1) := by decide +kernel
theorem dX5_passes_88 : decode cX5_passes 88 = .ok (.iload_n 3, 1) := by decide +kernel
theorem dX5_passes_89 : decode cX5_passes 89 = .ok (.ifCond .ne 20, 3) := by decide +kernel
theorem dX5_passes_92 : decode cX5_passes 92 = .ok (.aload_n 0, 1) := by decide +kernel
theorem dX5_passes_93 : decode cX5_passes 93 = .ok (.getfield 13, 3) := by decide +kernel
theorem dX5_passes_96 : decode cX5_passes 96 = .ok (.iload_n 2, 1) := by decide +kernel
theorem dX5_passes_97 : decode cX5_passes 97 = .ok (.iaload, 1) := by decide +kernel
theorem dX5_passes_98 : decode cX5_passes 98 = .ok (.ifCond .le 11, 3) := by decide +kernel
theorem dX5_passes_101 : decode cX5_passes 101 = .ok (.aload_n 0, 1) := by decide +kernel
theorem dX5_passes_102 : decode cX5_passes 102 = .ok (.iload_n 2, 1) := by decide +kernel
theorem dX5_passes_103 : decode cX5_passes 103 = .ok (.invokevirtual 157, 3) := by decide +kernel
theorem dX5_passes_106 : decode cX5_passes 106 = .ok (.goto 4, 3) := by decide +kernel
theorem dX5_passes_109 : decode cX5_passes 109 = .ok (.iconst 0, 1) := by decide +kernel
theorem dX5_passes_110 : decode cX5_passes 110 = .ok (.iadd, 1) := by decide +kernel
theorem dX5_passes_111 : decode cX5_passes 111 = .ok (.istore_n 1, 1) := by decide +kernel
theorem dX5_passes_112 : decode cX5_passes 112 = .ok (.iinc 2 1, 3) := by decide +kernel
theorem dX5_passes_115 : decode cX5_passes 115 = .ok (.goto (-101), 3) := by decide +kernel
theorem dX5_passes_118 : decode cX5_passes 118 = .ok (.iload_n 1, 1) := by decide +kernel
theorem dX5_passes_119 : decode cX5_passes 119 = .ok (.ireturn, 1) := by decide +kernel
theorem dX5_pass_0 : decode cX5_pass 0 = .ok (.aload_n 0, 1) := by decide +kernel
theorem dX5_pass_1 : decode cX5_pass 1 = .ok (.iload_n 1, 1) := by decide +kernel
theorem dX5_pass_2 : decode cX5_pass 2 = .ok (.iconst 1, 1) := by decide +kernel
theorem dX5_pass_3 : decode cX5_pass 3 = .ok (.bipush 60, 2) := by decide +kernel
theorem dX5_pass_5 : decode cX5_pass 5 = .ok (.invokestatic 71, 3) := by decide +kernel
theorem dX5_pass_8 : decode cX5_pass 8 = .ok (.iconst 1, 1) := by decide +kernel
theorem dX5_pass_9 : decode cX5_pass 9 = .ok (.iconst 1, 1) := by decide +kernel
theorem dX5_pass_10 : decode cX5_pass 10 = .ok (.invokevirtual 123, 3) := by decide +kernel
theorem dX5_pass_13 : decode cX5_pass 13 = .ok (.ifCond .ne 5, 3) := by decide +kernel
theorem dX5_pass_16 : decode cX5_pass 16 = .ok (.iconst 0, 1) := by decide +kernel
theorem dX5_pass_17 : decode cX5_pass 17 = .ok (.ireturn, 1) := by decide +kernel
theorem dX5_pass_18 : decode cX5_pass 18 = .ok (.iconst 0, 1) := by decide +kernel
theorem dX5_pass_19 : decode cX5_pass 19 = .ok (.istore_n 2, 1) := by decide +kernel
theorem dX5_pass_20 : decode cX5_pass 20 = .ok (.iconst 0, 1) := by decide +kernel
theorem dX5_pass_21 : decode cX5_pass 21 = .ok (.istore_n 3, 1) := by decide +kernel
theorem dX5_pass_22 : decode cX5_pass 22 = .ok (.iload_n 3, 1) := by decide +kernel
theorem dX5_pass_23 : decode cX5_pass 23 = .ok (.iload_n 1, 1) := by decide +kernel
theorem dX5_pass_24 : decode cX5_pass 24 = .ok (.if_icmp .ge 16, 3) := by decide +kernel
theorem dX5_pass_27 : decode cX5_pass 27 = .ok (.iload_n 2, 1) := by decide +kernel
theorem dX5_pass_28 : decode cX5_pass 28 = .ok (.aload_n 0, 1) := by decide +kernel
theorem dX5_pass_29 : decode cX5_pass 29 = .ok (.invokevirtual 160, 3) := by decide +kernel
theorem dX5_pass_32 : decode cX5_pass 32 = .ok (.iadd, 1) := by decide +kernel
theorem dX5_pass_33 : decode cX5_pass 33 = .ok (.istore_n 2, 1) := by decide +kernel
theorem dX5_pass_34 : decode cX5_pass 34 = .ok (.iinc 3 1, 3) := by decide +kernel
theorem dX5_pass_37 : decode cX5_pass 37 = .ok (.goto (-15), 3) := by decide +kernel
theorem dX5_pass_40 : decode cX5_pass 40 = .ok (.iload_n 2, 1) := by decide +kernel
theorem dX5_pass_41 : decode cX5_pass 41 = .ok (.ireturn, 1) := by decide +kernel
theorem dX5_today_0 : decode cX5_today 0 = .ok (.aload_n 0, 1) := by decide +kernel
theorem dX5_today_1 : decode cX5_today 1 = .ok (.aload_n 0, 1) := by decide +kernel
theorem dX5_today_2 : decode cX5_today 2 = .ok (.getfield 113, 3) := by decide +kernel
theorem dX5_today_5 : decode cX5_today 5 = .ok (.invokevirtual 163, 3) := by decide +kernel
theorem dX5_today_8 : decode cX5_today 8 = .ok (.ireturn, 1) := by decide +kernel
theorem dX5_next_0 : decode cX5_next 0 = .ok (.iconst (-1), 1) := by decide +kernel
theorem dX5_next_1 : decode cX5_next 1 = .ok (.istore_n 2, 1) := by decide +kernel
theorem dX5_next_2 : decode cX5_next 2 = .ok (.aload_n 0, 1) := by decide +kernel
theorem dX5_next_3 : decode cX5_next 3 = .ok (.iload_n 1, 1) := by decide +kernel
theorem dX5_next_4 : decode cX5_next 4 = .ok (.invokevirtual 109, 3) := by decide +kernel
theorem dX5_next_7 : decode cX5_next 7 = .ok (.iconst 0, 1) := by decide +kernel
theorem dX5_next_8 : decode cX5_next 8 = .ok (.istore_n 3, 1) := by decide +kernel
theorem dX5_next_9 : decode cX5_next 9 = .ok (.iload_n 3, 1) := by decide +kernel
theorem dX5_next_10 : decode cX5_next 10 = .ok (.aload_n 0, 1) := by decide +kernel
theorem dX5_next_11 : decode cX5_next 11 = .ok (.getfield 7, 3) := by decide +kernel
theorem dX5_next_14 : decode cX5_next 14 = .ok (.iload_n 1, 1) := by decide +kernel
theorem dX5_next_15 : decode cX5_next 15 = .ok (.iaload, 1) := by decide +kernel
theorem dX5_next_16 : decode cX5_next 16 = .ok (.if_icmp .ge 93, 3) := by decide +kernel
theorem dX5_next_19 : decode cX5_next 19 = .ok (.aload_n 0, 1) := by decide +kernel
theorem dX5_next_20 : decode cX5_next 20 = .ok (.getfield 13, 3) := by decide +kernel
theorem dX5_next_23 : decode cX5_next 23 = .ok (.iload_n 1, 1) := by decide +kernel
theorem dX5_next_24 : decode cX5_next 24 = .ok (.iaload, 1) := by decide +kernel
theorem dX5_next_25 : decode cX5_next 25 = .ok (.ifCond .le 84, 3) := by decide +kernel
theorem dX5_next_28 : decode cX5_next 28 = .ok (.aload_n 0, 1) := by decide +kernel
theorem dX5_next_29 : decode cX5_next 29 = .ok (.invokevirtual 137, 3) := by decide +kernel
theorem dX5_next_32 : decode cX5_next 32 = .ok (.iload_n 3, 1) := by decide +kernel
theorem dX5_next_33 : decode cX5_next 33 = .ok (.invokestatic 85, 3) := by decide +kernel
theorem dX5_next_36 : decode cX5_next 36 = .ok (.ifCond .eq 67, 3) := by decide +kernel
theorem dX5_next_39 : decode cX5_next 39 = .ok (.aload_n 0, 1) := by decide +kernel
theorem dX5_next_40 : decode cX5_next 40 = .ok (.getfield 61, 3) := by decide +kernel
theorem dX5_next_43 : decode cX5_next 43 = .ok (.iload_n 3, 1) := by decide +kernel
theorem dX5_next_44 : decode cX5_next 44 = .ok (.iaload, 1) := by decide +kernel
theorem dX5_next_45 : decode cX5_next 45 = .ok (.iconst 5, 1) := by decide +kernel
theorem dX5_next_46 : decode cX5_next 46 = .ok (.if_icmp .ge 57, 3) := by decide +kernel
theorem dX5_next_49 : decode cX5_next 49 = .ok (.aload_n 0, 1) := by decide +kernel
theorem dX5_next_50 : decode cX5_next 50 = .ok (.getfield 58, 3) := by decide +kernel
theorem dX5_next_53 : decode cX5_next 53 = .ok (.iload_n 3, 1) := by decide +kernel
theorem dX5_next_54 : decode cX5_next 54 = .ok (.iaload, 1) := by decide +kernel
theorem dX5_next_55 : decode cX5_next 55 = .ok (.aload_n 0, 1) := by decide +kernel
theorem dX5_next_56 : decode cX5_next 56 = .ok (.getfield 13, 3) := by decide +kernel
theorem dX5_next_59 : decode cX5_next 59 = .ok (.iload_n 1, 1) := by decide +kernel
theorem dX5_next_60 : decode cX5_next 60 = .ok (.iaload, 1) := by decide +kernel
theorem dX5_next_61 : decode cX5_next 61 = .ok (.aload_n 0, 1) := by decide +kernel
theorem dX5_next_62 : decode cX5_next 62 = .ok (.getfield 113, 3) := by decide +kernel
theorem dX5_next_65 : decode cX5_next 65 = .ok (.aload_n 0, 1) := by decide +kernel
theorem dX5_next_66 : decode cX5_next 66 = .ok (.getfield 58, 3) := by decide +kernel
theorem dX5_next_69 : decode cX5_next 69 = .ok (.iload_n 3, 1) := by decide +kernel
theorem dX5_next_70 : decode cX5_next 70 = .ok (.iaload, 1) := by decide +kernel
theorem dX5_next_71 : decode cX5_next 71 = .ok (.isub, 1) := by decide +kernel
theorem dX5_next_72 : decode cX5_next 72 = .ok (.aload_n 0, 1) := by decide +kernel
theorem dX5_next_73 : decode cX5_next 73 = .ok (.getfield 13, 3) := by decide +kernel
theorem dX5_next_76 : decode cX5_next 76 = .ok (.iload_n 1, 1) := by decide +kernel
theorem dX5_next_77 : decode cX5_next 77 = .ok (.iaload, 1) := by decide +kernel
theorem dX5_next_78 : decode cX5_next 78 = .ok (.idiv, 1) := by decide +kernel
theorem dX5_next_79 : decode cX5_next 79 = .ok (.iconst 1, 1) := by decide +kernel
theorem dX5_next_80 : decode cX5_next 80 = .ok (.iadd, 1) := by decide +kernel
theorem dX5_next_81 : decode cX5_next 81 = .ok (.imul, 1) := by decide +kernel
theorem dX5_next_82 : decode cX5_next 82 = .ok (.iadd, 1) := by decide +kernel
theorem dX5_next_83 : decode cX5_next 83 = .ok (.istore 4, 2) := by decide +kernel
theorem dX5_next_85 : decode cX5_next 85 = .ok (.iload_n 2, 1) := by decide +kernel
theorem dX5_next_86 : decode cX5_next 86 = .ok (.iconst (-1), 1) := by decide +kernel
theorem dX5_next_87 : decode cX5_next 87 = .ok (.if_icmp .eq 9, 3) := by decide +kernel
theorem dX5_next_90 : decode cX5_next 90 = .ok (.iload 4, 2) := by decide +kernel
theorem dX5_next_92 : decode cX5_next 92 = .ok (.iload_n 2, 1) := by decide +kernel
theorem dX5_next_93 : decode cX5_next 93 = .ok (.if_icmp .ge 8, 3) := by decide +kernel
theorem dX5_next_96 : decode cX5_next 96 = .ok (.iload 4, 2) := by decide +kernel
theorem dX5_next_98 : decode cX5_next 98 = .ok (.goto 4, 3) := by decide +kernel
theorem dX5_next_101 : decode cX5_next 101 = .ok (.iload_n 2, 1) := by decide +kernel
theorem dX5_next_102 : decode cX5_next 102 = .ok (.istore_n 2, 1) := by decide +kernel
theorem dX5_next_103 : decode cX5_next 103 = .ok (.iinc 3 1, 3) := by decide +kernel
theorem dX5_next_106 : decode cX5_next 106 = .ok (.goto (-97), 3) := by decide +kernel
theorem dX5_next_109 : decode cX5_next 109 = .ok (.iload_n 2, 1) := by decide +kernel
theorem dX5_next_110 : decode cX5_next 110 = .ok (.ireturn, 1) := by decide +kernel
theorem dX5_nextReminder_0 : decode cX5_nextReminder 0 = .ok (.aload_n 0, 1) := by decide +kernel
theorem dX5_nextReminder_1 : decode cX5_nextReminder 1 = .ok (.aload_n 0, 1) := by decide +kernel
theorem dX5_nextReminder_2 : decode cX5_nextReminder 2 = .ok (.iload_n 1, 1) := by decide +kernel
theorem dX5_nextReminder_3 : decode cX5_nextReminder 3 = .ok (.invokevirtual 78, 3) := by decide +kernel
theorem dX5_nextReminder_6 : decode cX5_nextReminder 6 = .ok (.iconst 1, 1) := by decide +kernel
theorem dX5_nextReminder_7 : decode cX5_nextReminder 7 = .ok (.iconst 1, 1) := by decide +kernel
theorem dX5_nextReminder_8 : decode cX5_nextReminder 8 = .ok (.invokevirtual 123, 3) := by decide +kernel
theorem dX5_nextReminder_11 : decode cX5_nextReminder 11 = .ok (.ifCond .eq 11, 3) := by decide +kernel
theorem dX5_nextReminder_14 : decode cX5_nextReminder 14 = .ok (.aload_n 0, 1) := by decide +kernel
theorem dX5_nextReminder_15 : decode cX5_nextReminder 15 = .ok (.iload_n 1, 1) := by decide +kernel
theorem dX5_nextReminder_16 : decode cX5_nextReminder 16 = .ok (.invokevirtual 166, 3) := by decide +kernel
theorem dX5_nextReminder_19 : decode cX5_nextReminder 19 = .ok (.goto 4, 3) := by decide +kernel
theorem dX5_nextReminder_22 : decode cX5_nextReminder 22 = .ok (.iconst 0, 1) := by decide +kernel
theorem dX5_nextReminder_23 : decode cX5_nextReminder 23 = .ok (.ireturn, 1) := by decide +kernel
theorem dX5_envelopes_0 : decode cX5_envelopes 0 = .ok (.aload_n 0, 1) := by decide +kernel
theorem dX5_envelopes_1 : decode cX5_envelopes 1 = .ok (.aload_n 0, 1) := by decide +kernel
theorem dX5_envelopes_2 : decode cX5_envelopes 2 = .ok (.getfield 75, 3) := by decide +kernel
theorem dX5_envelopes_5 : decode cX5_envelopes 5 = .ok (.invokevirtual 163, 3) := by decide +kernel
theorem dX5_envelopes_8 : decode cX5_envelopes 8 = .ok (.ireturn, 1) := by decide +kernel
theorem dX5_state_0 : decode cX5_state 0 = .ok (.aload_n 0, 1) := by decide +kernel
theorem dX5_state_1 : decode cX5_state 1 = .ok (.aload_n 0, 1) := by decide +kernel
theorem dX5_state_2 : decode cX5_state 2 = .ok (.iload_n 1, 1) := by decide +kernel
theorem dX5_state_3 : decode cX5_state 3 = .ok (.invokevirtual 78, 3) := by decide +kernel
theorem dX5_state_6 : decode cX5_state 6 = .ok (.iconst 1, 1) := by decide +kernel
theorem dX5_state_7 : decode cX5_state 7 = .ok (.iconst 1, 1) := by decide +kernel
theorem dX5_state_8 : decode cX5_state 8 = .ok (.invokevirtual 123, 3) := by decide +kernel
theorem dX5_state_11 : decode cX5_state 11 = .ok (.ifCond .ne 5, 3) := by decide +kernel
theorem dX5_state_14 : decode cX5_state 14 = .ok (.iconst 0, 1) := by decide +kernel
theorem dX5_state_15 : decode cX5_state 15 = .ok (.ireturn, 1) := by decide +kernel
theorem dX5_state_16 : decode cX5_state 16 = .ok (.aload_n 0, 1) := by decide +kernel
theorem dX5_state_17 : decode cX5_state 17 = .ok (.iload_n 1, 1) := by decide +kernel
theorem dX5_state_18 : decode cX5_state 18 = .ok (.invokevirtual 109, 3) := by decide +kernel
theorem dX5_state_21 : decode cX5_state 21 = .ok (.aload_n 0, 1) := by decide +kernel
theorem dX5_state_22 : decode cX5_state 22 = .ok (.getfield 92, 3) := by decide +kernel
theorem dX5_state_25 : decode cX5_state 25 = .ok (.ireturn, 1) := by decide +kernel
theorem dX5_slots_0 : decode cX5_slots 0 = .ok (.aload_n 0, 1) := by decide +kernel
theorem dX5_slots_1 : decode cX5_slots 1 = .ok (.aload_n 0, 1) := by decide +kernel
theorem dX5_slots_2 : decode cX5_slots 2 = .ok (.iload_n 1, 1) := by decide +kernel
theorem dX5_slots_3 : decode cX5_slots 3 = .ok (.invokevirtual 78, 3) := by decide +kernel
theorem dX5_slots_6 : decode cX5_slots 6 = .ok (.iconst 1, 1) := by decide +kernel
theorem dX5_slots_7 : decode cX5_slots 7 = .ok (.iconst 1, 1) := by decide +kernel
theorem dX5_slots_8 : decode cX5_slots 8 = .ok (.invokevirtual 123, 3) := by decide +kernel
theorem dX5_slots_11 : decode cX5_slots 11 = .ok (.ifCond .eq 12, 3) := by decide +kernel
theorem dX5_slots_14 : decode cX5_slots 14 = .ok (.aload_n 0, 1) := by decide +kernel
theorem dX5_slots_15 : decode cX5_slots 15 = .ok (.getfield 7, 3) := by decide +kernel
theorem dX5_slots_18 : decode cX5_slots 18 = .ok (.iload_n 1, 1) := by decide +kernel
theorem dX5_slots_19 : decode cX5_slots 19 = .ok (.iaload, 1) := by decide +kernel
theorem dX5_slots_20 : decode cX5_slots 20 = .ok (.goto 4, 3) := by decide +kernel
theorem dX5_slots_23 : decode cX5_slots 23 = .ok (.iconst 0, 1) := by decide +kernel
theorem dX5_slots_24 : decode cX5_slots 24 = .ok (.ireturn, 1) := by decide +kernel
theorem dX5_slotState_0 : decode cX5_slotState 0 = .ok (.aload_n 0, 1) := by decide +kernel
theorem dX5_slotState_1 : decode cX5_slotState 1 = .ok (.aload_n 0, 1) := by decide +kernel
theorem dX5_slotState_2 : decode cX5_slotState 2 = .ok (.iload_n 1, 1) := by decide +kernel
theorem dX5_slotState_3 : decode cX5_slotState 3 = .ok (.iload_n 2, 1) := by decide +kernel
theorem dX5_slotState_4 : decode cX5_slotState 4 = .ok (.invokevirtual 147, 3) := by decide +kernel
theorem dX5_slotState_7 : decode cX5_slotState 7 = .ok (.iconst 1, 1) := by decide +kernel
theorem dX5_slotState_8 : decode cX5_slotState 8 = .ok (.iconst 1, 1) := by decide +kernel
theorem dX5_slotState_9 : decode cX5_slotState 9 = .ok (.invokevirtual 123, 3) := by decide +kernel
theorem dX5_slotState_12 : decode cX5_slotState 12 = .ok (.ifCond .ne 5, 3) := by decide +kernel
theorem dX5_slotState_15 : decode cX5_slotState 15 = .ok (.iconst 0, 1) := by decide +kernel
theorem dX5_slotState_16 : decode cX5_slotState 16 = .ok (.ireturn, 1) := by decide +kernel
theorem dX5_slotState_17 : decode cX5_slotState 17 = .ok (.aload_n 0, 1) := by decide +kernel
theorem dX5_slotState_18 : decode cX5_slotState 18 = .ok (.iload_n 1, 1) := by decide +kernel
theorem dX5_slotState_19 : decode cX5_slotState 19 = .ok (.invokevirtual 109, 3) := by decide +kernel
theorem dX5_slotState_22 : decode cX5_slotState 22 = .ok (.aload_n 0, 1) := by decide +kernel
theorem dX5_slotState_23 : decode cX5_slotState 23 = .ok (.getfield 89, 3) := by decide +kernel
theorem dX5_slotState_26 : decode cX5_slotState 26 = .ok (.iload_n 2, 1) := by decide +kernel
theorem dX5_slotState_27 : decode cX5_slotState 27 = .ok (.invokestatic 85, 3) := by decide +kernel
theorem dX5_slotState_30 : decode cX5_slotState 30 = .ok (.ifCond .eq 5, 3) := by decide +kernel
theorem dX5_slotState_33 : decode cX5_slotState 33 = .ok (.iconst 2, 1) := by decide +kernel
theorem dX5_slotState_34 : decode cX5_slotState 34 = .ok (.ireturn, 1) := by decide +kernel
theorem dX5_slotState_35 : decode cX5_slotState 35 = .ok (.aload_n 0, 1) := by decide +kernel
theorem dX5_slotState_36 : decode cX5_slotState 36 = .ok (.getfield 92, 3) := by decide +kernel
theorem dX5_slotState_39 : decode cX5_slotState 39 = .ok (.iconst 2, 1) := by decide +kernel
theorem dX5_slotState_40 : decode cX5_slotState 40 = .ok (.if_icmp .le 7, 3) := by decide +kernel
theorem dX5_slotState_43 : decode cX5_slotState 43 = .ok (.iconst 3, 1) := by decide +kernel
theorem dX5_slotState_44 : decode cX5_slotState 44 = .ok (.goto 19, 3) := by decide +kernel
theorem dX5_slotState_47 : decode cX5_slotState 47 = .ok (.aload_n 0, 1) := by decide +kernel
theorem dX5_slotState_48 : decode cX5_slotState 48 = .ok (.invokevirtual 137, 3) := by decide +kernel
theorem dX5_slotState_51 : decode cX5_slotState 51 = .ok (.iload_n 2, 1) := by decide +kernel
theorem dX5_slotState_52 : decode cX5_slotState 52 = .ok (.invokestatic 85, 3) := by decide +kernel
theorem dX5_slotState_55 : decode cX5_slotState 55 = .ok (.ifCond .eq 7, 3) := by decide +kernel
theorem dX5_slotState_58 : decode cX5_slotState 58 = .ok (.iconst 1, 1) := by decide +kernel
theorem dX5_slotState_59 : decode cX5_slotState 59 = .ok (.goto 4, 3) := by decide +kernel
theorem dX5_slotState_62 : decode cX5_slotState 62 = .ok (.iconst 0, 1) := by decide +kernel
theorem dX5_slotState_63 : decode cX5_slotState 63 = .ok (.ireturn, 1) := by decide +kernel
theorem dX5_missing_0 : decode cX5_missing 0 = .ok (.aload_n 0, 1) := by decide +kernel
theorem dX5_missing_1 : decode cX5_missing 1 = .ok (.aload_n 0, 1) := by decide +kernel
theorem dX5_missing_2 : decode cX5_missing 2 = .ok (.iload_n 1, 1) := by decide +kernel
theorem dX5_missing_3 : decode cX5_missing 3 = .ok (.iload_n 2, 1) := by decide +kernel
theorem dX5_missing_4 : decode cX5_missing 4 = .ok (.invokevirtual 147, 3) := by decide +kernel
theorem dX5_missing_7 : decode cX5_missing 7 = .ok (.iconst 1, 1) := by decide +kernel
theorem dX5_missing_8 : decode cX5_missing 8 = .ok (.iconst 1, 1) := by decide +kernel
theorem dX5_missing_9 : decode cX5_missing 9 = .ok (.invokevirtual 123, 3) := by decide +kernel
theorem dX5_missing_12 : decode cX5_missing 12 = .ok (.ifCond .ne 5, 3) := by decide +kernel
theorem dX5_missing_15 : decode cX5_missing 15 = .ok (.iconst 0, 1) := by decide +kernel
theorem dX5_missing_16 : decode cX5_missing 16 = .ok (.ireturn, 1) := by decide +kernel
theorem dX5_missing_17 : decode cX5_missing 17 = .ok (.aload_n 0, 1) := by decide +kernel
theorem dX5_missing_18 : decode cX5_missing 18 = .ok (.iload_n 1, 1) := by decide +kernel
theorem dX5_missing_19 : decode cX5_missing 19 = .ok (.invokevirtual 109, 3) := by decide +kernel
theorem dX5_missing_22 : decode cX5_missing 22 = .ok (.aload_n 0, 1) := by decide +kernel
theorem dX5_missing_23 : decode cX5_missing 23 = .ok (.getfield 25, 3) := by decide +kernel
theorem dX5_missing_26 : decode cX5_missing 26 = .ok (.bipush 8, 2) := by decide +kernel
theorem dX5_missing_28 : decode cX5_missing 28 = .ok (.iload_n 1, 1) := by decide +kernel
theorem dX5_missing_29 : decode cX5_missing 29 = .ok (.imul, 1) := by decide +kernel
theorem dX5_missing_30 : decode cX5_missing 30 = .ok (.iload_n 2, 1) := by decide +kernel
theorem dX5_missing_31 : decode cX5_missing 31 = .ok (.iadd, 1) := by decide +kernel
theorem dX5_missing_32 : decode cX5_missing 32 = .ok (.iaload, 1) := by decide +kernel
theorem dX5_missing_33 : decode cX5_missing 33 = .ok (.aload_n 0, 1) := by decide +kernel
theorem dX5_missing_34 : decode cX5_missing 34 = .ok (.getfield 89, 3) := by decide +kernel
theorem dX5_missing_37 : decode cX5_missing 37 = .ok (.iconst (-1), 1) := by decide +kernel
theorem dX5_missing_38 : decode cX5_missing 38 = .ok (.ixor, 1) := by decide +kernel
theorem dX5_missing_39 : decode cX5_missing 39 = .ok (.iand, 1) := by decide +kernel
theorem dX5_missing_40 : decode cX5_missing 40 = .ok (.invokestatic 120, 3) := by decide +kernel
theorem dX5_missing_43 : decode cX5_missing 43 = .ok (.ireturn, 1) := by decide +kernel
theorem dX5_share_0 : decode cX5_share 0 = .ok (.aload_n 0, 1) := by decide +kernel
theorem dX5_share_1 : decode cX5_share 1 = .ok (.aload_n 0, 1) := by decide +kernel
theorem dX5_share_2 : decode cX5_share 2 = .ok (.iload_n 1, 1) := by decide +kernel
theorem dX5_share_3 : decode cX5_share 3 = .ok (.invokevirtual 78, 3) := by decide +kernel
theorem dX5_share_6 : decode cX5_share 6 = .ok (.iconst 1, 1) := by decide +kernel
theorem dX5_share_7 : decode cX5_share 7 = .ok (.iconst 1, 1) := by decide +kernel
theorem dX5_share_8 : decode cX5_share 8 = .ok (.invokevirtual 123, 3) := by decide +kernel
theorem dX5_share_11 : decode cX5_share 11 = .ok (.ifCond .eq 12, 3) := by decide +kernel
theorem dX5_share_14 : decode cX5_share 14 = .ok (.aload_n 0, 1) := by decide +kernel
theorem dX5_share_15 : decode cX5_share 15 = .ok (.getfield 7, 3) := by decide +kernel
theorem dX5_share_18 : decode cX5_share 18 = .ok (.iload_n 1, 1) := by decide +kernel
theorem dX5_share_19 : decode cX5_share 19 = .ok (.iaload, 1) := by decide +kernel
theorem dX5_share_20 : decode cX5_share 20 = .ok (.ifCond .ne 5, 3) := by decide +kernel
theorem dX5_share_23 : decode cX5_share 23 = .ok (.fconst 0, 1) := by decide +kernel
theorem dX5_share_24 : decode cX5_share 24 = .ok (.freturn, 1) := by decide +kernel
theorem dX5_share_25 : decode cX5_share 25 = .ok (.aload_n 0, 1) := by decide +kernel
theorem dX5_share_26 : decode cX5_share 26 = .ok (.iload_n 1, 1) := by decide +kernel
theorem dX5_share_27 : decode cX5_share 27 = .ok (.invokevirtual 109, 3) := by decide +kernel
theorem dX5_share_30 : decode cX5_share 30 = .ok (.aload_n 0, 1) := by decide +kernel
theorem dX5_share_31 : decode cX5_share 31 = .ok (.getfield 89, 3) := by decide +kernel
theorem dX5_share_34 : decode cX5_share 34 = .ok (.invokestatic 120, 3) := by decide +kernel
theorem dX5_share_37 : decode cX5_share 37 = .ok (.i2f, 1) := by decide +kernel
theorem dX5_share_38 : decode cX5_share 38 = .ok (.aload_n 0, 1) := by decide +kernel
theorem dX5_share_39 : decode cX5_share 39 = .ok (.getfield 7, 3) := by decide +kernel
theorem dX5_share_42 : decode cX5_share 42 = .ok (.iload_n 1, 1) := by decide +kernel
theorem dX5_share_43 : decode cX5_share 43 = .ok (.iaload, 1) := by decide +kernel
theorem dX5_share_44 : decode cX5_share 44 = .ok (.i2f, 1) := by decide +kernel
theorem dX5_share_45 : decode cX5_share 45 = .ok (.fdiv, 1) := by decide +kernel
theorem dX5_share_46 : decode cX5_share 46 = .ok (.freturn, 1) := by decide +kernel
theorem dX5_reach_0 : decode cX5_reach 0 = .ok (.iload_n 2, 1) := by decide +kernel
theorem dX5_reach_1 : decode cX5_reach 1 = .ok (.istore_n 3, 1) := by decide +kernel
theorem dX5_reach_2 : decode cX5_reach 2 = .ok (.aload_n 0, 1) := by decide +kernel
theorem dX5_reach_3 : decode cX5_reach 3 = .ok (.getfield 7, 3) := by decide +kernel
theorem dX5_reach_6 : decode cX5_reach 6 = .ok (.iload_n 1, 1) := by decide +kernel
theorem dX5_reach_7 : decode cX5_reach 7 = .ok (.iaload, 1) := by decide +kernel
theorem dX5_reach_8 : decode cX5_reach 8 = .ok (.iconst 1, 1) := by decide +kernel
theorem dX5_reach_9 : decode cX5_reach 9 = .ok (.isub, 1) := by decide +kernel
theorem dX5_reach_10 : decode cX5_reach 10 = .ok (.istore 4, 2) := by decide +kernel
theorem dX5_reach_12 : decode cX5_reach 12 = .ok (.iload 4, 2) := by decide +kernel
theorem dX5_reach_14 : decode cX5_reach 14 = .ok (.ifCond .lt 37, 3) := by decide +kernel
theorem dX5_reach_17 : decode cX5_reach 17 = .ok (.iload_n 3, 1) := by decide +kernel
theorem dX5_reach_18 : decode cX5_reach 18 = .ok (.iload_n 3, 1) := by decide +kernel
theorem dX5_reach_19 : decode cX5_reach 19 = .ok (.iload 4, 2) := by decide +kernel
theorem dX5_reach_21 : decode cX5_reach 21 = .ok (.invokestatic 85, 3) := by decide +kernel
theorem dX5_reach_24 : decode cX5_reach 24 = .ok (.ifCond .eq 18, 3) := by decide +kernel
theorem dX5_reach_27 : decode cX5_reach 27 = .ok (.aload_n 0, 1) := by decide +kernel
theorem dX5_reach_28 : decode cX5_reach 28 = .ok (.getfield 25, 3) := by decide +kernel
theorem dX5_reach_31 : decode cX5_reach 31 = .ok (.bipush 8, 2) := by decide +kernel
theorem dX5_reach_33 : decode cX5_reach 33 = .ok (.iload_n 1, 1) := by decide +kernel
theorem dX5_reach_34 : decode cX5_reach 34 = .ok (.imul, 1) := by decide +kernel
theorem dX5_reach_35 : decode cX5_reach 35 = .ok (.iload 4, 2) := by decide +kernel
theorem dX5_reach_37 : decode cX5_reach 37 = .ok (.iadd, 1) := by decide +kernel
theorem dX5_reach_38 : decode cX5_reach 38 = .ok (.iaload, 1) := by decide +kernel
theorem dX5_reach_39 : decode cX5_reach 39 = .ok (.goto 4, 3) := by decide +kernel
theorem dX5_reach_42 : decode cX5_reach 42 = .ok (.iconst 0, 1) := by decide +kernel
theorem dX5_reach_43 : decode cX5_reach 43 = .ok (.ior, 1) := by decide +kernel
theorem dX5_reach_44 : decode cX5_reach 44 = .ok (.istore_n 3, 1) := by decide +kernel
theorem dX5_reach_45 : decode cX5_reach 45 = .ok (.iinc 4 (-1), 3) := by decide +kernel
theorem dX5_reach_48 : decode cX5_reach 48 = .ok (.goto (-36), 3) := by decide +kernel
theorem dX5_reach_51 : decode cX5_reach 51 = .ok (.iload_n 3, 1) := by decide +kernel
theorem dX5_reach_52 : decode cX5_reach 52 = .ok (.ireturn, 1) := by decide +kernel
theorem dX5_ahead_0 : decode cX5_ahead 0 = .ok (.aload_n 0, 1) := by decide +kernel
theorem dX5_ahead_1 : decode cX5_ahead 1 = .ok (.aload_n 0, 1) := by decide +kernel
theorem dX5_ahead_2 : decode cX5_ahead 2 = .ok (.iload_n 1, 1) := by decide +kernel
theorem dX5_ahead_3 : decode cX5_ahead 3 = .ok (.iload_n 2, 1) := by decide +kernel
theorem dX5_ahead_4 : decode cX5_ahead 4 = .ok (.invokevirtual 147, 3) := by decide +kernel
theorem dX5_ahead_7 : decode cX5_ahead 7 = .ok (.iconst 1, 1) := by decide +kernel
theorem dX5_ahead_8 : decode cX5_ahead 8 = .ok (.iconst 1, 1) := by decide +kernel
theorem dX5_ahead_9 : decode cX5_ahead 9 = .ok (.invokevirtual 123, 3) := by decide +kernel
theorem dX5_ahead_12 : decode cX5_ahead 12 = .ok (.ifCond .eq 19, 3) := by decide +kernel
theorem dX5_ahead_15 : decode cX5_ahead 15 = .ok (.aload_n 0, 1) := by decide +kernel
theorem dX5_ahead_16 : decode cX5_ahead 16 = .ok (.iload_n 1, 1) := by decide +kernel
theorem dX5_ahead_17 : decode cX5_ahead 17 = .ok (.iconst 1, 1) := by decide +kernel
theorem dX5_ahead_18 : decode cX5_ahead 18 = .ok (.iload_n 2, 1) := by decide +kernel
theorem dX5_ahead_19 : decode cX5_ahead 19 = .ok (.ishl, 1) := by decide +kernel
theorem dX5_ahead_20 : decode cX5_ahead 20 = .ok (.invokevirtual 169, 3) := by decide +kernel
theorem dX5_ahead_23 : decode cX5_ahead 23 = .ok (.invokestatic 120, 3) := by decide +kernel
theorem dX5_ahead_26 : decode cX5_ahead 26 = .ok (.iconst 1, 1) := by decide +kernel
theorem dX5_ahead_27 : decode cX5_ahead 27 = .ok (.isub, 1) := by decide +kernel
theorem dX5_ahead_28 : decode cX5_ahead 28 = .ok (.goto 4, 3) := by decide +kernel
theorem dX5_ahead_31 : decode cX5_ahead 31 = .ok (.iconst 0, 1) := by decide +kernel
theorem dX5_ahead_32 : decode cX5_ahead 32 = .ok (.ireturn, 1) := by decide +kernel
theorem dX5_roundOf_0 : decode cX5_roundOf 0 = .ok (.aload_n 0, 1) := by decide +kernel
theorem dX5_roundOf_1 : decode cX5_roundOf 1 = .ok (.aload_n 0, 1) := by decide +kernel
theorem dX5_roundOf_2 : decode cX5_roundOf 2 = .ok (.iload_n 1, 1) := by decide +kernel
theorem dX5_roundOf_3 : decode cX5_roundOf 3 = .ok (.iload_n 2, 1) := by decide +kernel
theorem dX5_roundOf_4 : decode cX5_roundOf 4 = .ok (.invokevirtual 147, 3) := by decide +kernel
theorem dX5_roundOf_7 : decode cX5_roundOf 7 = .ok (.iconst 1, 1) := by decide +kernel
theorem dX5_roundOf_8 : decode cX5_roundOf 8 = .ok (.iconst 1, 1) := by decide +kernel
theorem dX5_roundOf_9 : decode cX5_roundOf 9 = .ok (.invokevirtual 123, 3) := by decide +kernel
theorem dX5_roundOf_12 : decode cX5_roundOf 12 = .ok (.ifCond .ne 5, 3) := by decide +kernel
theorem dX5_roundOf_15 : decode cX5_roundOf 15 = .ok (.iconst 0, 1) := by decide +kernel
theorem dX5_roundOf_16 : decode cX5_roundOf 16 = .ok (.ireturn, 1) := by decide +kernel
theorem dX5_roundOf_17 : decode cX5_roundOf 17 = .ok (.aload_n 0, 1) := by decide +kernel
theorem dX5_roundOf_18 : decode cX5_roundOf 18 = .ok (.getfield 25, 3) := by decide +kernel
theorem dX5_roundOf_21 : decode cX5_roundOf 21 = .ok (.bipush 8, 2) := by decide +kernel
theorem dX5_roundOf_23 : decode cX5_roundOf 23 = .ok (.iload_n 1, 1) := by decide +kernel
theorem dX5_roundOf_24 : decode cX5_roundOf 24 = .ok (.imul, 1) := by decide +kernel
theorem dX5_roundOf_25 : decode cX5_roundOf 25 = .ok (.iload_n 2, 1) := by decide +kernel
theorem dX5_roundOf_26 : decode cX5_roundOf 26 = .ok (.iadd, 1) := by decide +kernel
theorem dX5_roundOf_27 : decode cX5_roundOf 27 = .ok (.iaload, 1) := by decide +kernel
theorem dX5_roundOf_28 : decode cX5_roundOf 28 = .ok (.istore_n 3, 1) := by decide +kernel
theorem dX5_roundOf_29 : decode cX5_roundOf 29 = .ok (.iconst 0, 1) := by decide +kernel
theorem dX5_roundOf_30 : decode cX5_roundOf 30 = .ok (.istore 4, 2) := by decide +kernel
theorem dX5_roundOf_32 : decode cX5_roundOf 32 = .ok (.iload_n 3, 1) := by decide +kernel
theorem dX5_roundOf_33 : decode cX5_roundOf 33 = .ok (.ifCond .eq 61, 3) := by decide +kernel
theorem dX5_roundOf_36 : decode cX5_roundOf 36 = .ok (.iconst 0, 1) := by decide +kernel
theorem dX5_roundOf_37 : decode cX5_roundOf 37 = .ok (.istore 5, 2) := by decide +kernel
theorem dX5_roundOf_39 : decode cX5_roundOf 39 = .ok (.iconst 0, 1) := by decide +kernel
theorem dX5_roundOf_40 : decode cX5_roundOf 40 = .ok (.istore 6, 2) := by decide +kernel
theorem dX5_roundOf_42 : decode cX5_roundOf 42 = .ok (.iload 6, 2) := by decide +kernel
theorem dX5_roundOf_44 : decode cX5_roundOf 44 = .ok (.bipush 8, 2) := by decide +kernel
theorem dX5_roundOf_46 : decode cX5_roundOf 46 = .ok (.if_icmp .ge 39, 3) := by decide +kernel
theorem dX5_roundOf_49 : decode cX5_roundOf 49 = .ok (.iload 5, 2) := by decide +kernel
theorem dX5_roundOf_51 : decode cX5_roundOf 51 = .ok (.iload_n 3, 1) := by decide +kernel
theorem dX5_roundOf_52 : decode cX5_roundOf 52 = .ok (.iload 6, 2) := by decide +kernel
theorem dX5_roundOf_54 : decode cX5_roundOf 54 = .ok (.invokestatic 85, 3) := by decide +kernel
theorem dX5_roundOf_57 : decode cX5_roundOf 57 = .ok (.ifCond .eq 18, 3) := by decide +kernel
theorem dX5_roundOf_60 : decode cX5_roundOf 60 = .ok (.aload_n 0, 1) := by decide +kernel
theorem dX5_roundOf_61 : decode cX5_roundOf 61 = .ok (.getfield 25, 3) := by decide +kernel
theorem dX5_roundOf_64 : decode cX5_roundOf 64 = .ok (.bipush 8, 2) := by decide +kernel
theorem dX5_roundOf_66 : decode cX5_roundOf 66 = .ok (.iload_n 1, 1) := by decide +kernel
theorem dX5_roundOf_67 : decode cX5_roundOf 67 = .ok (.imul, 1) := by decide +kernel
theorem dX5_roundOf_68 : decode cX5_roundOf 68 = .ok (.iload 6, 2) := by decide +kernel
theorem dX5_roundOf_70 : decode cX5_roundOf 70 = .ok (.iadd, 1) := by decide +kernel
theorem dX5_roundOf_71 : decode cX5_roundOf 71 = .ok (.iaload, 1) := by decide +kernel
theorem dX5_roundOf_72 : decode cX5_roundOf 72 = .ok (.goto 4, 3) := by decide +kernel
theorem dX5_roundOf_75 : decode cX5_roundOf 75 = .ok (.iconst 0, 1) := by decide +kernel
theorem dX5_roundOf_76 : decode cX5_roundOf 76 = .ok (.ior, 1) := by decide +kernel
theorem dX5_roundOf_77 : decode cX5_roundOf 77 = .ok (.istore 5, 2) := by decide +kernel
theorem dX5_roundOf_79 : decode cX5_roundOf 79 = .ok (.iinc 6 1, 3) := by decide +kernel
theorem dX5_roundOf_82 : decode cX5_roundOf 82 = .ok (.goto (-40), 3) := by decide +kernel
theorem dX5_roundOf_85 : decode cX5_roundOf 85 = .ok (.iload 5, 2) := by decide +kernel
theorem dX5_roundOf_87 : decode cX5_roundOf 87 = .ok (.istore_n 3, 1) := by decide +kernel
theorem dX5_roundOf_88 : decode cX5_roundOf 88 = .ok (.iinc 4 1, 3) := by decide +kernel
theorem dX5_roundOf_91 : decode cX5_roundOf 91 = .ok (.goto (-59), 3) := by decide +kernel
theorem dX5_roundOf_94 : decode cX5_roundOf 94 = .ok (.iload 4, 2) := by decide +kernel
theorem dX5_roundOf_96 : decode cX5_roundOf 96 = .ok (.ireturn, 1) := by decide +kernel
theorem dX5_countsFrom_0 : decode cX5_countsFrom 0 = .ok (.iconst 0, 1) := by decide +kernel
theorem dX5_countsFrom_1 : decode cX5_countsFrom 1 = .ok (.istore_n 3, 1) := by decide +kernel
theorem dX5_countsFrom_2 : decode cX5_countsFrom 2 = .ok (.iload_n 3, 1) := by decide +kernel
theorem dX5_countsFrom_3 : decode cX5_countsFrom 3 = .ok (.sipush 256, 3) := by decide +kernel
theorem dX5_countsFrom_6 : decode cX5_countsFrom 6 = .ok (.if_icmp .ge 25, 3) := by decide +kernel
theorem dX5_countsFrom_9 : decode cX5_countsFrom 9 = .ok (.aload_n 0, 1) := by decide +kernel
theorem dX5_countsFrom_10 : decode cX5_countsFrom 10 = .ok (.getfield 64, 3) := by decide +kernel
theorem dX5_countsFrom_13 : decode cX5_countsFrom 13 = .ok (.iload_n 3, 1) := by decide +kernel
theorem dX5_countsFrom_14 : decode cX5_countsFrom 14 = .ok (.iload_n 3, 1) := by decide +kernel
theorem dX5_countsFrom_15 : decode cX5_countsFrom 15 = .ok (.iload_n 2, 1) := by decide +kernel
theorem dX5_countsFrom_16 : decode cX5_countsFrom 16 = .ok (.if_icmp .ne 7, 3) := by decide +kernel
theorem dX5_countsFrom_19 : decode cX5_countsFrom 19 = .ok (.iconst 1, 1) := by decide +kernel
theorem dX5_countsFrom_20 : decode cX5_countsFrom 20 = .ok (.goto 4, 3) := by decide +kernel
theorem dX5_countsFrom_23 : decode cX5_countsFrom 23 = .ok (.iconst 0, 1) := by decide +kernel
theorem dX5_countsFrom_24 : decode cX5_countsFrom 24 = .ok (.iastore, 1) := by decide +kernel
theorem dX5_countsFrom_25 : decode cX5_countsFrom 25 = .ok (.iinc 3 1, 3) := by decide +kernel
theorem dX5_countsFrom_28 : decode cX5_countsFrom 28 = .ok (.goto (-26), 3) := by decide +kernel
theorem dX5_countsFrom_31 : decode cX5_countsFrom 31 = .ok (.iconst 0, 1) := by decide +kernel
theorem dX5_countsFrom_32 : decode cX5_countsFrom 32 = .ok (.istore_n 3, 1) := by decide +kernel
theorem dX5_countsFrom_33 : decode cX5_countsFrom 33 = .ok (.iload_n 3, 1) := by decide +kernel
theorem dX5_countsFrom_34 : decode cX5_countsFrom 34 = .ok (.sipush 256, 3) := by decide +kernel
theorem dX5_countsFrom_37 : decode cX5_countsFrom 37 = .ok (.if_icmp .ge 102, 3) := by decide +kernel
theorem dX5_countsFrom_40 : decode cX5_countsFrom 40 = .ok (.iconst 0, 1) := by decide +kernel
theorem dX5_countsFrom_41 : decode cX5_countsFrom 41 = .ok (.istore 4, 2) := by decide +kernel
theorem dX5_countsFrom_43 : decode cX5_countsFrom 43 = .ok (.iload 4, 2) := by decide +kernel
theorem dX5_countsFrom_45 : decode cX5_countsFrom 45 = .ok (.aload_n 0, 1) := by decide +kernel
theorem dX5_countsFrom_46 : decode cX5_countsFrom 46 = .ok (.getfield 7, 3) := by decide +kernel
theorem dX5_countsFrom_49 : decode cX5_countsFrom 49 = .ok (.iload_n 1, 1) := by decide +kernel
theorem dX5_countsFrom_50 : decode cX5_countsFrom 50 = .ok (.iaload, 1) := by decide +kernel
theorem dX5_countsFrom_51 : decode cX5_countsFrom 51 = .ok (.if_icmp .ge 82, 3) := by decide +kernel
theorem dX5_countsFrom_54 : decode cX5_countsFrom 54 = .ok (.iload_n 3, 1) := by decide +kernel
theorem dX5_countsFrom_55 : decode cX5_countsFrom 55 = .ok (.iload 4, 2) := by decide +kernel
theorem dX5_countsFrom_57 : decode cX5_countsFrom 57 = .ok (.invokestatic 85, 3) := by decide +kernel
theorem dX5_countsFrom_60 : decode cX5_countsFrom 60 = .ok (.ifCond .ne 26, 3) := by decide +kernel
theorem dX5_countsFrom_63 : decode cX5_countsFrom 63 = .ok (.aload_n 0, 1) := by decide +kernel
theorem dX5_countsFrom_64 : decode cX5_countsFrom 64 = .ok (.getfield 25, 3) := by decide +kernel
theorem dX5_countsFrom_67 : decode cX5_countsFrom 67 = .ok (.bipush 8, 2) := by decide +kernel
theorem dX5_countsFrom_69 : decode cX5_countsFrom 69 = .ok (.iload_n 1, 1) := by decide +kernel
theorem dX5_countsFrom_70 : decode cX5_countsFrom 70 = .ok (.imul, 1) := by decide +kernel
theorem dX5_countsFrom_71 : decode cX5_countsFrom 71 = .ok (.iload 4, 2) := by decide +kernel
theorem dX5_countsFrom_73 : decode cX5_countsFrom 73 = .ok (.iadd, 1) := by decide +kernel
theorem dX5_countsFrom_74 : decode cX5_countsFrom 74 = .ok (.iaload, 1) := by decide +kernel
theorem dX5_countsFrom_75 : decode cX5_countsFrom 75 = .ok (.iload_n 3, 1) := by decide +kernel
theorem dX5_countsFrom_76 : decode cX5_countsFrom 76 = .ok (.iconst (-1), 1) := by decide +kernel
theorem dX5_countsFrom_77 : decode cX5_countsFrom 77 = .ok (.ixor, 1) := by decide +kernel
theorem dX5_countsFrom_78 : decode cX5_countsFrom 78 = .ok (.iand, 1) := by decide +kernel
theorem dX5_countsFrom_79 : decode cX5_countsFrom 79 = .ok (.ifCond .ne 7, 3) := by decide +kernel
theorem dX5_countsFrom_82 : decode cX5_countsFrom 82 = .ok (.iconst 1, 1) := by decide +kernel
theorem dX5_countsFrom_83 : decode cX5_countsFrom 83 = .ok (.goto 4, 3) := by decide +kernel
theorem dX5_countsFrom_86 : decode cX5_countsFrom 86 = .ok (.iconst 0, 1) := by decide +kernel
theorem dX5_countsFrom_87 : decode cX5_countsFrom 87 = .ok (.istore 5, 2) := by decide +kernel
theorem dX5_countsFrom_89 : decode cX5_countsFrom 89 = .ok (.aload_n 0, 1) := by decide +kernel
theorem dX5_countsFrom_90 : decode cX5_countsFrom 90 = .ok (.getfield 64, 3) := by decide +kernel
theorem dX5_countsFrom_93 : decode cX5_countsFrom 93 = .ok (.iload 5, 2) := by decide +kernel
theorem dX5_countsFrom_95 : decode cX5_countsFrom 95 = .ok (.ifCond .eq 12, 3) := by decide +kernel
theorem dX5_countsFrom_98 : decode cX5_countsFrom 98 = .ok (.iload_n 3, 1) := by decide +kernel
theorem dX5_countsFrom_99 : decode cX5_countsFrom 99 = .ok (.iconst 1, 1) := by decide +kernel
theorem dX5_countsFrom_100 : decode cX5_countsFrom 100 = .ok (.iload 4, 2) := by decide +kernel
theorem dX5_countsFrom_102 : decode cX5_countsFrom 102 = .ok (.ishl, 1) := by decide +kernel
theorem dX5_countsFrom_103 : decode cX5_countsFrom 103 = .ok (.ior, 1) := by decide +kernel
theorem dX5_countsFrom_104 : decode cX5_countsFrom 104 = .ok (.goto 4, 3) := by decide +kernel
theorem dX5_countsFrom_107 : decode cX5_countsFrom 107 = .ok (.iload_n 3, 1) := by decide +kernel
theorem dX5_countsFrom_108 : decode cX5_countsFrom 108 = .ok (.dup2, 1) := by decide +kernel
theorem dX5_countsFrom_109 : decode cX5_countsFrom 109 = .ok (.iaload, 1) := by decide +kernel
theorem dX5_countsFrom_110 : decode cX5_countsFrom 110 = .ok (.iload 5, 2) := by decide +kernel
theorem dX5_countsFrom_112 : decode cX5_countsFrom 112 = .ok (.ifCond .eq 12, 3) := by decide +kernel
theorem dX5_countsFrom_115 : decode cX5_countsFrom 115 = .ok (.aload_n 0, 1) := by decide +kernel
theorem dX5_countsFrom_116 : decode cX5_countsFrom 116 = .ok (.getfield 64, 3) := by decide +kernel
theorem dX5_countsFrom_119 : decode cX5_countsFrom 119 = .ok (.iload_n 3, 1) := by decide +kernel
theorem dX5_countsFrom_120 : decode cX5_countsFrom 120 = .ok (.iaload, 1) := by decide +kernel
theorem dX5_countsFrom_121 : decode cX5_countsFrom 121 = .ok (.goto 4, 3) := by decide +kernel
theorem dX5_countsFrom_124 : decode cX5_countsFrom 124 = .ok (.iconst 0, 1) := by decide +kernel
theorem dX5_countsFrom_125 : decode cX5_countsFrom 125 = .ok (.iadd, 1) := by decide +kernel
theorem dX5_countsFrom_126 : decode cX5_countsFrom 126 = .ok (.iastore, 1) := by decide +kernel
theorem dX5_countsFrom_127 : decode cX5_countsFrom 127 = .ok (.iinc 4 1, 3) := by decide +kernel
theorem dX5_countsFrom_130 : decode cX5_countsFrom 130 = .ok (.goto (-87), 3) := by decide +kernel
theorem dX5_countsFrom_133 : decode cX5_countsFrom 133 = .ok (.iinc 3 1, 3) := by decide +kernel
theorem dX5_countsFrom_136 : decode cX5_countsFrom 136 = .ok (.goto (-103), 3) := by decide +kernel
theorem dX5_countsFrom_139 : decode cX5_countsFrom 139 = .ok (.aload_n 0, 1) := by decide +kernel
theorem dX5_countsFrom_140 : decode cX5_countsFrom 140 = .ok (.getfield 64, 3) := by decide +kernel
theorem dX5_countsFrom_143 : decode cX5_countsFrom 143 = .ok (.aload_n 0, 1) := by decide +kernel
theorem dX5_countsFrom_144 : decode cX5_countsFrom 144 = .ok (.iload_n 1, 1) := by decide +kernel
theorem dX5_countsFrom_145 : decode cX5_countsFrom 145 = .ok (.invokevirtual 99, 3) := by decide +kernel
theorem dX5_countsFrom_148 : decode cX5_countsFrom 148 = .ok (.iaload, 1) := by decide +kernel
theorem dX5_countsFrom_149 : decode cX5_countsFrom 149 = .ok (.ireturn, 1) := by decide +kernel
theorem dX5_orders_0 : decode cX5_orders 0 = .ok (.aload_n 0, 1) := by decide +kernel
theorem dX5_orders_1 : decode cX5_orders 1 = .ok (.aload_n 0, 1) := by decide +kernel
theorem dX5_orders_2 : decode cX5_orders 2 = .ok (.iload_n 1, 1) := by decide +kernel
theorem dX5_orders_3 : decode cX5_orders 3 = .ok (.invokevirtual 78, 3) := by decide +kernel
theorem dX5_orders_6 : decode cX5_orders 6 = .ok (.iconst 1, 1) := by decide +kernel
theorem dX5_orders_7 : decode cX5_orders 7 = .ok (.iconst 1, 1) := by decide +kernel
theorem dX5_orders_8 : decode cX5_orders 8 = .ok (.invokevirtual 123, 3) := by decide +kernel
theorem dX5_orders_11 : decode cX5_orders 11 = .ok (.ifCond .eq 12, 3) := by decide +kernel
theorem dX5_orders_14 : decode cX5_orders 14 = .ok (.aload_n 0, 1) := by decide +kernel
theorem dX5_orders_15 : decode cX5_orders 15 = .ok (.iload_n 1, 1) := by decide +kernel
theorem dX5_orders_16 : decode cX5_orders 16 = .ok (.iconst 0, 1) := by decide +kernel
theorem dX5_orders_17 : decode cX5_orders 17 = .ok (.invokevirtual 173, 3) := by decide +kernel
theorem dX5_orders_20 : decode cX5_orders 20 = .ok (.goto 4, 3) := by decide +kernel
theorem dX5_orders_23 : decode cX5_orders 23 = .ok (.iconst 0, 1) := by decide +kernel
theorem dX5_orders_24 : decode cX5_orders 24 = .ok (.ireturn, 1) := by decide +kernel
theorem dX5_ordersByAll_0 : decode cX5_ordersByAll 0 = .ok (.aload_n 0, 1) := by decide +kernel
theorem dX5_ordersByAll_1 : decode cX5_ordersByAll 1 = .ok (.iload_n 1, 1) := by decide +kernel
theorem dX5_ordersByAll_2 : decode cX5_ordersByAll 2 = .ok (.invokevirtual 176, 3) := by decide +kernel
theorem dX5_ordersByAll_5 : decode cX5_ordersByAll 5 = .ok (.ireturn, 1) := by decide +kernel
theorem dX5_ordersLeft_0 : decode cX5_ordersLeft 0 = .ok (.aload_n 0, 1) := by decide +kernel
theorem dX5_ordersLeft_1 : decode cX5_ordersLeft 1 = .ok (.aload_n 0, 1) := by decide +kernel
theorem dX5_ordersLeft_2 : decode cX5_ordersLeft 2 = .ok (.iload_n 1, 1) := by decide +kernel
theorem dX5_ordersLeft_3 : decode cX5_ordersLeft 3 = .ok (.invokevirtual 78, 3) := by decide +kernel
theorem dX5_ordersLeft_6 : decode cX5_ordersLeft 6 = .ok (.iconst 1, 1) := by decide +kernel
theorem dX5_ordersLeft_7 : decode cX5_ordersLeft 7 = .ok (.iconst 1, 1) := by decide +kernel
theorem dX5_ordersLeft_8 : decode cX5_ordersLeft 8 = .ok (.invokevirtual 123, 3) := by decide +kernel
theorem dX5_ordersLeft_11 : decode cX5_ordersLeft 11 = .ok (.ifCond .ne 5, 3) := by decide +kernel
theorem dX5_ordersLeft_14 : decode cX5_ordersLeft 14 = .ok (.iconst 0, 1) := by decide +kernel
theorem dX5_ordersLeft_15 : decode cX5_ordersLeft 15 = .ok (.ireturn, 1) := by decide +kernel
theorem dX5_ordersLeft_16 : decode cX5_ordersLeft 16 = .ok (.aload_n 0, 1) := by decide +kernel
theorem dX5_ordersLeft_17 : decode cX5_ordersLeft 17 = .ok (.iload_n 1, 1) := by decide +kernel
theorem dX5_ordersLeft_18 : decode cX5_ordersLeft 18 = .ok (.invokevirtual 109, 3) := by decide +kernel
theorem dX5_ordersLeft_21 : decode cX5_ordersLeft 21 = .ok (.aload_n 0, 1) := by decide +kernel
theorem dX5_ordersLeft_22 : decode cX5_ordersLeft 22 = .ok (.iload_n 1, 1) := by decide +kernel
theorem dX5_ordersLeft_23 : decode cX5_ordersLeft 23 = .ok (.aload_n 0, 1) := by decide +kernel
theorem dX5_ordersLeft_24 : decode cX5_ordersLeft 24 = .ok (.getfield 89, 3) := by decide +kernel
theorem dX5_ordersLeft_27 : decode cX5_ordersLeft 27 = .ok (.invokevirtual 173, 3) := by decide +kernel
theorem dX5_ordersLeft_30 : decode cX5_ordersLeft 30 = .ok (.ireturn, 1) := by decide +kernel
theorem dX5_events_0 : decode cX5_events 0 = .ok (.aload_n 0, 1) := by decide +kernel
theorem dX5_events_1 : decode cX5_events 1 = .ok (.aload_n 0, 1) := by decide +kernel
theorem dX5_events_2 : decode cX5_events 2 = .ok (.iload_n 1, 1) := by decide +kernel
theorem dX5_events_3 : decode cX5_events 3 = .ok (.invokevirtual 78, 3) := by decide +kernel
theorem dX5_events_6 : decode cX5_events 6 = .ok (.iconst 1, 1) := by decide +kernel
theorem dX5_events_7 : decode cX5_events 7 = .ok (.iconst 1, 1) := by decide +kernel
theorem dX5_events_8 : decode cX5_events 8 = .ok (.invokevirtual 123, 3) := by decide +kernel
theorem dX5_events_11 : decode cX5_events 11 = .ok (.ifCond .eq 12, 3) := by decide +kernel
theorem dX5_events_14 : decode cX5_events 14 = .ok (.aload_n 0, 1) := by decide +kernel
theorem dX5_events_15 : decode cX5_events 15 = .ok (.getfield 19, 3) := by decide +kernel
theorem dX5_events_18 : decode cX5_events 18 = .ok (.iload_n 1, 1) := by decide +kernel
theorem dX5_events_19 : decode cX5_events 19 = .ok (.iaload, 1) := by decide +kernel
theorem dX5_events_20 : decode cX5_events 20 = .ok (.goto 4, 3) := by decide +kernel
theorem dX5_events_23 : decode cX5_events 23 = .ok (.iconst 0, 1) := by decide +kernel
theorem dX5_events_24 : decode cX5_events 24 = .ok (.ireturn, 1) := by decide +kernel
theorem dX5_kindOf_0 : decode cX5_kindOf 0 = .ok (.aload_n 0, 1) := by decide +kernel
theorem dX5_kindOf_1 : decode cX5_kindOf 1 = .ok (.aload_n 0, 1) := by decide +kernel
theorem dX5_kindOf_2 : decode cX5_kindOf 2 = .ok (.iload_n 1, 1) := by decide +kernel
theorem dX5_kindOf_3 : decode cX5_kindOf 3 = .ok (.iload_n 2, 1) := by decide +kernel
theorem dX5_kindOf_4 : decode cX5_kindOf 4 = .ok (.invokevirtual 179, 3) := by decide +kernel
theorem dX5_kindOf_7 : decode cX5_kindOf 7 = .ok (.iconst 1, 1) := by decide +kernel
theorem dX5_kindOf_8 : decode cX5_kindOf 8 = .ok (.iconst 1, 1) := by decide +kernel
theorem dX5_kindOf_9 : decode cX5_kindOf 9 = .ok (.invokevirtual 123, 3) := by decide +kernel
theorem dX5_kindOf_12 : decode cX5_kindOf 12 = .ok (.ifCond .eq 17, 3) := by decide +kernel
theorem dX5_kindOf_15 : decode cX5_kindOf 15 = .ok (.aload_n 0, 1) := by decide +kernel
theorem dX5_kindOf_16 : decode cX5_kindOf 16 = .ok (.getfield 28, 3) := by decide +kernel
theorem dX5_kindOf_19 : decode cX5_kindOf 19 = .ok (.bipush 50, 2) := by decide +kernel
theorem dX5_kindOf_21 : decode cX5_kindOf 21 = .ok (.iload_n 1, 1) := by decide +kernel
theorem dX5_kindOf_22 : decode cX5_kindOf 22 = .ok (.imul, 1) := by decide +kernel
theorem dX5_kindOf_23 : decode cX5_kindOf 23 = .ok (.iload_n 2, 1) := by decide +kernel
theorem dX5_kindOf_24 : decode cX5_kindOf 24 = .ok (.iadd, 1) := by decide +kernel
theorem dX5_kindOf_25 : decode cX5_kindOf 25 = .ok (.iaload, 1) := by decide +kernel
theorem dX5_kindOf_26 : decode cX5_kindOf 26 = .ok (.goto 4, 3) := by decide +kernel
theorem dX5_kindOf_29 : decode cX5_kindOf 29 = .ok (.iconst 0, 1) := by decide +kernel
theorem dX5_kindOf_30 : decode cX5_kindOf 30 = .ok (.ireturn, 1) := by decide +kernel
theorem dX5_personOf_0 : decode cX5_personOf 0 = .ok (.aload_n 0, 1) := by decide +kernel
theorem dX5_personOf_1 : decode cX5_personOf 1 = .ok (.aload_n 0, 1) := by decide +kernel
theorem dX5_personOf_2 : decode cX5_personOf 2 = .ok (.iload_n 1, 1) := by decide +kernel
theorem dX5_personOf_3 : decode cX5_personOf 3 = .ok (.iload_n 2, 1) := by decide +kernel
theorem dX5_personOf_4 : decode cX5_personOf 4 = .ok (.invokevirtual 179, 3) := by decide +kernel
theorem dX5_personOf_7 : decode cX5_personOf 7 = .ok (.iconst 1, 1) := by decide +kernel
theorem dX5_personOf_8 : decode cX5_personOf 8 = .ok (.iconst 1, 1) := by decide +kernel
theorem dX5_personOf_9 : decode cX5_personOf 9 = .ok (.invokevirtual 123, 3) := by decide +kernel
theorem dX5_personOf_12 : decode cX5_personOf 12 = .ok (.ifCond .eq 17, 3) := by decide +kernel
theorem dX5_personOf_15 : decode cX5_personOf 15 = .ok (.aload_n 0, 1) := by decide +kernel
theorem dX5_personOf_16 : decode cX5_personOf 16 = .ok (.getfield 31, 3) := by decide +kernel
theorem dX5_personOf_19 : decode cX5_personOf 19 = .ok (.bipush 50, 2) := by decide +kernel
theorem dX5_personOf_21 : decode cX5_personOf 21 = .ok (.iload_n 1, 1) := by decide +kernel
theorem dX5_personOf_22 : decode cX5_personOf 22 = .ok (.imul, 1) := by decide +kernel
theorem dX5_personOf_23 : decode cX5_personOf 23 = .ok (.iload_n 2, 1) := by decide +kernel
theorem dX5_personOf_24 : decode cX5_personOf 24 = .ok (.iadd, 1) := by decide +kernel
theorem dX5_personOf_25 : decode cX5_personOf 25 = .ok (.iaload, 1) := by decide +kernel
theorem dX5_personOf_26 : decode cX5_personOf 26 = .ok (.goto 4, 3) := by decide +kernel
theorem dX5_personOf_29 : decode cX5_personOf 29 = .ok (.iconst 0, 1) := by decide +kernel
theorem dX5_personOf_30 : decode cX5_personOf 30 = .ok (.ireturn, 1) := by decide +kernel
theorem dX5_dayOf_0 : decode cX5_dayOf 0 = .ok (.aload_n 0, 1) := by decide +kernel
theorem dX5_dayOf_1 : decode cX5_dayOf 1 = .ok (.aload_n 0, 1) := by decide +kernel
theorem dX5_dayOf_2 : decode cX5_dayOf 2 = .ok (.iload_n 1, 1) := by decide +kernel
theorem dX5_dayOf_3 : decode cX5_dayOf 3 = .ok (.iload_n 2, 1) := by decide +kernel
theorem dX5_dayOf_4 : decode cX5_dayOf 4 = .ok (.invokevirtual 179, 3) := by decide +kernel
theorem dX5_dayOf_7 : decode cX5_dayOf 7 = .ok (.iconst 1, 1) := by decide +kernel
theorem dX5_dayOf_8 : decode cX5_dayOf 8 = .ok (.iconst 1, 1) := by decide +kernel
theorem dX5_dayOf_9 : decode cX5_dayOf 9 = .ok (.invokevirtual 123, 3) := by decide +kernel
theorem dX5_dayOf_12 : decode cX5_dayOf 12 = .ok (.ifCond .eq 17, 3) := by decide +kernel
theorem dX5_dayOf_15 : decode cX5_dayOf 15 = .ok (.aload_n 0, 1) := by decide +kernel
theorem dX5_dayOf_16 : decode cX5_dayOf 16 = .ok (.getfield 37, 3) := by decide +kernel
theorem dX5_dayOf_19 : decode cX5_dayOf 19 = .ok (.bipush 50, 2) := by decide +kernel
theorem dX5_dayOf_21 : decode cX5_dayOf 21 = .ok (.iload_n 1, 1) := by decide +kernel
theorem dX5_dayOf_22 : decode cX5_dayOf 22 = .ok (.imul, 1) := by decide +kernel
theorem dX5_dayOf_23 : decode cX5_dayOf 23 = .ok (.iload_n 2, 1) := by decide +kernel
theorem dX5_dayOf_24 : decode cX5_dayOf 24 = .ok (.iadd, 1) := by decide +kernel
theorem dX5_dayOf_25 : decode cX5_dayOf 25 = .ok (.iaload, 1) := by decide +kernel
theorem dX5_dayOf_26 : decode cX5_dayOf 26 = .ok (.goto 4, 3) := by decide +kernel
theorem dX5_dayOf_29 : decode cX5_dayOf 29 = .ok (.iconst 0, 1) := by decide +kernel
theorem dX5_dayOf_30 : decode cX5_dayOf 30 = .ok (.ireturn, 1) := by decide +kernel
theorem dX5_seal_0 : decode cX5_seal 0 = .ok (.aload_n 0, 1) := by decide +kernel
theorem dX5_seal_1 : decode cX5_seal 1 = .ok (.aload_n 0, 1) := by decide +kernel
theorem dX5_seal_2 : decode cX5_seal 2 = .ok (.iload_n 1, 1) := by decide +kernel
theorem dX5_seal_3 : decode cX5_seal 3 = .ok (.iload_n 2, 1) := by decide +kernel
theorem dX5_seal_4 : decode cX5_seal 4 = .ok (.invokevirtual 182, 3) := by decide +kernel
theorem dX5_seal_7 : decode cX5_seal 7 = .ok (.iconst 1, 1) := by decide +kernel
theorem dX5_seal_8 : decode cX5_seal 8 = .ok (.iconst 1, 1) := by decide +kernel
theorem dX5_seal_9 : decode cX5_seal 9 = .ok (.invokevirtual 123, 3) := by decide +kernel
theorem dX5_seal_12 : decode cX5_seal 12 = .ok (.ifCond .ne 5, 3) := by decide +kernel
theorem dX5_seal_15 : decode cX5_seal 15 = .ok (.iconst 0, 1) := by decide +kernel
theorem dX5_seal_16 : decode cX5_seal 16 = .ok (.ireturn, 1) := by decide +kernel
theorem dX5_seal_17 : decode cX5_seal 17 = .ok (.iconst 1, 1) := by decide +kernel
theorem dX5_seal_18 : decode cX5_seal 18 = .ok (.istore_n 3, 1) := by decide +kernel
theorem dX5_seal_19 : decode cX5_seal 19 = .ok (.bipush 50, 2) := by decide +kernel
theorem dX5_seal_21 : decode cX5_seal 21 = .ok (.iload_n 1, 1) := by decide +kernel
theorem dX5_seal_22 : decode cX5_seal 22 = .ok (.imul, 1) := by decide +kernel
theorem dX5_seal_23 : decode cX5_seal 23 = .ok (.istore 4, 2) := by decide +kernel
theorem dX5_seal_25 : decode cX5_seal 25 = .ok (.iload 4, 2) := by decide +kernel
theorem dX5_seal_27 : decode cX5_seal 27 = .ok (.bipush 50, 2) := by decide +kernel
theorem dX5_seal_29 : decode cX5_seal 29 = .ok (.iload_n 1, 1) := by decide +kernel
theorem dX5_seal_30 : decode cX5_seal 30 = .ok (.imul, 1) := by decide +kernel
theorem dX5_seal_31 : decode cX5_seal 31 = .ok (.iload_n 2, 1) := by decide +kernel
theorem dX5_seal_32 : decode cX5_seal 32 = .ok (.iadd, 1) := by decide +kernel
theorem dX5_seal_33 : decode cX5_seal 33 = .ok (.if_icmp .ge 65, 3) := by decide +kernel
theorem dX5_seal_36 : decode cX5_seal 36 = .ok (.bipush 31, 2) := by decide +kernel
theorem dX5_seal_38 : decode cX5_seal 38 = .ok (.iload_n 3, 1) := by decide +kernel
theorem dX5_seal_39 : decode cX5_seal 39 = .ok (.imul, 1) := by decide +kernel
theorem dX5_seal_40 : decode cX5_seal 40 = .ok (.bipush 7, 2) := by decide +kernel
theorem dX5_seal_42 : decode cX5_seal 42 = .ok (.aload_n 0, 1) := by decide +kernel
theorem dX5_seal_43 : decode cX5_seal 43 = .ok (.getfield 28, 3) := by decide +kernel
theorem dX5_seal_46 : decode cX5_seal 46 = .ok (.iload 4, 2) := by decide +kernel
theorem dX5_seal_48 : decode cX5_seal 48 = .ok (.iaload, 1) := by decide +kernel
theorem dX5_seal_49 : decode cX5_seal 49 = .ok (.imul, 1) := by decide +kernel
theorem dX5_seal_50 : decode cX5_seal 50 = .ok (.iadd, 1) := by decide +kernel
theorem dX5_seal_51 : decode cX5_seal 51 = .ok (.bipush 11, 2) := by decide +kernel
theorem dX5_seal_53 : decode cX5_seal 53 = .ok (.aload_n 0, 1) := by decide +kernel
theorem dX5_seal_54 : decode cX5_seal 54 = .ok (.getfield 31, 3) := by decide +kernel
theorem dX5_seal_57 : decode cX5_seal 57 = .ok (.iload 4, 2) := by decide +kernel
theorem dX5_seal_59 : decode cX5_seal 59 = .ok (.iaload, 1) := by decide +kernel
theorem dX5_seal_60 : decode cX5_seal 60 = .ok (.iconst 1, 1) := by decide +kernel
theorem dX5_seal_61 : decode cX5_seal 61 = .ok (.iadd, 1) := by decide +kernel
theorem dX5_seal_62 : decode cX5_seal 62 = .ok (.imul, 1) := by decide +kernel
theorem dX5_seal_63 : decode cX5_seal 63 = .ok (.iadd, 1) := by decide +kernel
theorem dX5_seal_64 : decode cX5_seal 64 = .ok (.bipush 13, 2) := by decide +kernel
theorem dX5_seal_66 : decode cX5_seal 66 = .ok (.aload_n 0, 1) := by decide +kernel
theorem dX5_seal_67 : decode cX5_seal 67 = .ok (.getfield 34, 3) := by decide +kernel
theorem dX5_seal_70 : decode cX5_seal 70 = .ok (.iload 4, 2) := by decide +kernel
theorem dX5_seal_72 : decode cX5_seal 72 = .ok (.iaload, 1) := by decide +kernel
theorem dX5_seal_73 : decode cX5_seal 73 = .ok (.iconst 1, 1) := by decide +kernel
theorem dX5_seal_74 : decode cX5_seal 74 = .ok (.iadd, 1) := by decide +kernel
theorem dX5_seal_75 : decode cX5_seal 75 = .ok (.imul, 1) := by decide +kernel
theorem dX5_seal_76 : decode cX5_seal 76 = .ok (.iadd, 1) := by decide +kernel
theorem dX5_seal_77 : decode cX5_seal 77 = .ok (.bipush 17, 2) := by decide +kernel
theorem dX5_seal_79 : decode cX5_seal 79 = .ok (.aload_n 0, 1) := by decide +kernel
theorem dX5_seal_80 : decode cX5_seal 80 = .ok (.getfield 37, 3) := by decide +kernel
theorem dX5_seal_83 : decode cX5_seal 83 = .ok (.iload 4, 2) := by decide +kernel
theorem dX5_seal_85 : decode cX5_seal 85 = .ok (.iaload, 1) := by decide +kernel
theorem dX5_seal_86 : decode cX5_seal 86 = .ok (.imul, 1) := by decide +kernel
theorem dX5_seal_87 : decode cX5_seal 87 = .ok (.iadd, 1) := by decide +kernel
theorem dX5_seal_88 : decode cX5_seal 88 = .ok (.ldc 185, 2) := by decide +kernel
theorem dX5_seal_90 : decode cX5_seal 90 = .ok (.irem, 1) := by decide +kernel
theorem dX5_seal_91 : decode cX5_seal 91 = .ok (.istore_n 3, 1) := by decide +kernel
theorem dX5_seal_92 : decode cX5_seal 92 = .ok (.iinc 4 1, 3) := by decide +kernel
theorem dX5_seal_95 : decode cX5_seal 95 = .ok (.goto (-70), 3) := by decide +kernel
theorem dX5_seal_98 : decode cX5_seal 98 = .ok (.iload_n 3, 1) := by decide +kernel
theorem dX5_seal_99 : decode cX5_seal 99 = .ok (.ireturn, 1) := by decide +kernel
theorem dX5_stateBehind_0 : decode cX5_stateBehind 0 = .ok (.aload_n 0, 1) := by decide +kernel
theorem dX5_stateBehind_1 : decode cX5_stateBehind 1 = .ok (.aload_n 0, 1) := by decide +kernel
theorem dX5_stateBehind_2 : decode cX5_stateBehind 2 = .ok (.iload_n 1, 1) := by decide +kernel
theorem dX5_stateBehind_3 : decode cX5_stateBehind 3 = .ok (.iload_n 2, 1) := by decide +kernel
theorem dX5_stateBehind_4 : decode cX5_stateBehind 4 = .ok (.invokevirtual 182, 3) := by decide +kernel
theorem dX5_stateBehind_7 : decode cX5_stateBehind 7 = .ok (.iconst 1, 1) := by decide +kernel
theorem dX5_stateBehind_8 : decode cX5_stateBehind 8 = .ok (.iconst 1, 1) := by decide +kernel
theorem dX5_stateBehind_9 : decode cX5_stateBehind 9 = .ok (.invokevirtual 123, 3) := by decide +kernel
theorem dX5_stateBehind_12 : decode cX5_stateBehind 12 = .ok (.ifCond .ne 5, 3) := by decide +kernel
theorem dX5_stateBehind_15 : decode cX5_stateBehind 15 = .ok (.iconst 0, 1) := by decide +kernel
theorem dX5_stateBehind_16 : decode cX5_stateBehind 16 = .ok (.ireturn, 1) := by decide +kernel
theorem dX5_stateBehind_17 : decode cX5_stateBehind 17 = .ok (.aload_n 0, 1) := by decide +kernel
theorem dX5_stateBehind_18 : decode cX5_stateBehind 18 = .ok (.iload_n 1, 1) := by decide +kernel
theorem dX5_stateBehind_19 : decode cX5_stateBehind 19 = .ok (.iload_n 2, 1) := by decide +kernel
theorem dX5_stateBehind_20 : decode cX5_stateBehind 20 = .ok (.invokevirtual 106, 3) := by decide +kernel
theorem dX5_stateBehind_23 : decode cX5_stateBehind 23 = .ok (.aload_n 0, 1) := by decide +kernel
theorem dX5_stateBehind_24 : decode cX5_stateBehind 24 = .ok (.getfield 92, 3) := by decide +kernel
theorem dX5_stateBehind_27 : decode cX5_stateBehind 27 = .ok (.ireturn, 1) := by decide +kernel
theorem dX5_openBehind_0 : decode cX5_openBehind 0 = .ok (.aload_n 0, 1) := by decide +kernel
theorem dX5_openBehind_1 : decode cX5_openBehind 1 = .ok (.aload_n 0, 1) := by decide +kernel
theorem dX5_openBehind_2 : decode cX5_openBehind 2 = .ok (.iload_n 1, 1) := by decide +kernel
theorem dX5_openBehind_3 : decode cX5_openBehind 3 = .ok (.iload_n 2, 1) := by decide +kernel
theorem dX5_openBehind_4 : decode cX5_openBehind 4 = .ok (.invokevirtual 182, 3) := by decide +kernel
theorem dX5_openBehind_7 : decode cX5_openBehind 7 = .ok (.iconst 1, 1) := by decide +kernel
theorem dX5_openBehind_8 : decode cX5_openBehind 8 = .ok (.iconst 1, 1) := by decide +kernel
theorem dX5_openBehind_9 : decode cX5_openBehind 9 = .ok (.invokevirtual 123, 3) := by decide +kernel
theorem dX5_openBehind_12 : decode cX5_openBehind 12 = .ok (.ifCond .ne 5, 3) := by decide +kernel
theorem dX5_openBehind_15 : decode cX5_openBehind 15 = .ok (.iconst 0, 1) := by decide +kernel
theorem dX5_openBehind_16 : decode cX5_openBehind 16 = .ok (.ireturn, 1) := by decide +kernel
theorem dX5_openBehind_17 : decode cX5_openBehind 17 = .ok (.aload_n 0, 1) := by decide +kernel
theorem dX5_openBehind_18 : decode cX5_openBehind 18 = .ok (.iload_n 1, 1) := by decide +kernel
theorem dX5_openBehind_19 : decode cX5_openBehind 19 = .ok (.iload_n 2, 1) := by decide +kernel
theorem dX5_openBehind_20 : decode cX5_openBehind 20 = .ok (.invokevirtual 106, 3) := by decide +kernel
theorem dX5_openBehind_23 : decode cX5_openBehind 23 = .ok (.aload_n 0, 1) := by decide +kernel
theorem dX5_openBehind_24 : decode cX5_openBehind 24 = .ok (.invokevirtual 137, 3) := by decide +kernel
theorem dX5_openBehind_27 : decode cX5_openBehind 27 = .ok (.ireturn, 1) := by decide +kernel
