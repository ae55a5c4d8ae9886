theorem dX8_init_0 : decode cX8_init 0 = .ok (.aload_n 0, 1) := by decide +kernel
theorem dX8_init_1 : decode cX8_init 1 = .ok (.invokespecial 3, 3) := by decide +kernel
theorem dX8_init_4 : decode cX8_init 4 = .ok (.aload_n 0, 1) := by decide +kernel
theorem dX8_init_5 : decode cX8_init 5 = .ok (.aload_n 1, 1) := by decide +kernel
theorem dX8_init_6 : decode cX8_init 6 = .ok (.putfield 9, 3) := by decide +kernel
theorem dX8_init_9 : decode cX8_init 9 = .ok (.aload_n 0, 1) := by decide +kernel
theorem dX8_init_10 : decode cX8_init 10 = .ok (.iload_n 2, 1) := by decide +kernel
theorem dX8_init_11 : decode cX8_init 11 = .ok (.putfield 15, 3) := by decide +kernel
theorem dX8_init_14 : decode cX8_init 14 = .ok (.aload_n 0, 1) := by decide +kernel
theorem dX8_init_15 : decode cX8_init 15 = .ok (.new 19, 3) := by decide +kernel
theorem dX8_init_18 : decode cX8_init 18 = .ok (.dup, 1) := by decide +kernel
theorem dX8_init_19 : decode cX8_init 19 = .ok (.invokespecial 21, 3) := by decide +kernel
theorem dX8_init_22 : decode cX8_init 22 = .ok (.putfield 22, 3) := by decide +kernel
theorem dX8_init_25 : decode cX8_init 25 = .ok (.aload_n 0, 1) := by decide +kernel
theorem dX8_init_26 : decode cX8_init 26 = .ok (.new 26, 3) := by decide +kernel
theorem dX8_init_29 : decode cX8_init 29 = .ok (.dup, 1) := by decide +kernel
theorem dX8_init_30 : decode cX8_init 30 = .ok (.invokespecial 28, 3) := by decide +kernel
theorem dX8_init_33 : decode cX8_init 33 = .ok (.putfield 29, 3) := by decide +kernel
theorem dX8_init_36 : decode cX8_init 36 = .ok (.aload_n 0, 1) := by decide +kernel
theorem dX8_init_37 : decode cX8_init 37 = .ok (.iconst 0, 1) := by decide +kernel
theorem dX8_init_38 : decode cX8_init 38 = .ok (.putfield 33, 3) := by decide +kernel
theorem dX8_init_41 : decode cX8_init 41 = .ok (.return_, 1) := by decide +kernel
theorem dX8_exchange_0 : decode cX8_exchange 0 = .ok (.aload_n 0, 1) := by decide +kernel
theorem dX8_exchange_1 : decode cX8_exchange 1 = .ok (.getfield 29, 3) := by decide +kernel
theorem dX8_exchange_4 : decode cX8_exchange 4 = .ok (.astore_n 2, 1) := by decide +kernel
theorem dX8_exchange_5 : decode cX8_exchange 5 = .ok (.aload_n 0, 1) := by decide +kernel
theorem dX8_exchange_6 : decode cX8_exchange 6 = .ok (.aload_n 1, 1) := by decide +kernel
theorem dX8_exchange_7 : decode cX8_exchange 7 = .ok (.putfield 29, 3) := by decide +kernel
theorem dX8_exchange_10 : decode cX8_exchange 10 = .ok (.aload_n 2, 1) := by decide +kernel
theorem dX8_exchange_11 : decode cX8_exchange 11 = .ok (.areturn, 1) := by decide +kernel
theorem dX8_wrongWord_0 : decode cX8_wrongWord 0 = .ok (.aload_n 0, 1) := by decide +kernel
theorem dX8_wrongWord_1 : decode cX8_wrongWord 1 = .ok (.getfield 22, 3) := by decide +kernel
theorem dX8_wrongWord_4 : decode cX8_wrongWord 4 = .ok (.aload_n 0, 1) := by decide +kernel
theorem dX8_wrongWord_5 : decode cX8_wrongWord 5 = .ok (.getfield 9, 3) := by decide +kernel
theorem dX8_wrongWord_8 : decode cX8_wrongWord 8 = .ok (.invokevirtual 36, 3) := by decide +kernel
theorem dX8_wrongWord_11 : decode cX8_wrongWord 11 = .ok (.aload_n 0, 1) := by decide +kernel
theorem dX8_wrongWord_12 : decode cX8_wrongWord 12 = .ok (.getfield 29, 3) := by decide +kernel
theorem dX8_wrongWord_15 : decode cX8_wrongWord 15 = .ok (.invokevirtual 40, 3) := by decide +kernel
theorem dX8_wrongWord_18 : decode cX8_wrongWord 18 = .ok (.aload_n 0, 1) := by decide +kernel
theorem dX8_wrongWord_19 : decode cX8_wrongWord 19 = .ok (.iconst 0, 1) := by decide +kernel
theorem dX8_wrongWord_20 : decode cX8_wrongWord 20 = .ok (.putfield 33, 3) := by decide +kernel
theorem dX8_wrongWord_23 : decode cX8_wrongWord 23 = .ok (.iconst 0, 1) := by decide +kernel
theorem dX8_wrongWord_24 : decode cX8_wrongWord 24 = .ok (.istore_n 1, 1) := by decide +kernel
theorem dX8_wrongWord_25 : decode cX8_wrongWord 25 = .ok (.iload_n 1, 1) := by decide +kernel
theorem dX8_wrongWord_26 : decode cX8_wrongWord 26 = .ok (.sipush 800, 3) := by decide +kernel
theorem dX8_wrongWord_29 : decode cX8_wrongWord 29 = .ok (.if_icmp .ge 28, 3) := by decide +kernel
theorem dX8_wrongWord_32 : decode cX8_wrongWord 32 = .ok (.aload_n 0, 1) := by decide +kernel
theorem dX8_wrongWord_33 : decode cX8_wrongWord 33 = .ok (.invokevirtual 43, 3) := by decide +kernel
theorem dX8_wrongWord_36 : decode cX8_wrongWord 36 = .ok (.ifCond .ne 21, 3) := by decide +kernel
theorem dX8_wrongWord_39 : decode cX8_wrongWord 39 = .ok (.aload_n 0, 1) := by decide +kernel
theorem dX8_wrongWord_40 : decode cX8_wrongWord 40 = .ok (.invokevirtual 47, 3) := by decide +kernel
theorem dX8_wrongWord_43 : decode cX8_wrongWord 43 = .ok (.ifCond .ne 8, 3) := by decide +kernel
theorem dX8_wrongWord_46 : decode cX8_wrongWord 46 = .ok (.aload_n 0, 1) := by decide +kernel
theorem dX8_wrongWord_47 : decode cX8_wrongWord 47 = .ok (.getfield 33, 3) := by decide +kernel
theorem dX8_wrongWord_50 : decode cX8_wrongWord 50 = .ok (.ireturn, 1) := by decide +kernel
theorem dX8_wrongWord_51 : decode cX8_wrongWord 51 = .ok (.iinc 1 1, 3) := by decide +kernel
theorem dX8_wrongWord_54 : decode cX8_wrongWord 54 = .ok (.goto (-29), 3) := by decide +kernel
theorem dX8_wrongWord_57 : decode cX8_wrongWord 57 = .ok (.iconst (-1), 1) := by decide +kernel
theorem dX8_wrongWord_58 : decode cX8_wrongWord 58 = .ok (.ireturn, 1) := by decide +kernel
theorem dX8_isAtEnd_0 : decode cX8_isAtEnd 0 = .ok (.aload_n 0, 1) := by decide +kernel
theorem dX8_isAtEnd_1 : decode cX8_isAtEnd 1 = .ok (.getfield 22, 3) := by decide +kernel
theorem dX8_isAtEnd_4 : decode cX8_isAtEnd 4 = .ok (.getfield 50, 3) := by decide +kernel
theorem dX8_isAtEnd_7 : decode cX8_isAtEnd 7 = .ok (.aload_n 0, 1) := by decide +kernel
theorem dX8_isAtEnd_8 : decode cX8_isAtEnd 8 = .ok (.getfield 33, 3) := by decide +kernel
theorem dX8_isAtEnd_11 : decode cX8_isAtEnd 11 = .ok (.iaload, 1) := by decide +kernel
theorem dX8_isAtEnd_12 : decode cX8_isAtEnd 12 = .ok (.ifCond .ne 7, 3) := by decide +kernel
theorem dX8_isAtEnd_15 : decode cX8_isAtEnd 15 = .ok (.iconst 1, 1) := by decide +kernel
theorem dX8_isAtEnd_16 : decode cX8_isAtEnd 16 = .ok (.goto 4, 3) := by decide +kernel
theorem dX8_isAtEnd_19 : decode cX8_isAtEnd 19 = .ok (.iconst 0, 1) := by decide +kernel
theorem dX8_isAtEnd_20 : decode cX8_isAtEnd 20 = .ok (.ireturn, 1) := by decide +kernel
theorem dX8_takeSentence_0 : decode cX8_takeSentence 0 = .ok (.aload_n 0, 1) := by decide +kernel
theorem dX8_takeSentence_1 : decode cX8_takeSentence 1 = .ok (.ldc 54, 2) := by decide +kernel
theorem dX8_takeSentence_3 : decode cX8_takeSentence 3 = .ok (.invokevirtual 56, 3) := by decide +kernel
theorem dX8_takeSentence_6 : decode cX8_takeSentence 6 = .ok (.ifCond .eq 28, 3) := by decide +kernel
theorem dX8_takeSentence_9 : decode cX8_takeSentence 9 = .ok (.aload_n 0, 1) := by decide +kernel
theorem dX8_takeSentence_10 : decode cX8_takeSentence 10 = .ok (.getfield 29, 3) := by decide +kernel
theorem dX8_takeSentence_13 : decode cX8_takeSentence 13 = .ok (.getfield 60, 3) := by decide +kernel
theorem dX8_takeSentence_16 : decode cX8_takeSentence 16 = .ok (.bipush 24, 2) := by decide +kernel
theorem dX8_takeSentence_18 : decode cX8_takeSentence 18 = .ok (.if_icmp .ge 14, 3) := by decide +kernel
theorem dX8_takeSentence_21 : decode cX8_takeSentence 21 = .ok (.aload_n 0, 1) := by decide +kernel
theorem dX8_takeSentence_22 : decode cX8_takeSentence 22 = .ok (.invokevirtual 63, 3) := by decide +kernel
theorem dX8_takeSentence_25 : decode cX8_takeSentence 25 = .ok (.ifCond .eq 7, 3) := by decide +kernel
theorem dX8_takeSentence_28 : decode cX8_takeSentence 28 = .ok (.iconst 1, 1) := by decide +kernel
theorem dX8_takeSentence_29 : decode cX8_takeSentence 29 = .ok (.goto 4, 3) := by decide +kernel
theorem dX8_takeSentence_32 : decode cX8_takeSentence 32 = .ok (.iconst 0, 1) := by decide +kernel
theorem dX8_takeSentence_33 : decode cX8_takeSentence 33 = .ok (.ireturn, 1) := by decide +kernel
theorem dX8_takeSentence_34 : decode cX8_takeSentence 34 = .ok (.aload_n 0, 1) := by decide +kernel
theorem dX8_takeSentence_35 : decode cX8_takeSentence 35 = .ok (.ldc 66, 2) := by decide +kernel
theorem dX8_takeSentence_37 : decode cX8_takeSentence 37 = .ok (.invokevirtual 56, 3) := by decide +kernel
theorem dX8_takeSentence_40 : decode cX8_takeSentence 40 = .ok (.ifCond .eq 28, 3) := by decide +kernel
theorem dX8_takeSentence_43 : decode cX8_takeSentence 43 = .ok (.aload_n 0, 1) := by decide +kernel
theorem dX8_takeSentence_44 : decode cX8_takeSentence 44 = .ok (.getfield 29, 3) := by decide +kernel
theorem dX8_takeSentence_47 : decode cX8_takeSentence 47 = .ok (.getfield 60, 3) := by decide +kernel
theorem dX8_takeSentence_50 : decode cX8_takeSentence 50 = .ok (.bipush 24, 2) := by decide +kernel
theorem dX8_takeSentence_52 : decode cX8_takeSentence 52 = .ok (.if_icmp .ge 14, 3) := by decide +kernel
theorem dX8_takeSentence_55 : decode cX8_takeSentence 55 = .ok (.aload_n 0, 1) := by decide +kernel
theorem dX8_takeSentence_56 : decode cX8_takeSentence 56 = .ok (.invokevirtual 68, 3) := by decide +kernel
theorem dX8_takeSentence_59 : decode cX8_takeSentence 59 = .ok (.ifCond .eq 7, 3) := by decide +kernel
theorem dX8_takeSentence_62 : decode cX8_takeSentence 62 = .ok (.iconst 1, 1) := by decide +kernel
theorem dX8_takeSentence_63 : decode cX8_takeSentence 63 = .ok (.goto 4, 3) := by decide +kernel
theorem dX8_takeSentence_66 : decode cX8_takeSentence 66 = .ok (.iconst 0, 1) := by decide +kernel
theorem dX8_takeSentence_67 : decode cX8_takeSentence 67 = .ok (.ireturn, 1) := by decide +kernel
theorem dX8_takeSentence_68 : decode cX8_takeSentence 68 = .ok (.aload_n 0, 1) := by decide +kernel
theorem dX8_takeSentence_69 : decode cX8_takeSentence 69 = .ok (.ldc 71, 2) := by decide +kernel
theorem dX8_takeSentence_71 : decode cX8_takeSentence 71 = .ok (.invokevirtual 56, 3) := by decide +kernel
theorem dX8_takeSentence_74 : decode cX8_takeSentence 74 = .ok (.ifCond .eq 28, 3) := by decide +kernel
theorem dX8_takeSentence_77 : decode cX8_takeSentence 77 = .ok (.aload_n 0, 1) := by decide +kernel
theorem dX8_takeSentence_78 : decode cX8_takeSentence 78 = .ok (.getfield 29, 3) := by decide +kernel
theorem dX8_takeSentence_81 : decode cX8_takeSentence 81 = .ok (.getfield 73, 3) := by decide +kernel
theorem dX8_takeSentence_84 : decode cX8_takeSentence 84 = .ok (.bipush 8, 2) := by decide +kernel
theorem dX8_takeSentence_86 : decode cX8_takeSentence 86 = .ok (.if_icmp .ge 14, 3) := by decide +kernel
theorem dX8_takeSentence_89 : decode cX8_takeSentence 89 = .ok (.aload_n 0, 1) := by decide +kernel
theorem dX8_takeSentence_90 : decode cX8_takeSentence 90 = .ok (.invokevirtual 76, 3) := by decide +kernel
theorem dX8_takeSentence_93 : decode cX8_takeSentence 93 = .ok (.ifCond .eq 7, 3) := by decide +kernel
theorem dX8_takeSentence_96 : decode cX8_takeSentence 96 = .ok (.iconst 1, 1) := by decide +kernel
theorem dX8_takeSentence_97 : decode cX8_takeSentence 97 = .ok (.goto 4, 3) := by decide +kernel
theorem dX8_takeSentence_100 : decode cX8_takeSentence 100 = .ok (.iconst 0, 1) := by decide +kernel
theorem dX8_takeSentence_101 : decode cX8_takeSentence 101 = .ok (.ireturn, 1) := by decide +kernel
theorem dX8_takeSentence_102 : decode cX8_takeSentence 102 = .ok (.aload_n 0, 1) := by decide +kernel
theorem dX8_takeSentence_103 : decode cX8_takeSentence 103 = .ok (.ldc 79, 2) := by decide +kernel
theorem dX8_takeSentence_105 : decode cX8_takeSentence 105 = .ok (.invokevirtual 56, 3) := by decide +kernel
theorem dX8_takeSentence_108 : decode cX8_takeSentence 108 = .ok (.ifCond .eq 28, 3) := by decide +kernel
theorem dX8_takeSentence_111 : decode cX8_takeSentence 111 = .ok (.aload_n 0, 1) := by decide +kernel
theorem dX8_takeSentence_112 : decode cX8_takeSentence 112 = .ok (.getfield 29, 3) := by decide +kernel
theorem dX8_takeSentence_115 : decode cX8_takeSentence 115 = .ok (.getfield 81, 3) := by decide +kernel
theorem dX8_takeSentence_118 : decode cX8_takeSentence 118 = .ok (.bipush 16, 2) := by decide +kernel
theorem dX8_takeSentence_120 : decode cX8_takeSentence 120 = .ok (.if_icmp .ge 14, 3) := by decide +kernel
theorem dX8_takeSentence_123 : decode cX8_takeSentence 123 = .ok (.aload_n 0, 1) := by decide +kernel
theorem dX8_takeSentence_124 : decode cX8_takeSentence 124 = .ok (.invokevirtual 84, 3) := by decide +kernel
theorem dX8_takeSentence_127 : decode cX8_takeSentence 127 = .ok (.ifCond .eq 7, 3) := by decide +kernel
theorem dX8_takeSentence_130 : decode cX8_takeSentence 130 = .ok (.iconst 1, 1) := by decide +kernel
theorem dX8_takeSentence_131 : decode cX8_takeSentence 131 = .ok (.goto 4, 3) := by decide +kernel
theorem dX8_takeSentence_134 : decode cX8_takeSentence 134 = .ok (.iconst 0, 1) := by decide +kernel
theorem dX8_takeSentence_135 : decode cX8_takeSentence 135 = .ok (.ireturn, 1) := by decide +kernel
theorem dX8_takeSentence_136 : decode cX8_takeSentence 136 = .ok (.aload_n 0, 1) := by decide +kernel
theorem dX8_takeSentence_137 : decode cX8_takeSentence 137 = .ok (.ldc 87, 2) := by decide +kernel
theorem dX8_takeSentence_139 : decode cX8_takeSentence 139 = .ok (.invokevirtual 56, 3) := by decide +kernel
theorem dX8_takeSentence_142 : decode cX8_takeSentence 142 = .ok (.ifCond .eq 26, 3) := by decide +kernel
theorem dX8_takeSentence_145 : decode cX8_takeSentence 145 = .ok (.aload_n 0, 1) := by decide +kernel
theorem dX8_takeSentence_146 : decode cX8_takeSentence 146 = .ok (.getfield 29, 3) := by decide +kernel
theorem dX8_takeSentence_149 : decode cX8_takeSentence 149 = .ok (.getfield 89, 3) := by decide +kernel
theorem dX8_takeSentence_152 : decode cX8_takeSentence 152 = .ok (.bipush 8, 2) := by decide +kernel
theorem dX8_takeSentence_154 : decode cX8_takeSentence 154 = .ok (.if_icmp .ge 14, 3) := by decide +kernel
theorem dX8_takeSentence_157 : decode cX8_takeSentence 157 = .ok (.aload_n 0, 1) := by decide +kernel
theorem dX8_takeSentence_158 : decode cX8_takeSentence 158 = .ok (.invokevirtual 92, 3) := by decide +kernel
theorem dX8_takeSentence_161 : decode cX8_takeSentence 161 = .ok (.ifCond .eq 7, 3) := by decide +kernel
theorem dX8_takeSentence_164 : decode cX8_takeSentence 164 = .ok (.iconst 1, 1) := by decide +kernel
theorem dX8_takeSentence_165 : decode cX8_takeSentence 165 = .ok (.goto 4, 3) := by decide +kernel
theorem dX8_takeSentence_168 : decode cX8_takeSentence 168 = .ok (.iconst 0, 1) := by decide +kernel
theorem dX8_takeSentence_169 : decode cX8_takeSentence 169 = .ok (.ireturn, 1) := by decide +kernel
theorem dX8_takeInputSentence_0 : decode cX8_takeInputSentence 0 = .ok (.aload_n 0, 1) := by decide +kernel
theorem dX8_takeInputSentence_1 : decode cX8_takeInputSentence 1 = .ok (.dup, 1) := by decide +kernel
theorem dX8_takeInputSentence_2 : decode cX8_takeInputSentence 2 = .ok (.getfield 33, 3) := by decide +kernel
theorem dX8_takeInputSentence_5 : decode cX8_takeInputSentence 5 = .ok (.iconst 1, 1) := by decide +kernel
theorem dX8_takeInputSentence_6 : decode cX8_takeInputSentence 6 = .ok (.iadd, 1) := by decide +kernel
theorem dX8_takeInputSentence_7 : decode cX8_takeInputSentence 7 = .ok (.putfield 33, 3) := by decide +kernel
theorem dX8_takeInputSentence_10 : decode cX8_takeInputSentence 10 = .ok (.aload_n 0, 1) := by decide +kernel
theorem dX8_takeInputSentence_11 : decode cX8_takeInputSentence 11 = .ok (.invokevirtual 95, 3) := by decide +kernel
theorem dX8_takeInputSentence_14 : decode cX8_takeInputSentence 14 = .ok (.lstore_n 1, 1) := by decide +kernel
theorem dX8_takeInputSentence_15 : decode cX8_takeInputSentence 15 = .ok (.lload_n 1, 1) := by decide +kernel
theorem dX8_takeInputSentence_16 : decode cX8_takeInputSentence 16 = .ok (.ldc2_w 99, 3) := by decide +kernel
theorem dX8_takeInputSentence_19 : decode cX8_takeInputSentence 19 = .ok (.lcmp, 1) := by decide +kernel
theorem dX8_takeInputSentence_20 : decode cX8_takeInputSentence 20 = .ok (.ifCond .eq 12, 3) := by decide +kernel
theorem dX8_takeInputSentence_23 : decode cX8_takeInputSentence 23 = .ok (.aload_n 0, 1) := by decide +kernel
theorem dX8_takeInputSentence_24 : decode cX8_takeInputSentence 24 = .ok (.bipush 61, 2) := by decide +kernel
theorem dX8_takeInputSentence_26 : decode cX8_takeInputSentence 26 = .ok (.invokevirtual 101, 3) := by decide +kernel
theorem dX8_takeInputSentence_29 : decode cX8_takeInputSentence 29 = .ok (.ifCond .ne 5, 3) := by decide +kernel
theorem dX8_takeInputSentence_32 : decode cX8_takeInputSentence 32 = .ok (.iconst 0, 1) := by decide +kernel
theorem dX8_takeInputSentence_33 : decode cX8_takeInputSentence 33 = .ok (.ireturn, 1) := by decide +kernel
theorem dX8_takeInputSentence_34 : decode cX8_takeInputSentence 34 = .ok (.aload_n 0, 1) := by decide +kernel
theorem dX8_takeInputSentence_35 : decode cX8_takeInputSentence 35 = .ok (.invokevirtual 105, 3) := by decide +kernel
theorem dX8_takeInputSentence_38 : decode cX8_takeInputSentence 38 = .ok (.istore_n 3, 1) := by decide +kernel
theorem dX8_takeInputSentence_39 : decode cX8_takeInputSentence 39 = .ok (.iload_n 3, 1) := by decide +kernel
theorem dX8_takeInputSentence_40 : decode cX8_takeInputSentence 40 = .ok (.iconst (-1), 1) := by decide +kernel
theorem dX8_takeInputSentence_41 : decode cX8_takeInputSentence 41 = .ok (.if_icmp .eq 12, 3) := by decide +kernel
theorem dX8_takeInputSentence_44 : decode cX8_takeInputSentence 44 = .ok (.aload_n 0, 1) := by decide +kernel
theorem dX8_takeInputSentence_45 : decode cX8_takeInputSentence 45 = .ok (.bipush 59, 2) := by decide +kernel
theorem dX8_takeInputSentence_47 : decode cX8_takeInputSentence 47 = .ok (.invokevirtual 101, 3) := by decide +kernel
theorem dX8_takeInputSentence_50 : decode cX8_takeInputSentence 50 = .ok (.ifCond .ne 5, 3) := by decide +kernel
theorem dX8_takeInputSentence_53 : decode cX8_takeInputSentence 53 = .ok (.iconst 0, 1) := by decide +kernel
theorem dX8_takeInputSentence_54 : decode cX8_takeInputSentence 54 = .ok (.ireturn, 1) := by decide +kernel
theorem dX8_takeInputSentence_55 : decode cX8_takeInputSentence 55 = .ok (.aload_n 0, 1) := by decide +kernel
theorem dX8_takeInputSentence_56 : decode cX8_takeInputSentence 56 = .ok (.getfield 29, 3) := by decide +kernel
theorem dX8_takeInputSentence_59 : decode cX8_takeInputSentence 59 = .ok (.lload_n 1, 1) := by decide +kernel
theorem dX8_takeInputSentence_60 : decode cX8_takeInputSentence 60 = .ok (.iconst 0, 1) := by decide +kernel
theorem dX8_takeInputSentence_61 : decode cX8_takeInputSentence 61 = .ok (.iload_n 3, 1) := by decide +kernel
theorem dX8_takeInputSentence_62 : decode cX8_takeInputSentence 62 = .ok (.iconst (-1), 1) := by decide +kernel
theorem dX8_takeInputSentence_63 : decode cX8_takeInputSentence 63 = .ok (.invokevirtual 109, 3) := by decide +kernel
theorem dX8_takeInputSentence_66 : decode cX8_takeInputSentence 66 = .ok (.iconst 1, 1) := by decide +kernel
theorem dX8_takeInputSentence_67 : decode cX8_takeInputSentence 67 = .ok (.ireturn, 1) := by decide +kernel
theorem dX8_takeMakeSentence_0 : decode cX8_takeMakeSentence 0 = .ok (.aload_n 0, 1) := by decide +kernel
theorem dX8_takeMakeSentence_1 : decode cX8_takeMakeSentence 1 = .ok (.dup, 1) := by decide +kernel
theorem dX8_takeMakeSentence_2 : decode cX8_takeMakeSentence 2 = .ok (.getfield 33, 3) := by decide +kernel
theorem dX8_takeMakeSentence_5 : decode cX8_takeMakeSentence 5 = .ok (.iconst 1, 1) := by decide +kernel
theorem dX8_takeMakeSentence_6 : decode cX8_takeMakeSentence 6 = .ok (.iadd, 1) := by decide +kernel
theorem dX8_takeMakeSentence_7 : decode cX8_takeMakeSentence 7 = .ok (.putfield 33, 3) := by decide +kernel
theorem dX8_takeMakeSentence_10 : decode cX8_takeMakeSentence 10 = .ok (.aload_n 0, 1) := by decide +kernel
theorem dX8_takeMakeSentence_11 : decode cX8_takeMakeSentence 11 = .ok (.invokevirtual 95, 3) := by decide +kernel
theorem dX8_takeMakeSentence_14 : decode cX8_takeMakeSentence 14 = .ok (.lstore_n 1, 1) := by decide +kernel
theorem dX8_takeMakeSentence_15 : decode cX8_takeMakeSentence 15 = .ok (.lload_n 1, 1) := by decide +kernel
theorem dX8_takeMakeSentence_16 : decode cX8_takeMakeSentence 16 = .ok (.ldc2_w 99, 3) := by decide +kernel
theorem dX8_takeMakeSentence_19 : decode cX8_takeMakeSentence 19 = .ok (.lcmp, 1) := by decide +kernel
theorem dX8_takeMakeSentence_20 : decode cX8_takeMakeSentence 20 = .ok (.ifCond .eq 12, 3) := by decide +kernel
theorem dX8_takeMakeSentence_23 : decode cX8_takeMakeSentence 23 = .ok (.aload_n 0, 1) := by decide +kernel
theorem dX8_takeMakeSentence_24 : decode cX8_takeMakeSentence 24 = .ok (.bipush 61, 2) := by decide +kernel
theorem dX8_takeMakeSentence_26 : decode cX8_takeMakeSentence 26 = .ok (.invokevirtual 101, 3) := by decide +kernel
theorem dX8_takeMakeSentence_29 : decode cX8_takeMakeSentence 29 = .ok (.ifCond .ne 5, 3) := by decide +kernel
theorem dX8_takeMakeSentence_32 : decode cX8_takeMakeSentence 32 = .ok (.iconst 0, 1) := by decide +kernel
theorem dX8_takeMakeSentence_33 : decode cX8_takeMakeSentence 33 = .ok (.ireturn, 1) := by decide +kernel
theorem dX8_takeMakeSentence_34 : decode cX8_takeMakeSentence 34 = .ok (.aload_n 0, 1) := by decide +kernel
theorem dX8_takeMakeSentence_35 : decode cX8_takeMakeSentence 35 = .ok (.invokevirtual 113, 3) := by decide +kernel
theorem dX8_takeMakeSentence_38 : decode cX8_takeMakeSentence 38 = .ok (.istore_n 3, 1) := by decide +kernel
theorem dX8_takeMakeSentence_39 : decode cX8_takeMakeSentence 39 = .ok (.iload_n 3, 1) := by decide +kernel
theorem dX8_takeMakeSentence_40 : decode cX8_takeMakeSentence 40 = .ok (.iconst (-1), 1) := by decide +kernel
theorem dX8_takeMakeSentence_41 : decode cX8_takeMakeSentence 41 = .ok (.if_icmp .ne 5, 3) := by decide +kernel
theorem dX8_takeMakeSentence_44 : decode cX8_takeMakeSentence 44 = .ok (.iconst 0, 1) := by decide +kernel
theorem dX8_takeMakeSentence_45 : decode cX8_takeMakeSentence 45 = .ok (.ireturn, 1) := by decide +kernel
theorem dX8_takeMakeSentence_46 : decode cX8_takeMakeSentence 46 = .ok (.aload_n 0, 1) := by decide +kernel
theorem dX8_takeMakeSentence_47 : decode cX8_takeMakeSentence 47 = .ok (.invokevirtual 116, 3) := by decide +kernel
theorem dX8_takeMakeSentence_50 : decode cX8_takeMakeSentence 50 = .ok (.istore 4, 2) := by decide +kernel
theorem dX8_takeMakeSentence_52 : decode cX8_takeMakeSentence 52 = .ok (.iload 4, 2) := by decide +kernel
theorem dX8_takeMakeSentence_54 : decode cX8_takeMakeSentence 54 = .ok (.iconst (-1), 1) := by decide +kernel
theorem dX8_takeMakeSentence_55 : decode cX8_takeMakeSentence 55 = .ok (.if_icmp .ne 5, 3) := by decide +kernel
theorem dX8_takeMakeSentence_58 : decode cX8_takeMakeSentence 58 = .ok (.iconst 0, 1) := by decide +kernel
theorem dX8_takeMakeSentence_59 : decode cX8_takeMakeSentence 59 = .ok (.ireturn, 1) := by decide +kernel
theorem dX8_takeMakeSentence_60 : decode cX8_takeMakeSentence 60 = .ok (.aload_n 0, 1) := by decide +kernel
theorem dX8_takeMakeSentence_61 : decode cX8_takeMakeSentence 61 = .ok (.invokevirtual 113, 3) := by decide +kernel
theorem dX8_takeMakeSentence_64 : decode cX8_takeMakeSentence 64 = .ok (.istore 5, 2) := by decide +kernel
theorem dX8_takeMakeSentence_66 : decode cX8_takeMakeSentence 66 = .ok (.iload 5, 2) := by decide +kernel
theorem dX8_takeMakeSentence_68 : decode cX8_takeMakeSentence 68 = .ok (.iconst (-1), 1) := by decide +kernel
theorem dX8_takeMakeSentence_69 : decode cX8_takeMakeSentence 69 = .ok (.if_icmp .eq 12, 3) := by decide +kernel
theorem dX8_takeMakeSentence_72 : decode cX8_takeMakeSentence 72 = .ok (.aload_n 0, 1) := by decide +kernel
theorem dX8_takeMakeSentence_73 : decode cX8_takeMakeSentence 73 = .ok (.bipush 59, 2) := by decide +kernel
theorem dX8_takeMakeSentence_75 : decode cX8_takeMakeSentence 75 = .ok (.invokevirtual 101, 3) := by decide +kernel
theorem dX8_takeMakeSentence_78 : decode cX8_takeMakeSentence 78 = .ok (.ifCond .ne 5, 3) := by decide +kernel
theorem dX8_takeMakeSentence_81 : decode cX8_takeMakeSentence 81 = .ok (.iconst 0, 1) := by decide +kernel
theorem dX8_takeMakeSentence_82 : decode cX8_takeMakeSentence 82 = .ok (.ireturn, 1) := by decide +kernel
theorem dX8_takeMakeSentence_83 : decode cX8_takeMakeSentence 83 = .ok (.aload_n 0, 1) := by decide +kernel
theorem dX8_takeMakeSentence_84 : decode cX8_takeMakeSentence 84 = .ok (.getfield 29, 3) := by decide +kernel
theorem dX8_takeMakeSentence_87 : decode cX8_takeMakeSentence 87 = .ok (.lload_n 1, 1) := by decide +kernel
theorem dX8_takeMakeSentence_88 : decode cX8_takeMakeSentence 88 = .ok (.iload 4, 2) := by decide +kernel
theorem dX8_takeMakeSentence_90 : decode cX8_takeMakeSentence 90 = .ok (.iload_n 3, 1) := by decide +kernel
theorem dX8_takeMakeSentence_91 : decode cX8_takeMakeSentence 91 = .ok (.iload 5, 2) := by decide +kernel
theorem dX8_takeMakeSentence_93 : decode cX8_takeMakeSentence 93 = .ok (.invokevirtual 109, 3) := by decide +kernel
theorem dX8_takeMakeSentence_96 : decode cX8_takeMakeSentence 96 = .ok (.iconst 1, 1) := by decide +kernel
theorem dX8_takeMakeSentence_97 : decode cX8_takeMakeSentence 97 = .ok (.ireturn, 1) := by decide +kernel
theorem dX8_takeWireSentence_0 : decode cX8_takeWireSentence 0 = .ok (.aload_n 0, 1) := by decide +kernel
theorem dX8_takeWireSentence_1 : decode cX8_takeWireSentence 1 = .ok (.dup, 1) := by decide +kernel
theorem dX8_takeWireSentence_2 : decode cX8_takeWireSentence 2 = .ok (.getfield 33, 3) := by decide +kernel
theorem dX8_takeWireSentence_5 : decode cX8_takeWireSentence 5 = .ok (.iconst 1, 1) := by decide +kernel
theorem dX8_takeWireSentence_6 : decode cX8_takeWireSentence 6 = .ok (.iadd, 1) := by decide +kernel
theorem dX8_takeWireSentence_7 : decode cX8_takeWireSentence 7 = .ok (.putfield 33, 3) := by decide +kernel
theorem dX8_takeWireSentence_10 : decode cX8_takeWireSentence 10 = .ok (.aload_n 0, 1) := by decide +kernel
theorem dX8_takeWireSentence_11 : decode cX8_takeWireSentence 11 = .ok (.invokevirtual 119, 3) := by decide +kernel
theorem dX8_takeWireSentence_14 : decode cX8_takeWireSentence 14 = .ok (.istore_n 1, 1) := by decide +kernel
theorem dX8_takeWireSentence_15 : decode cX8_takeWireSentence 15 = .ok (.iload_n 1, 1) := by decide +kernel
theorem dX8_takeWireSentence_16 : decode cX8_takeWireSentence 16 = .ok (.iconst (-1), 1) := by decide +kernel
theorem dX8_takeWireSentence_17 : decode cX8_takeWireSentence 17 = .ok (.if_icmp .eq 15, 3) := by decide +kernel
theorem dX8_takeWireSentence_20 : decode cX8_takeWireSentence 20 = .ok (.aload_n 0, 1) := by decide +kernel
theorem dX8_takeWireSentence_21 : decode cX8_takeWireSentence 21 = .ok (.getfield 29, 3) := by decide +kernel
theorem dX8_takeWireSentence_24 : decode cX8_takeWireSentence 24 = .ok (.iload_n 1, 1) := by decide +kernel
theorem dX8_takeWireSentence_25 : decode cX8_takeWireSentence 25 = .ok (.invokevirtual 122, 3) := by decide +kernel
theorem dX8_takeWireSentence_28 : decode cX8_takeWireSentence 28 = .ok (.iconst (-1), 1) := by decide +kernel
theorem dX8_takeWireSentence_29 : decode cX8_takeWireSentence 29 = .ok (.if_icmp .eq 5, 3) := by decide +kernel
theorem dX8_takeWireSentence_32 : decode cX8_takeWireSentence 32 = .ok (.iconst 0, 1) := by decide +kernel
theorem dX8_takeWireSentence_33 : decode cX8_takeWireSentence 33 = .ok (.ireturn, 1) := by decide +kernel
theorem dX8_takeWireSentence_34 : decode cX8_takeWireSentence 34 = .ok (.aload_n 0, 1) := by decide +kernel
theorem dX8_takeWireSentence_35 : decode cX8_takeWireSentence 35 = .ok (.dup, 1) := by decide +kernel
theorem dX8_takeWireSentence_36 : decode cX8_takeWireSentence 36 = .ok (.getfield 33, 3) := by decide +kernel
theorem dX8_takeWireSentence_39 : decode cX8_takeWireSentence 39 = .ok (.iconst 1, 1) := by decide +kernel
theorem dX8_takeWireSentence_40 : decode cX8_takeWireSentence 40 = .ok (.iadd, 1) := by decide +kernel
theorem dX8_takeWireSentence_41 : decode cX8_takeWireSentence 41 = .ok (.putfield 33, 3) := by decide +kernel
theorem dX8_takeWireSentence_44 : decode cX8_takeWireSentence 44 = .ok (.aload_n 0, 1) := by decide +kernel
theorem dX8_takeWireSentence_45 : decode cX8_takeWireSentence 45 = .ok (.bipush 59, 2) := by decide +kernel
theorem dX8_takeWireSentence_47 : decode cX8_takeWireSentence 47 = .ok (.invokevirtual 101, 3) := by decide +kernel
theorem dX8_takeWireSentence_50 : decode cX8_takeWireSentence 50 = .ok (.ifCond .ne 5, 3) := by decide +kernel
theorem dX8_takeWireSentence_53 : decode cX8_takeWireSentence 53 = .ok (.iconst 0, 1) := by decide +kernel
theorem dX8_takeWireSentence_54 : decode cX8_takeWireSentence 54 = .ok (.ireturn, 1) := by decide +kernel
theorem dX8_takeWireSentence_55 : decode cX8_takeWireSentence 55 = .ok (.aload_n 0, 1) := by decide +kernel
theorem dX8_takeWireSentence_56 : decode cX8_takeWireSentence 56 = .ok (.getfield 29, 3) := by decide +kernel
theorem dX8_takeWireSentence_59 : decode cX8_takeWireSentence 59 = .ok (.iload_n 1, 1) := by decide +kernel
theorem dX8_takeWireSentence_60 : decode cX8_takeWireSentence 60 = .ok (.invokevirtual 126, 3) := by decide +kernel
theorem dX8_takeWireSentence_63 : decode cX8_takeWireSentence 63 = .ok (.iconst 1, 1) := by decide +kernel
theorem dX8_takeWireSentence_64 : decode cX8_takeWireSentence 64 = .ok (.ireturn, 1) := by decide +kernel
theorem dX8_takeJoinSentence_0 : decode cX8_takeJoinSentence 0 = .ok (.aload_n 0, 1) := by decide +kernel
theorem dX8_takeJoinSentence_1 : decode cX8_takeJoinSentence 1 = .ok (.dup, 1) := by decide +kernel
theorem dX8_takeJoinSentence_2 : decode cX8_takeJoinSentence 2 = .ok (.getfield 33, 3) := by decide +kernel
theorem dX8_takeJoinSentence_5 : decode cX8_takeJoinSentence 5 = .ok (.iconst 1, 1) := by decide +kernel
theorem dX8_takeJoinSentence_6 : decode cX8_takeJoinSentence 6 = .ok (.iadd, 1) := by decide +kernel
theorem dX8_takeJoinSentence_7 : decode cX8_takeJoinSentence 7 = .ok (.putfield 33, 3) := by decide +kernel
theorem dX8_takeJoinSentence_10 : decode cX8_takeJoinSentence 10 = .ok (.aload_n 0, 1) := by decide +kernel
theorem dX8_takeJoinSentence_11 : decode cX8_takeJoinSentence 11 = .ok (.invokevirtual 130, 3) := by decide +kernel
theorem dX8_takeJoinSentence_14 : decode cX8_takeJoinSentence 14 = .ok (.istore_n 1, 1) := by decide +kernel
theorem dX8_takeJoinSentence_15 : decode cX8_takeJoinSentence 15 = .ok (.iload_n 1, 1) := by decide +kernel
theorem dX8_takeJoinSentence_16 : decode cX8_takeJoinSentence 16 = .ok (.iconst (-1), 1) := by decide +kernel
theorem dX8_takeJoinSentence_17 : decode cX8_takeJoinSentence 17 = .ok (.if_icmp .ne 5, 3) := by decide +kernel
theorem dX8_takeJoinSentence_20 : decode cX8_takeJoinSentence 20 = .ok (.iconst 0, 1) := by decide +kernel
theorem dX8_takeJoinSentence_21 : decode cX8_takeJoinSentence 21 = .ok (.ireturn, 1) := by decide +kernel
theorem dX8_takeJoinSentence_22 : decode cX8_takeJoinSentence 22 = .ok (.aload_n 0, 1) := by decide +kernel
theorem dX8_takeJoinSentence_23 : decode cX8_takeJoinSentence 23 = .ok (.invokevirtual 130, 3) := by decide +kernel
theorem dX8_takeJoinSentence_26 : decode cX8_takeJoinSentence 26 = .ok (.istore_n 2, 1) := by decide +kernel
theorem dX8_takeJoinSentence_27 : decode cX8_takeJoinSentence 27 = .ok (.iload_n 2, 1) := by decide +kernel
theorem dX8_takeJoinSentence_28 : decode cX8_takeJoinSentence 28 = .ok (.iconst (-1), 1) := by decide +kernel
theorem dX8_takeJoinSentence_29 : decode cX8_takeJoinSentence 29 = .ok (.if_icmp .eq 12, 3) := by decide +kernel
theorem dX8_takeJoinSentence_32 : decode cX8_takeJoinSentence 32 = .ok (.aload_n 0, 1) := by decide +kernel
theorem dX8_takeJoinSentence_33 : decode cX8_takeJoinSentence 33 = .ok (.ldc 133, 2) := by decide +kernel
theorem dX8_takeJoinSentence_35 : decode cX8_takeJoinSentence 35 = .ok (.invokevirtual 135, 3) := by decide +kernel
theorem dX8_takeJoinSentence_38 : decode cX8_takeJoinSentence 38 = .ok (.ifCond .ne 5, 3) := by decide +kernel
theorem dX8_takeJoinSentence_41 : decode cX8_takeJoinSentence 41 = .ok (.iconst 0, 1) := by decide +kernel
theorem dX8_takeJoinSentence_42 : decode cX8_takeJoinSentence 42 = .ok (.ireturn, 1) := by decide +kernel
theorem dX8_takeJoinSentence_43 : decode cX8_takeJoinSentence 43 = .ok (.aload_n 0, 1) := by decide +kernel
theorem dX8_takeJoinSentence_44 : decode cX8_takeJoinSentence 44 = .ok (.invokevirtual 113, 3) := by decide +kernel
theorem dX8_takeJoinSentence_47 : decode cX8_takeJoinSentence 47 = .ok (.istore_n 3, 1) := by decide +kernel
theorem dX8_takeJoinSentence_48 : decode cX8_takeJoinSentence 48 = .ok (.iload_n 3, 1) := by decide +kernel
theorem dX8_takeJoinSentence_49 : decode cX8_takeJoinSentence 49 = .ok (.iconst (-1), 1) := by decide +kernel
theorem dX8_takeJoinSentence_50 : decode cX8_takeJoinSentence 50 = .ok (.if_icmp .eq 12, 3) := by decide +kernel
theorem dX8_takeJoinSentence_53 : decode cX8_takeJoinSentence 53 = .ok (.aload_n 0, 1) := by decide +kernel
theorem dX8_takeJoinSentence_54 : decode cX8_takeJoinSentence 54 = .ok (.bipush 59, 2) := by decide +kernel
theorem dX8_takeJoinSentence_56 : decode cX8_takeJoinSentence 56 = .ok (.invokevirtual 101, 3) := by decide +kernel
theorem dX8_takeJoinSentence_59 : decode cX8_takeJoinSentence 59 = .ok (.ifCond .ne 5, 3) := by decide +kernel
theorem dX8_takeJoinSentence_62 : decode cX8_takeJoinSentence 62 = .ok (.iconst 0, 1) := by decide +kernel
theorem dX8_takeJoinSentence_63 : decode cX8_takeJoinSentence 63 = .ok (.ireturn, 1) := by decide +kernel
theorem dX8_takeJoinSentence_64 : decode cX8_takeJoinSentence 64 = .ok (.aload_n 0, 1) := by decide +kernel
theorem dX8_takeJoinSentence_65 : decode cX8_takeJoinSentence 65 = .ok (.getfield 29, 3) := by decide +kernel
theorem dX8_takeJoinSentence_68 : decode cX8_takeJoinSentence 68 = .ok (.iload_n 1, 1) := by decide +kernel
theorem dX8_takeJoinSentence_69 : decode cX8_takeJoinSentence 69 = .ok (.iload_n 2, 1) := by decide +kernel
theorem dX8_takeJoinSentence_70 : decode cX8_takeJoinSentence 70 = .ok (.iload_n 3, 1) := by decide +kernel
theorem dX8_takeJoinSentence_71 : decode cX8_takeJoinSentence 71 = .ok (.invokevirtual 138, 3) := by decide +kernel
theorem dX8_takeJoinSentence_74 : decode cX8_takeJoinSentence 74 = .ok (.iconst 1, 1) := by decide +kernel
theorem dX8_takeJoinSentence_75 : decode cX8_takeJoinSentence 75 = .ok (.ireturn, 1) := by decide +kernel
theorem dX8_takeDeviceSentence_0 : decode cX8_takeDeviceSentence 0 = .ok (.aload_n 0, 1) := by decide +kernel
theorem dX8_takeDeviceSentence_1 : decode cX8_takeDeviceSentence 1 = .ok (.dup, 1) := by decide +kernel
theorem dX8_takeDeviceSentence_2 : decode cX8_takeDeviceSentence 2 = .ok (.getfield 33, 3) := by decide +kernel
theorem dX8_takeDeviceSentence_5 : decode cX8_takeDeviceSentence 5 = .ok (.iconst 1, 1) := by decide +kernel
theorem dX8_takeDeviceSentence_6 : decode cX8_takeDeviceSentence 6 = .ok (.iadd, 1) := by decide +kernel
theorem dX8_takeDeviceSentence_7 : decode cX8_takeDeviceSentence 7 = .ok (.putfield 33, 3) := by decide +kernel
theorem dX8_takeDeviceSentence_10 : decode cX8_takeDeviceSentence 10 = .ok (.aload_n 0, 1) := by decide +kernel
theorem dX8_takeDeviceSentence_11 : decode cX8_takeDeviceSentence 11 = .ok (.invokevirtual 142, 3) := by decide +kernel
theorem dX8_takeDeviceSentence_14 : decode cX8_takeDeviceSentence 14 = .ok (.lstore_n 1, 1) := by decide +kernel
theorem dX8_takeDeviceSentence_15 : decode cX8_takeDeviceSentence 15 = .ok (.lload_n 1, 1) := by decide +kernel
theorem dX8_takeDeviceSentence_16 : decode cX8_takeDeviceSentence 16 = .ok (.ldc2_w 99, 3) := by decide +kernel
theorem dX8_takeDeviceSentence_19 : decode cX8_takeDeviceSentence 19 = .ok (.lcmp, 1) := by decide +kernel
theorem dX8_takeDeviceSentence_20 : decode cX8_takeDeviceSentence 20 = .ok (.ifCond .eq 12, 3) := by decide +kernel
theorem dX8_takeDeviceSentence_23 : decode cX8_takeDeviceSentence 23 = .ok (.aload_n 0, 1) := by decide +kernel
theorem dX8_takeDeviceSentence_24 : decode cX8_takeDeviceSentence 24 = .ok (.bipush 61, 2) := by decide +kernel
theorem dX8_takeDeviceSentence_26 : decode cX8_takeDeviceSentence 26 = .ok (.invokevirtual 101, 3) := by decide +kernel
theorem dX8_takeDeviceSentence_29 : decode cX8_takeDeviceSentence 29 = .ok (.ifCond .ne 5, 3) := by decide +kernel
theorem dX8_takeDeviceSentence_32 : decode cX8_takeDeviceSentence 32 = .ok (.iconst 0, 1) := by decide +kernel
theorem dX8_takeDeviceSentence_33 : decode cX8_takeDeviceSentence 33 = .ok (.ireturn, 1) := by decide +kernel
theorem dX8_takeDeviceSentence_34 : decode cX8_takeDeviceSentence 34 = .ok (.aload_n 0, 1) := by decide +kernel
theorem dX8_takeDeviceSentence_35 : decode cX8_takeDeviceSentence 35 = .ok (.invokevirtual 113, 3) := by decide +kernel
theorem dX8_takeDeviceSentence_38 : decode cX8_takeDeviceSentence 38 = .ok (.istore_n 3, 1) := by decide +kernel
theorem dX8_takeDeviceSentence_39 : decode cX8_takeDeviceSentence 39 = .ok (.iload_n 3, 1) := by decide +kernel
theorem dX8_takeDeviceSentence_40 : decode cX8_takeDeviceSentence 40 = .ok (.iconst (-1), 1) := by decide +kernel
theorem dX8_takeDeviceSentence_41 : decode cX8_takeDeviceSentence 41 = .ok (.if_icmp .eq 12, 3) := by decide +kernel
theorem dX8_takeDeviceSentence_44 : decode cX8_takeDeviceSentence 44 = .ok (.aload_n 0, 1) := by decide +kernel
theorem dX8_takeDeviceSentence_45 : decode cX8_takeDeviceSentence 45 = .ok (.ldc 145, 2) := by decide +kernel
theorem dX8_takeDeviceSentence_47 : decode cX8_takeDeviceSentence 47 = .ok (.invokevirtual 135, 3) := by decide +kernel
theorem dX8_takeDeviceSentence_50 : decode cX8_takeDeviceSentence 50 = .ok (.ifCond .ne 5, 3) := by decide +kernel
theorem dX8_takeDeviceSentence_53 : decode cX8_takeDeviceSentence 53 = .ok (.iconst 0, 1) := by decide +kernel
theorem dX8_takeDeviceSentence_54 : decode cX8_takeDeviceSentence 54 = .ok (.ireturn, 1) := by decide +kernel
theorem dX8_takeDeviceSentence_55 : decode cX8_takeDeviceSentence 55 = .ok (.aload_n 0, 1) := by decide +kernel
theorem dX8_takeDeviceSentence_56 : decode cX8_takeDeviceSentence 56 = .ok (.invokevirtual 147, 3) := by decide +kernel
theorem dX8_takeDeviceSentence_59 : decode cX8_takeDeviceSentence 59 = .ok (.istore 4, 2) := by decide +kernel
theorem dX8_takeDeviceSentence_61 : decode cX8_takeDeviceSentence 61 = .ok (.iload 4, 2) := by decide +kernel
theorem dX8_takeDeviceSentence_63 : decode cX8_takeDeviceSentence 63 = .ok (.ifCond .eq 12, 3) := by decide +kernel
theorem dX8_takeDeviceSentence_66 : decode cX8_takeDeviceSentence 66 = .ok (.aload_n 0, 1) := by decide +kernel
theorem dX8_takeDeviceSentence_67 : decode cX8_takeDeviceSentence 67 = .ok (.bipush 59, 2) := by decide +kernel
theorem dX8_takeDeviceSentence_69 : decode cX8_takeDeviceSentence 69 = .ok (.invokevirtual 101, 3) := by decide +kernel
theorem dX8_takeDeviceSentence_72 : decode cX8_takeDeviceSentence 72 = .ok (.ifCond .ne 5, 3) := by decide +kernel
theorem dX8_takeDeviceSentence_75 : decode cX8_takeDeviceSentence 75 = .ok (.iconst 0, 1) := by decide +kernel
theorem dX8_takeDeviceSentence_76 : decode cX8_takeDeviceSentence 76 = .ok (.ireturn, 1) := by decide +kernel
theorem dX8_takeDeviceSentence_77 : decode cX8_takeDeviceSentence 77 = .ok (.aload_n 0, 1) := by decide +kernel
theorem dX8_takeDeviceSentence_78 : decode cX8_takeDeviceSentence 78 = .ok (.getfield 29, 3) := by decide +kernel
theorem dX8_takeDeviceSentence_81 : decode cX8_takeDeviceSentence 81 = .ok (.lload_n 1, 1) := by decide +kernel
theorem dX8_takeDeviceSentence_82 : decode cX8_takeDeviceSentence 82 = .ok (.iload_n 3, 1) := by decide +kernel
theorem dX8_takeDeviceSentence_83 : decode cX8_takeDeviceSentence 83 = .ok (.iload 4, 2) := by decide +kernel
theorem dX8_takeDeviceSentence_85 : decode cX8_takeDeviceSentence 85 = .ok (.invokevirtual 150, 3) := by decide +kernel
theorem dX8_takeDeviceSentence_88 : decode cX8_takeDeviceSentence 88 = .ok (.iconst 1, 1) := by decide +kernel
theorem dX8_takeDeviceSentence_89 : decode cX8_takeDeviceSentence 89 = .ok (.ireturn, 1) := by decide +kernel
theorem dX8_takePins_0 : decode cX8_takePins 0 = .ok (.iconst 0, 1) := by decide +kernel
theorem dX8_takePins_1 : decode cX8_takePins 1 = .ok (.istore_n 1, 1) := by decide +kernel
theorem dX8_takePins_2 : decode cX8_takePins 2 = .ok (.iload_n 1, 1) := by decide +kernel
theorem dX8_takePins_3 : decode cX8_takePins 3 = .ok (.iconst 4, 1) := by decide +kernel
theorem dX8_takePins_4 : decode cX8_takePins 4 = .ok (.if_icmp .ge 41, 3) := by decide +kernel
theorem dX8_takePins_7 : decode cX8_takePins 7 = .ok (.aload_n 0, 1) := by decide +kernel
theorem dX8_takePins_8 : decode cX8_takePins 8 = .ok (.invokevirtual 130, 3) := by decide +kernel
theorem dX8_takePins_11 : decode cX8_takePins 11 = .ok (.istore_n 2, 1) := by decide +kernel
theorem dX8_takePins_12 : decode cX8_takePins 12 = .ok (.iload_n 2, 1) := by decide +kernel
theorem dX8_takePins_13 : decode cX8_takePins 13 = .ok (.iconst (-1), 1) := by decide +kernel
theorem dX8_takePins_14 : decode cX8_takePins 14 = .ok (.if_icmp .ne 5, 3) := by decide +kernel
theorem dX8_takePins_17 : decode cX8_takePins 17 = .ok (.iload_n 1, 1) := by decide +kernel
theorem dX8_takePins_18 : decode cX8_takePins 18 = .ok (.ireturn, 1) := by decide +kernel
theorem dX8_takePins_19 : decode cX8_takePins 19 = .ok (.aload_n 0, 1) := by decide +kernel
theorem dX8_takePins_20 : decode cX8_takePins 20 = .ok (.getfield 29, 3) := by decide +kernel
theorem dX8_takePins_23 : decode cX8_takePins 23 = .ok (.getfield 154, 3) := by decide +kernel
theorem dX8_takePins_26 : decode cX8_takePins 26 = .ok (.aload_n 0, 1) := by decide +kernel
theorem dX8_takePins_27 : decode cX8_takePins 27 = .ok (.getfield 29, 3) := by decide +kernel
theorem dX8_takePins_30 : decode cX8_takePins 30 = .ok (.getfield 89, 3) := by decide +kernel
theorem dX8_takePins_33 : decode cX8_takePins 33 = .ok (.iconst 4, 1) := by decide +kernel
theorem dX8_takePins_34 : decode cX8_takePins 34 = .ok (.imul, 1) := by decide +kernel
theorem dX8_takePins_35 : decode cX8_takePins 35 = .ok (.iload_n 1, 1) := by decide +kernel
theorem dX8_takePins_36 : decode cX8_takePins 36 = .ok (.iadd, 1) := by decide +kernel
theorem dX8_takePins_37 : decode cX8_takePins 37 = .ok (.iload_n 2, 1) := by decide +kernel
theorem dX8_takePins_38 : decode cX8_takePins 38 = .ok (.iastore, 1) := by decide +kernel
theorem dX8_takePins_39 : decode cX8_takePins 39 = .ok (.iinc 1 1, 3) := by decide +kernel
theorem dX8_takePins_42 : decode cX8_takePins 42 = .ok (.goto (-40), 3) := by decide +kernel
theorem dX8_takePins_45 : decode cX8_takePins 45 = .ok (.iconst 4, 1) := by decide +kernel
theorem dX8_takePins_46 : decode cX8_takePins 46 = .ok (.ireturn, 1) := by decide +kernel
theorem dX8_takeNewLayer_0 : decode cX8_takeNewLayer 0 = .ok (.aload_n 0, 1) := by decide +kernel
theorem dX8_takeNewLayer_1 : decode cX8_takeNewLayer 1 = .ok (.getfield 22, 3) := by decide +kernel
theorem dX8_takeNewLayer_4 : decode cX8_takeNewLayer 4 = .ok (.getfield 50, 3) := by decide +kernel
theorem dX8_takeNewLayer_7 : decode cX8_takeNewLayer 7 = .ok (.aload_n 0, 1) := by decide +kernel
theorem dX8_takeNewLayer_8 : decode cX8_takeNewLayer 8 = .ok (.getfield 33, 3) := by decide +kernel
theorem dX8_takeNewLayer_11 : decode cX8_takeNewLayer 11 = .ok (.iaload, 1) := by decide +kernel
theorem dX8_takeNewLayer_12 : decode cX8_takeNewLayer 12 = .ok (.iconst 1, 1) := by decide +kernel
theorem dX8_takeNewLayer_13 : decode cX8_takeNewLayer 13 = .ok (.if_icmp .ne 26, 3) := by decide +kernel
theorem dX8_takeNewLayer_16 : decode cX8_takeNewLayer 16 = .ok (.aload_n 0, 1) := by decide +kernel
theorem dX8_takeNewLayer_17 : decode cX8_takeNewLayer 17 = .ok (.getfield 29, 3) := by decide +kernel
theorem dX8_takeNewLayer_20 : decode cX8_takeNewLayer 20 = .ok (.aload_n 0, 1) := by decide +kernel
theorem dX8_takeNewLayer_21 : decode cX8_takeNewLayer 21 = .ok (.getfield 22, 3) := by decide +kernel
theorem dX8_takeNewLayer_24 : decode cX8_takeNewLayer 24 = .ok (.getfield 157, 3) := by decide +kernel
theorem dX8_takeNewLayer_27 : decode cX8_takeNewLayer 27 = .ok (.aload_n 0, 1) := by decide +kernel
theorem dX8_takeNewLayer_28 : decode cX8_takeNewLayer 28 = .ok (.getfield 33, 3) := by decide +kernel
theorem dX8_takeNewLayer_31 : decode cX8_takeNewLayer 31 = .ok (.laload, 1) := by decide +kernel
theorem dX8_takeNewLayer_32 : decode cX8_takeNewLayer 32 = .ok (.invokevirtual 161, 3) := by decide +kernel
theorem dX8_takeNewLayer_35 : decode cX8_takeNewLayer 35 = .ok (.iconst (-1), 1) := by decide +kernel
theorem dX8_takeNewLayer_36 : decode cX8_takeNewLayer 36 = .ok (.if_icmp .eq 7, 3) := by decide +kernel
theorem dX8_takeNewLayer_39 : decode cX8_takeNewLayer 39 = .ok (.ldc2_w 99, 3) := by decide +kernel
theorem dX8_takeNewLayer_42 : decode cX8_takeNewLayer 42 = .ok (.lreturn, 1) := by decide +kernel
theorem dX8_takeNewLayer_43 : decode cX8_takeNewLayer 43 = .ok (.aload_n 0, 1) := by decide +kernel
theorem dX8_takeNewLayer_44 : decode cX8_takeNewLayer 44 = .ok (.dup, 1) := by decide +kernel
theorem dX8_takeNewLayer_45 : decode cX8_takeNewLayer 45 = .ok (.getfield 33, 3) := by decide +kernel
theorem dX8_takeNewLayer_48 : decode cX8_takeNewLayer 48 = .ok (.iconst 1, 1) := by decide +kernel
theorem dX8_takeNewLayer_49 : decode cX8_takeNewLayer 49 = .ok (.iadd, 1) := by decide +kernel
theorem dX8_takeNewLayer_50 : decode cX8_takeNewLayer 50 = .ok (.putfield 33, 3) := by decide +kernel
theorem dX8_takeNewLayer_53 : decode cX8_takeNewLayer 53 = .ok (.aload_n 0, 1) := by decide +kernel
theorem dX8_takeNewLayer_54 : decode cX8_takeNewLayer 54 = .ok (.getfield 22, 3) := by decide +kernel
theorem dX8_takeNewLayer_57 : decode cX8_takeNewLayer 57 = .ok (.getfield 157, 3) := by decide +kernel
theorem dX8_takeNewLayer_60 : decode cX8_takeNewLayer 60 = .ok (.aload_n 0, 1) := by decide +kernel
theorem dX8_takeNewLayer_61 : decode cX8_takeNewLayer 61 = .ok (.getfield 33, 3) := by decide +kernel
theorem dX8_takeNewLayer_64 : decode cX8_takeNewLayer 64 = .ok (.iconst 1, 1) := by decide +kernel
theorem dX8_takeNewLayer_65 : decode cX8_takeNewLayer 65 = .ok (.isub, 1) := by decide +kernel
theorem dX8_takeNewLayer_66 : decode cX8_takeNewLayer 66 = .ok (.laload, 1) := by decide +kernel
theorem dX8_takeNewLayer_67 : decode cX8_takeNewLayer 67 = .ok (.lreturn, 1) := by decide +kernel
theorem dX8_takeNewKind_0 : decode cX8_takeNewKind 0 = .ok (.aload_n 0, 1) := by decide +kernel
theorem dX8_takeNewKind_1 : decode cX8_takeNewKind 1 = .ok (.getfield 22, 3) := by decide +kernel
theorem dX8_takeNewKind_4 : decode cX8_takeNewKind 4 = .ok (.getfield 50, 3) := by decide +kernel
theorem dX8_takeNewKind_7 : decode cX8_takeNewKind 7 = .ok (.aload_n 0, 1) := by decide +kernel
theorem dX8_takeNewKind_8 : decode cX8_takeNewKind 8 = .ok (.getfield 33, 3) := by decide +kernel
theorem dX8_takeNewKind_11 : decode cX8_takeNewKind 11 = .ok (.iaload, 1) := by decide +kernel
theorem dX8_takeNewKind_12 : decode cX8_takeNewKind 12 = .ok (.iconst 1, 1) := by decide +kernel
theorem dX8_takeNewKind_13 : decode cX8_takeNewKind 13 = .ok (.if_icmp .ne 25, 3) := by decide +kernel
theorem dX8_takeNewKind_16 : decode cX8_takeNewKind 16 = .ok (.aload_n 0, 1) := by decide +kernel
theorem dX8_takeNewKind_17 : decode cX8_takeNewKind 17 = .ok (.getfield 29, 3) := by decide +kernel
theorem dX8_takeNewKind_20 : decode cX8_takeNewKind 20 = .ok (.aload_n 0, 1) := by decide +kernel
theorem dX8_takeNewKind_21 : decode cX8_takeNewKind 21 = .ok (.getfield 22, 3) := by decide +kernel
theorem dX8_takeNewKind_24 : decode cX8_takeNewKind 24 = .ok (.getfield 157, 3) := by decide +kernel
theorem dX8_takeNewKind_27 : decode cX8_takeNewKind 27 = .ok (.aload_n 0, 1) := by decide +kernel
theorem dX8_takeNewKind_28 : decode cX8_takeNewKind 28 = .ok (.getfield 33, 3) := by decide +kernel
theorem dX8_takeNewKind_31 : decode cX8_takeNewKind 31 = .ok (.laload, 1) := by decide +kernel
theorem dX8_takeNewKind_32 : decode cX8_takeNewKind 32 = .ok (.invokevirtual 165, 3) := by decide +kernel
theorem dX8_takeNewKind_35 : decode cX8_takeNewKind 35 = .ok (.ifCond .eq 7, 3) := by decide +kernel
theorem dX8_takeNewKind_38 : decode cX8_takeNewKind 38 = .ok (.ldc2_w 99, 3) := by decide +kernel
theorem dX8_takeNewKind_41 : decode cX8_takeNewKind 41 = .ok (.lreturn, 1) := by decide +kernel
theorem dX8_takeNewKind_42 : decode cX8_takeNewKind 42 = .ok (.aload_n 0, 1) := by decide +kernel
theorem dX8_takeNewKind_43 : decode cX8_takeNewKind 43 = .ok (.dup, 1) := by decide +kernel
theorem dX8_takeNewKind_44 : decode cX8_takeNewKind 44 = .ok (.getfield 33, 3) := by decide +kernel
theorem dX8_takeNewKind_47 : decode cX8_takeNewKind 47 = .ok (.iconst 1, 1) := by decide +kernel
theorem dX8_takeNewKind_48 : decode cX8_takeNewKind 48 = .ok (.iadd, 1) := by decide +kernel
theorem dX8_takeNewKind_49 : decode cX8_takeNewKind 49 = .ok (.putfield 33, 3) := by decide +kernel
theorem dX8_takeNewKind_52 : decode cX8_takeNewKind 52 = .ok (.aload_n 0, 1) := by decide +kernel
theorem dX8_takeNewKind_53 : decode cX8_takeNewKind 53 = .ok (.getfield 22, 3) := by decide +kernel
theorem dX8_takeNewKind_56 : decode cX8_takeNewKind 56 = .ok (.getfield 157, 3) := by decide +kernel
theorem dX8_takeNewKind_59 : decode cX8_takeNewKind 59 = .ok (.aload_n 0, 1) := by decide +kernel
theorem dX8_takeNewKind_60 : decode cX8_takeNewKind 60 = .ok (.getfield 33, 3) := by decide +kernel
theorem dX8_takeNewKind_63 : decode cX8_takeNewKind 63 = .ok (.iconst 1, 1) := by decide +kernel
theorem dX8_takeNewKind_64 : decode cX8_takeNewKind 64 = .ok (.isub, 1) := by decide +kernel
theorem dX8_takeNewKind_65 : decode cX8_takeNewKind 65 = .ok (.laload, 1) := by decide +kernel
theorem dX8_takeNewKind_66 : decode cX8_takeNewKind 66 = .ok (.lreturn, 1) := by decide +kernel
theorem dX8_takeLayer_0 : decode cX8_takeLayer 0 = .ok (.aload_n 0, 1) := by decide +kernel
theorem dX8_takeLayer_1 : decode cX8_takeLayer 1 = .ok (.invokevirtual 119, 3) := by decide +kernel
theorem dX8_takeLayer_4 : decode cX8_takeLayer 4 = .ok (.istore_n 1, 1) := by decide +kernel
theorem dX8_takeLayer_5 : decode cX8_takeLayer 5 = .ok (.iload_n 1, 1) := by decide +kernel
theorem dX8_takeLayer_6 : decode cX8_takeLayer 6 = .ok (.iconst (-1), 1) := by decide +kernel
theorem dX8_takeLayer_7 : decode cX8_takeLayer 7 = .ok (.if_icmp .eq 13, 3) := by decide +kernel
theorem dX8_takeLayer_10 : decode cX8_takeLayer 10 = .ok (.aload_n 0, 1) := by decide +kernel
theorem dX8_takeLayer_11 : decode cX8_takeLayer 11 = .ok (.dup, 1) := by decide +kernel
theorem dX8_takeLayer_12 : decode cX8_takeLayer 12 = .ok (.getfield 33, 3) := by decide +kernel
theorem dX8_takeLayer_15 : decode cX8_takeLayer 15 = .ok (.iconst 1, 1) := by decide +kernel
theorem dX8_takeLayer_16 : decode cX8_takeLayer 16 = .ok (.iadd, 1) := by decide +kernel
theorem dX8_takeLayer_17 : decode cX8_takeLayer 17 = .ok (.putfield 33, 3) := by decide +kernel
theorem dX8_takeLayer_20 : decode cX8_takeLayer 20 = .ok (.iload_n 1, 1) := by decide +kernel
theorem dX8_takeLayer_21 : decode cX8_takeLayer 21 = .ok (.ireturn, 1) := by decide +kernel
theorem dX8_takeWire_0 : decode cX8_takeWire 0 = .ok (.aload_n 0, 1) := by decide +kernel
theorem dX8_takeWire_1 : decode cX8_takeWire 1 = .ok (.invokevirtual 119, 3) := by decide +kernel
theorem dX8_takeWire_4 : decode cX8_takeWire 4 = .ok (.istore_n 1, 1) := by decide +kernel
theorem dX8_takeWire_5 : decode cX8_takeWire 5 = .ok (.iload_n 1, 1) := by decide +kernel
theorem dX8_takeWire_6 : decode cX8_takeWire 6 = .ok (.iconst (-1), 1) := by decide +kernel
theorem dX8_takeWire_7 : decode cX8_takeWire 7 = .ok (.if_icmp .ne 7, 3) := by decide +kernel
theorem dX8_takeWire_10 : decode cX8_takeWire 10 = .ok (.iconst (-1), 1) := by decide +kernel
theorem dX8_takeWire_11 : decode cX8_takeWire 11 = .ok (.goto 11, 3) := by decide +kernel
theorem dX8_takeWire_14 : decode cX8_takeWire 14 = .ok (.aload_n 0, 1) := by decide +kernel
theorem dX8_takeWire_15 : decode cX8_takeWire 15 = .ok (.getfield 29, 3) := by decide +kernel
theorem dX8_takeWire_18 : decode cX8_takeWire 18 = .ok (.iload_n 1, 1) := by decide +kernel
theorem dX8_takeWire_19 : decode cX8_takeWire 19 = .ok (.invokevirtual 122, 3) := by decide +kernel
theorem dX8_takeWire_22 : decode cX8_takeWire 22 = .ok (.istore_n 2, 1) := by decide +kernel
theorem dX8_takeWire_23 : decode cX8_takeWire 23 = .ok (.iload_n 2, 1) := by decide +kernel
theorem dX8_takeWire_24 : decode cX8_takeWire 24 = .ok (.iconst (-1), 1) := by decide +kernel
theorem dX8_takeWire_25 : decode cX8_takeWire 25 = .ok (.if_icmp .eq 13, 3) := by decide +kernel
theorem dX8_takeWire_28 : decode cX8_takeWire 28 = .ok (.aload_n 0, 1) := by decide +kernel
theorem dX8_takeWire_29 : decode cX8_takeWire 29 = .ok (.dup, 1) := by decide +kernel
theorem dX8_takeWire_30 : decode cX8_takeWire 30 = .ok (.getfield 33, 3) := by decide +kernel
theorem dX8_takeWire_33 : decode cX8_takeWire 33 = .ok (.iconst 1, 1) := by decide +kernel
theorem dX8_takeWire_34 : decode cX8_takeWire 34 = .ok (.iadd, 1) := by decide +kernel
theorem dX8_takeWire_35 : decode cX8_takeWire 35 = .ok (.putfield 33, 3) := by decide +kernel
theorem dX8_takeWire_38 : decode cX8_takeWire 38 = .ok (.iload_n 2, 1) := by decide +kernel
theorem dX8_takeWire_39 : decode cX8_takeWire 39 = .ok (.ireturn, 1) := by decide +kernel
theorem dX8_takeInput_0 : decode cX8_takeInput 0 = .ok (.aload_n 0, 1) := by decide +kernel
theorem dX8_takeInput_1 : decode cX8_takeInput 1 = .ok (.getfield 22, 3) := by decide +kernel
theorem dX8_takeInput_4 : decode cX8_takeInput 4 = .ok (.getfield 50, 3) := by decide +kernel
theorem dX8_takeInput_7 : decode cX8_takeInput 7 = .ok (.aload_n 0, 1) := by decide +kernel
theorem dX8_takeInput_8 : decode cX8_takeInput 8 = .ok (.getfield 33, 3) := by decide +kernel
theorem dX8_takeInput_11 : decode cX8_takeInput 11 = .ok (.iaload, 1) := by decide +kernel
theorem dX8_takeInput_12 : decode cX8_takeInput 12 = .ok (.iconst 2, 1) := by decide +kernel
theorem dX8_takeInput_13 : decode cX8_takeInput 13 = .ok (.if_icmp .ne 24, 3) := by decide +kernel
theorem dX8_takeInput_16 : decode cX8_takeInput 16 = .ok (.aload_n 0, 1) := by decide +kernel
theorem dX8_takeInput_17 : decode cX8_takeInput 17 = .ok (.getfield 22, 3) := by decide +kernel
theorem dX8_takeInput_20 : decode cX8_takeInput 20 = .ok (.getfield 157, 3) := by decide +kernel
theorem dX8_takeInput_23 : decode cX8_takeInput 23 = .ok (.aload_n 0, 1) := by decide +kernel
theorem dX8_takeInput_24 : decode cX8_takeInput 24 = .ok (.getfield 33, 3) := by decide +kernel
theorem dX8_takeInput_27 : decode cX8_takeInput 27 = .ok (.laload, 1) := by decide +kernel
theorem dX8_takeInput_28 : decode cX8_takeInput 28 = .ok (.aload_n 0, 1) := by decide +kernel
theorem dX8_takeInput_29 : decode cX8_takeInput 29 = .ok (.getfield 15, 3) := by decide +kernel
theorem dX8_takeInput_32 : decode cX8_takeInput 32 = .ok (.i2l, 1) := by decide +kernel
theorem dX8_takeInput_33 : decode cX8_takeInput 33 = .ok (.lcmp, 1) := by decide +kernel
theorem dX8_takeInput_34 : decode cX8_takeInput 34 = .ok (.ifCond .lt 5, 3) := by decide +kernel
theorem dX8_takeInput_37 : decode cX8_takeInput 37 = .ok (.iconst (-1), 1) := by decide +kernel
theorem dX8_takeInput_38 : decode cX8_takeInput 38 = .ok (.ireturn, 1) := by decide +kernel
theorem dX8_takeInput_39 : decode cX8_takeInput 39 = .ok (.aload_n 0, 1) := by decide +kernel
theorem dX8_takeInput_40 : decode cX8_takeInput 40 = .ok (.dup, 1) := by decide +kernel
theorem dX8_takeInput_41 : decode cX8_takeInput 41 = .ok (.getfield 33, 3) := by decide +kernel
theorem dX8_takeInput_44 : decode cX8_takeInput 44 = .ok (.iconst 1, 1) := by decide +kernel
theorem dX8_takeInput_45 : decode cX8_takeInput 45 = .ok (.iadd, 1) := by decide +kernel
theorem dX8_takeInput_46 : decode cX8_takeInput 46 = .ok (.putfield 33, 3) := by decide +kernel
theorem dX8_takeInput_49 : decode cX8_takeInput 49 = .ok (.aload_n 0, 1) := by decide +kernel
theorem dX8_takeInput_50 : decode cX8_takeInput 50 = .ok (.getfield 22, 3) := by decide +kernel
theorem dX8_takeInput_53 : decode cX8_takeInput 53 = .ok (.getfield 157, 3) := by decide +kernel
theorem dX8_takeInput_56 : decode cX8_takeInput 56 = .ok (.aload_n 0, 1) := by decide +kernel
theorem dX8_takeInput_57 : decode cX8_takeInput 57 = .ok (.getfield 33, 3) := by decide +kernel
theorem dX8_takeInput_60 : decode cX8_takeInput 60 = .ok (.iconst 1, 1) := by decide +kernel
theorem dX8_takeInput_61 : decode cX8_takeInput 61 = .ok (.isub, 1) := by decide +kernel
theorem dX8_takeInput_62 : decode cX8_takeInput 62 = .ok (.laload, 1) := by decide +kernel
theorem dX8_takeInput_63 : decode cX8_takeInput 63 = .ok (.l2i, 1) := by decide +kernel
theorem dX8_takeInput_64 : decode cX8_takeInput 64 = .ok (.ireturn, 1) := by decide +kernel
theorem dX8_takeWay_0 : decode cX8_takeWay 0 = .ok (.aload_n 0, 1) := by decide +kernel
theorem dX8_takeWay_1 : decode cX8_takeWay 1 = .ok (.ldc 169, 2) := by decide +kernel
theorem dX8_takeWay_3 : decode cX8_takeWay 3 = .ok (.invokevirtual 56, 3) := by decide +kernel
theorem dX8_takeWay_6 : decode cX8_takeWay 6 = .ok (.ifCond .eq 7, 3) := by decide +kernel
theorem dX8_takeWay_9 : decode cX8_takeWay 9 = .ok (.iconst 1, 1) := by decide +kernel
theorem dX8_takeWay_10 : decode cX8_takeWay 10 = .ok (.goto 30, 3) := by decide +kernel
theorem dX8_takeWay_13 : decode cX8_takeWay 13 = .ok (.aload_n 0, 1) := by decide +kernel
theorem dX8_takeWay_14 : decode cX8_takeWay 14 = .ok (.ldc 171, 2) := by decide +kernel
theorem dX8_takeWay_16 : decode cX8_takeWay 16 = .ok (.invokevirtual 56, 3) := by decide +kernel
theorem dX8_takeWay_19 : decode cX8_takeWay 19 = .ok (.ifCond .eq 7, 3) := by decide +kernel
theorem dX8_takeWay_22 : decode cX8_takeWay 22 = .ok (.iconst 2, 1) := by decide +kernel
theorem dX8_takeWay_23 : decode cX8_takeWay 23 = .ok (.goto 17, 3) := by decide +kernel
theorem dX8_takeWay_26 : decode cX8_takeWay 26 = .ok (.aload_n 0, 1) := by decide +kernel
theorem dX8_takeWay_27 : decode cX8_takeWay 27 = .ok (.ldc 173, 2) := by decide +kernel
theorem dX8_takeWay_29 : decode cX8_takeWay 29 = .ok (.invokevirtual 56, 3) := by decide +kernel
theorem dX8_takeWay_32 : decode cX8_takeWay 32 = .ok (.ifCond .eq 7, 3) := by decide +kernel
theorem dX8_takeWay_35 : decode cX8_takeWay 35 = .ok (.iconst 3, 1) := by decide +kernel
theorem dX8_takeWay_36 : decode cX8_takeWay 36 = .ok (.goto 4, 3) := by decide +kernel
theorem dX8_takeWay_39 : decode cX8_takeWay 39 = .ok (.iconst (-1), 1) := by decide +kernel
theorem dX8_takeWay_40 : decode cX8_takeWay 40 = .ok (.istore_n 1, 1) := by decide +kernel
theorem dX8_takeWay_41 : decode cX8_takeWay 41 = .ok (.iload_n 1, 1) := by decide +kernel
theorem dX8_takeWay_42 : decode cX8_takeWay 42 = .ok (.iconst (-1), 1) := by decide +kernel
theorem dX8_takeWay_43 : decode cX8_takeWay 43 = .ok (.if_icmp .eq 13, 3) := by decide +kernel
theorem dX8_takeWay_46 : decode cX8_takeWay 46 = .ok (.aload_n 0, 1) := by decide +kernel
theorem dX8_takeWay_47 : decode cX8_takeWay 47 = .ok (.dup, 1) := by decide +kernel
theorem dX8_takeWay_48 : decode cX8_takeWay 48 = .ok (.getfield 33, 3) := by decide +kernel
theorem dX8_takeWay_51 : decode cX8_takeWay 51 = .ok (.iconst 1, 1) := by decide +kernel
theorem dX8_takeWay_52 : decode cX8_takeWay 52 = .ok (.iadd, 1) := by decide +kernel
theorem dX8_takeWay_53 : decode cX8_takeWay 53 = .ok (.putfield 33, 3) := by decide +kernel
theorem dX8_takeWay_56 : decode cX8_takeWay 56 = .ok (.iload_n 1, 1) := by decide +kernel
theorem dX8_takeWay_57 : decode cX8_takeWay 57 = .ok (.ireturn, 1) := by decide +kernel
theorem dX8_takeWord_0 : decode cX8_takeWord 0 = .ok (.aload_n 0, 1) := by decide +kernel
theorem dX8_takeWord_1 : decode cX8_takeWord 1 = .ok (.aload_n 1, 1) := by decide +kernel
theorem dX8_takeWord_2 : decode cX8_takeWord 2 = .ok (.invokevirtual 56, 3) := by decide +kernel
theorem dX8_takeWord_5 : decode cX8_takeWord 5 = .ok (.ifCond .ne 5, 3) := by decide +kernel
theorem dX8_takeWord_8 : decode cX8_takeWord 8 = .ok (.iconst 0, 1) := by decide +kernel
theorem dX8_takeWord_9 : decode cX8_takeWord 9 = .ok (.ireturn, 1) := by decide +kernel
theorem dX8_takeWord_10 : decode cX8_takeWord 10 = .ok (.aload_n 0, 1) := by decide +kernel
theorem dX8_takeWord_11 : decode cX8_takeWord 11 = .ok (.dup, 1) := by decide +kernel
theorem dX8_takeWord_12 : decode cX8_takeWord 12 = .ok (.getfield 33, 3) := by decide +kernel
theorem dX8_takeWord_15 : decode cX8_takeWord 15 = .ok (.iconst 1, 1) := by decide +kernel
theorem dX8_takeWord_16 : decode cX8_takeWord 16 = .ok (.iadd, 1) := by decide +kernel
theorem dX8_takeWord_17 : decode cX8_takeWord 17 = .ok (.putfield 33, 3) := by decide +kernel
theorem dX8_takeWord_20 : decode cX8_takeWord 20 = .ok (.iconst 1, 1) := by decide +kernel
theorem dX8_takeWord_21 : decode cX8_takeWord 21 = .ok (.ireturn, 1) := by decide +kernel
theorem dX8_takeSign_0 : decode cX8_takeSign 0 = .ok (.aload_n 0, 1) := by decide +kernel
theorem dX8_takeSign_1 : decode cX8_takeSign 1 = .ok (.getfield 22, 3) := by decide +kernel
theorem dX8_takeSign_4 : decode cX8_takeSign 4 = .ok (.getfield 50, 3) := by decide +kernel
theorem dX8_takeSign_7 : decode cX8_takeSign 7 = .ok (.aload_n 0, 1) := by decide +kernel
theorem dX8_takeSign_8 : decode cX8_takeSign 8 = .ok (.getfield 33, 3) := by decide +kernel
theorem dX8_takeSign_11 : decode cX8_takeSign 11 = .ok (.iaload, 1) := by decide +kernel
theorem dX8_takeSign_12 : decode cX8_takeSign 12 = .ok (.iconst 3, 1) := by decide +kernel
theorem dX8_takeSign_13 : decode cX8_takeSign 13 = .ok (.if_icmp .ne 21, 3) := by decide +kernel
theorem dX8_takeSign_16 : decode cX8_takeSign 16 = .ok (.aload_n 0, 1) := by decide +kernel
theorem dX8_takeSign_17 : decode cX8_takeSign 17 = .ok (.getfield 22, 3) := by decide +kernel
theorem dX8_takeSign_20 : decode cX8_takeSign 20 = .ok (.getfield 157, 3) := by decide +kernel
theorem dX8_takeSign_23 : decode cX8_takeSign 23 = .ok (.aload_n 0, 1) := by decide +kernel
theorem dX8_takeSign_24 : decode cX8_takeSign 24 = .ok (.getfield 33, 3) := by decide +kernel
theorem dX8_takeSign_27 : decode cX8_takeSign 27 = .ok (.laload, 1) := by decide +kernel
theorem dX8_takeSign_28 : decode cX8_takeSign 28 = .ok (.iload_n 1, 1) := by decide +kernel
theorem dX8_takeSign_29 : decode cX8_takeSign 29 = .ok (.i2l, 1) := by decide +kernel
theorem dX8_takeSign_30 : decode cX8_takeSign 30 = .ok (.lcmp, 1) := by decide +kernel
theorem dX8_takeSign_31 : decode cX8_takeSign 31 = .ok (.ifCond .eq 5, 3) := by decide +kernel
theorem dX8_takeSign_34 : decode cX8_takeSign 34 = .ok (.iconst 0, 1) := by decide +kernel
theorem dX8_takeSign_35 : decode cX8_takeSign 35 = .ok (.ireturn, 1) := by decide +kernel
theorem dX8_takeSign_36 : decode cX8_takeSign 36 = .ok (.aload_n 0, 1) := by decide +kernel
theorem dX8_takeSign_37 : decode cX8_takeSign 37 = .ok (.dup, 1) := by decide +kernel
theorem dX8_takeSign_38 : decode cX8_takeSign 38 = .ok (.getfield 33, 3) := by decide +kernel
theorem dX8_takeSign_41 : decode cX8_takeSign 41 = .ok (.iconst 1, 1) := by decide +kernel
theorem dX8_takeSign_42 : decode cX8_takeSign 42 = .ok (.iadd, 1) := by decide +kernel
theorem dX8_takeSign_43 : decode cX8_takeSign 43 = .ok (.putfield 33, 3) := by decide +kernel
theorem dX8_takeSign_46 : decode cX8_takeSign 46 = .ok (.iconst 1, 1) := by decide +kernel
theorem dX8_takeSign_47 : decode cX8_takeSign 47 = .ok (.ireturn, 1) := by decide +kernel
theorem dX8_isWord_0 : decode cX8_isWord 0 = .ok (.aload_n 0, 1) := by decide +kernel
theorem dX8_isWord_1 : decode cX8_isWord 1 = .ok (.getfield 22, 3) := by decide +kernel
theorem dX8_isWord_4 : decode cX8_isWord 4 = .ok (.getfield 50, 3) := by decide +kernel
theorem dX8_isWord_7 : decode cX8_isWord 7 = .ok (.aload_n 0, 1) := by decide +kernel
theorem dX8_isWord_8 : decode cX8_isWord 8 = .ok (.getfield 33, 3) := by decide +kernel
theorem dX8_isWord_11 : decode cX8_isWord 11 = .ok (.iaload, 1) := by decide +kernel
theorem dX8_isWord_12 : decode cX8_isWord 12 = .ok (.iconst 1, 1) := by decide +kernel
theorem dX8_isWord_13 : decode cX8_isWord 13 = .ok (.if_icmp .ne 27, 3) := by decide +kernel
theorem dX8_isWord_16 : decode cX8_isWord 16 = .ok (.aload_n 0, 1) := by decide +kernel
theorem dX8_isWord_17 : decode cX8_isWord 17 = .ok (.getfield 22, 3) := by decide +kernel
theorem dX8_isWord_20 : decode cX8_isWord 20 = .ok (.getfield 157, 3) := by decide +kernel
theorem dX8_isWord_23 : decode cX8_isWord 23 = .ok (.aload_n 0, 1) := by decide +kernel
theorem dX8_isWord_24 : decode cX8_isWord 24 = .ok (.getfield 33, 3) := by decide +kernel
theorem dX8_isWord_27 : decode cX8_isWord 27 = .ok (.laload, 1) := by decide +kernel
theorem dX8_isWord_28 : decode cX8_isWord 28 = .ok (.aload_n 1, 1) := by decide +kernel
theorem dX8_isWord_29 : decode cX8_isWord 29 = .ok (.invokestatic 175, 3) := by decide +kernel
theorem dX8_isWord_32 : decode cX8_isWord 32 = .ok (.lcmp, 1) := by decide +kernel
theorem dX8_isWord_33 : decode cX8_isWord 33 = .ok (.ifCond .ne 7, 3) := by decide +kernel
theorem dX8_isWord_36 : decode cX8_isWord 36 = .ok (.iconst 1, 1) := by decide +kernel
theorem dX8_isWord_37 : decode cX8_isWord 37 = .ok (.goto 4, 3) := by decide +kernel
theorem dX8_isWord_40 : decode cX8_isWord 40 = .ok (.iconst 0, 1) := by decide +kernel
theorem dX8_isWord_41 : decode cX8_isWord 41 = .ok (.ireturn, 1) := by decide +kernel
theorem dX8_layerAtHand_0 : decode cX8_layerAtHand 0 = .ok (.aload_n 0, 1) := by decide +kernel
theorem dX8_layerAtHand_1 : decode cX8_layerAtHand 1 = .ok (.getfield 22, 3) := by decide +kernel
theorem dX8_layerAtHand_4 : decode cX8_layerAtHand 4 = .ok (.getfield 50, 3) := by decide +kernel
theorem dX8_layerAtHand_7 : decode cX8_layerAtHand 7 = .ok (.aload_n 0, 1) := by decide +kernel
theorem dX8_layerAtHand_8 : decode cX8_layerAtHand 8 = .ok (.getfield 33, 3) := by decide +kernel
theorem dX8_layerAtHand_11 : decode cX8_layerAtHand 11 = .ok (.iaload, 1) := by decide +kernel
theorem dX8_layerAtHand_12 : decode cX8_layerAtHand 12 = .ok (.iconst 1, 1) := by decide +kernel
theorem dX8_layerAtHand_13 : decode cX8_layerAtHand 13 = .ok (.if_icmp .ne 25, 3) := by decide +kernel
theorem dX8_layerAtHand_16 : decode cX8_layerAtHand 16 = .ok (.aload_n 0, 1) := by decide +kernel
theorem dX8_layerAtHand_17 : decode cX8_layerAtHand 17 = .ok (.getfield 29, 3) := by decide +kernel
theorem dX8_layerAtHand_20 : decode cX8_layerAtHand 20 = .ok (.aload_n 0, 1) := by decide +kernel
theorem dX8_layerAtHand_21 : decode cX8_layerAtHand 21 = .ok (.getfield 22, 3) := by decide +kernel
theorem dX8_layerAtHand_24 : decode cX8_layerAtHand 24 = .ok (.getfield 157, 3) := by decide +kernel
theorem dX8_layerAtHand_27 : decode cX8_layerAtHand 27 = .ok (.aload_n 0, 1) := by decide +kernel
theorem dX8_layerAtHand_28 : decode cX8_layerAtHand 28 = .ok (.getfield 33, 3) := by decide +kernel
theorem dX8_layerAtHand_31 : decode cX8_layerAtHand 31 = .ok (.laload, 1) := by decide +kernel
theorem dX8_layerAtHand_32 : decode cX8_layerAtHand 32 = .ok (.invokevirtual 161, 3) := by decide +kernel
theorem dX8_layerAtHand_35 : decode cX8_layerAtHand 35 = .ok (.goto 4, 3) := by decide +kernel
theorem dX8_layerAtHand_38 : decode cX8_layerAtHand 38 = .ok (.iconst (-1), 1) := by decide +kernel
theorem dX8_layerAtHand_39 : decode cX8_layerAtHand 39 = .ok (.ireturn, 1) := by decide +kernel
theorem dX11_init_0 : decode cX11_init 0 = .ok (.aload_n 0, 1) := by decide +kernel
theorem dX11_init_1 : decode cX11_init 1 = .ok (.invokespecial 3, 3) := by decide +kernel
theorem dX11_init_4 : decode cX11_init 4 = .ok (.aload_n 0, 1) := by decide +kernel
theorem dX11_init_5 : decode cX11_init 5 = .ok (.iconst 1, 1) := by decide +kernel
theorem dX11_init_6 : decode cX11_init 6 = .ok (.ldc 9, 2) := by decide +kernel
theorem dX11_init_8 : decode cX11_init 8 = .ok (.iload_n 1, 1) := by decide +kernel
theorem dX11_init_9 : decode cX11_init 9 = .ok (.invokestatic 10, 3) := by decide +kernel
theorem dX11_init_12 : decode cX11_init 12 = .ok (.invokestatic 16, 3) := by decide +kernel
theorem dX11_init_15 : decode cX11_init 15 = .ok (.putfield 19, 3) := by decide +kernel
theorem dX11_init_18 : decode cX11_init 18 = .ok (.aload_n 0, 1) := by decide +kernel
theorem dX11_init_19 : decode cX11_init 19 = .ok (.new 23, 3) := by decide +kernel
theorem dX11_init_22 : decode cX11_init 22 = .ok (.dup, 1) := by decide +kernel
theorem dX11_init_23 : decode cX11_init 23 = .ok (.invokespecial 25, 3) := by decide +kernel
theorem dX11_init_26 : decode cX11_init 26 = .ok (.putfield 26, 3) := by decide +kernel
theorem dX11_init_29 : decode cX11_init 29 = .ok (.aload_n 0, 1) := by decide +kernel
theorem dX11_init_30 : decode cX11_init 30 = .ok (.new 30, 3) := by decide +kernel
theorem dX11_init_33 : decode cX11_init 33 = .ok (.dup, 1) := by decide +kernel
theorem dX11_init_34 : decode cX11_init 34 = .ok (.aload_n 0, 1) := by decide +kernel
theorem dX11_init_35 : decode cX11_init 35 = .ok (.getfield 26, 3) := by decide +kernel
theorem dX11_init_38 : decode cX11_init 38 = .ok (.aload_n 0, 1) := by decide +kernel
theorem dX11_init_39 : decode cX11_init 39 = .ok (.getfield 19, 3) := by decide +kernel
theorem dX11_init_42 : decode cX11_init 42 = .ok (.invokespecial 32, 3) := by decide +kernel
theorem dX11_init_45 : decode cX11_init 45 = .ok (.putfield 35, 3) := by decide +kernel
theorem dX11_init_48 : decode cX11_init 48 = .ok (.aload_n 0, 1) := by decide +kernel
theorem dX11_init_49 : decode cX11_init 49 = .ok (.new 39, 3) := by decide +kernel
theorem dX11_init_52 : decode cX11_init 52 = .ok (.dup, 1) := by decide +kernel
theorem dX11_init_53 : decode cX11_init 53 = .ok (.invokespecial 41, 3) := by decide +kernel
theorem dX11_init_56 : decode cX11_init 56 = .ok (.putfield 42, 3) := by decide +kernel
theorem dX11_init_59 : decode cX11_init 59 = .ok (.aload_n 0, 1) := by decide +kernel
theorem dX11_init_60 : decode cX11_init 60 = .ok (.new 46, 3) := by decide +kernel
theorem dX11_init_63 : decode cX11_init 63 = .ok (.dup, 1) := by decide +kernel
theorem dX11_init_64 : decode cX11_init 64 = .ok (.invokespecial 48, 3) := by decide +kernel
theorem dX11_init_67 : decode cX11_init 67 = .ok (.putfield 49, 3) := by decide +kernel
theorem dX11_init_70 : decode cX11_init 70 = .ok (.aload_n 0, 1) := by decide +kernel
theorem dX11_init_71 : decode cX11_init 71 = .ok (.new 53, 3) := by decide +kernel
theorem dX11_init_74 : decode cX11_init 74 = .ok (.dup, 1) := by decide +kernel
theorem dX11_init_75 : decode cX11_init 75 = .ok (.invokespecial 55, 3) := by decide +kernel
theorem dX11_init_78 : decode cX11_init 78 = .ok (.putfield 56, 3) := by decide +kernel
theorem dX11_init_81 : decode cX11_init 81 = .ok (.new 60, 3) := by decide +kernel
theorem dX11_init_84 : decode cX11_init 84 = .ok (.dup, 1) := by decide +kernel
theorem dX11_init_85 : decode cX11_init 85 = .ok (.invokespecial 62, 3) := by decide +kernel
theorem dX11_init_88 : decode cX11_init 88 = .ok (.astore_n 2, 1) := by decide +kernel
theorem dX11_init_89 : decode cX11_init 89 = .ok (.aload_n 0, 1) := by decide +kernel
theorem dX11_init_90 : decode cX11_init 90 = .ok (.new 63, 3) := by decide +kernel
theorem dX11_init_93 : decode cX11_init 93 = .ok (.dup, 1) := by decide +kernel
theorem dX11_init_94 : decode cX11_init 94 = .ok (.aload_n 0, 1) := by decide +kernel
theorem dX11_init_95 : decode cX11_init 95 = .ok (.getfield 56, 3) := by decide +kernel
theorem dX11_init_98 : decode cX11_init 98 = .ok (.aload_n 2, 1) := by decide +kernel
theorem dX11_init_99 : decode cX11_init 99 = .ok (.invokespecial 65, 3) := by decide +kernel
theorem dX11_init_102 : decode cX11_init 102 = .ok (.putfield 68, 3) := by decide +kernel
theorem dX11_init_105 : decode cX11_init 105 = .ok (.aload_n 0, 1) := by decide +kernel
theorem dX11_init_106 : decode cX11_init 106 = .ok (.new 72, 3) := by decide +kernel
theorem dX11_init_109 : decode cX11_init 109 = .ok (.dup, 1) := by decide +kernel
theorem dX11_init_110 : decode cX11_init 110 = .ok (.aload_n 0, 1) := by decide +kernel
theorem dX11_init_111 : decode cX11_init 111 = .ok (.getfield 56, 3) := by decide +kernel
theorem dX11_init_114 : decode cX11_init 114 = .ok (.aload_n 2, 1) := by decide +kernel
theorem dX11_init_115 : decode cX11_init 115 = .ok (.new 74, 3) := by decide +kernel
theorem dX11_init_118 : decode cX11_init 118 = .ok (.dup, 1) := by decide +kernel
theorem dX11_init_119 : decode cX11_init 119 = .ok (.aload_n 0, 1) := by decide +kernel
theorem dX11_init_120 : decode cX11_init 120 = .ok (.getfield 56, 3) := by decide +kernel
theorem dX11_init_123 : decode cX11_init 123 = .ok (.aload_n 0, 1) := by decide +kernel
theorem dX11_init_124 : decode cX11_init 124 = .ok (.getfield 68, 3) := by decide +kernel
theorem dX11_init_127 : decode cX11_init 127 = .ok (.aload_n 2, 1) := by decide +kernel
theorem dX11_init_128 : decode cX11_init 128 = .ok (.invokespecial 76, 3) := by decide +kernel
theorem dX11_init_131 : decode cX11_init 131 = .ok (.invokespecial 79, 3) := by decide +kernel
theorem dX11_init_134 : decode cX11_init 134 = .ok (.putfield 82, 3) := by decide +kernel
theorem dX11_init_137 : decode cX11_init 137 = .ok (.aload_n 0, 1) := by decide +kernel
theorem dX11_init_138 : decode cX11_init 138 = .ok (.new 86, 3) := by decide +kernel
theorem dX11_init_141 : decode cX11_init 141 = .ok (.dup, 1) := by decide +kernel
theorem dX11_init_142 : decode cX11_init 142 = .ok (.invokespecial 88, 3) := by decide +kernel
theorem dX11_init_145 : decode cX11_init 145 = .ok (.putfield 89, 3) := by decide +kernel
theorem dX11_init_148 : decode cX11_init 148 = .ok (.aload_n 0, 1) := by decide +kernel
theorem dX11_init_149 : decode cX11_init 149 = .ok (.iconst 0, 1) := by decide +kernel
theorem dX11_init_150 : decode cX11_init 150 = .ok (.putfield 93, 3) := by decide +kernel
theorem dX11_init_153 : decode cX11_init 153 = .ok (.aload_n 0, 1) := by decide +kernel
theorem dX11_init_154 : decode cX11_init 154 = .ok (.iconst 0, 1) := by decide +kernel
theorem dX11_init_155 : decode cX11_init 155 = .ok (.putfield 97, 3) := by decide +kernel
theorem dX11_init_158 : decode cX11_init 158 = .ok (.return_, 1) := by decide +kernel
theorem dX11_unit_0 : decode cX11_unit 0 = .ok (.aload_n 0, 1) := by decide +kernel
theorem dX11_unit_1 : decode cX11_unit 1 = .ok (.getfield 26, 3) := by decide +kernel
theorem dX11_unit_4 : decode cX11_unit 4 = .ok (.iload_n 1, 1) := by decide +kernel
theorem dX11_unit_5 : decode cX11_unit 5 = .ok (.invokevirtual 100, 3) := by decide +kernel
theorem dX11_unit_8 : decode cX11_unit 8 = .ok (.ireturn, 1) := by decide +kernel
theorem dX11_units_0 : decode cX11_units 0 = .ok (.aload_n 0, 1) := by decide +kernel
theorem dX11_units_1 : decode cX11_units 1 = .ok (.getfield 26, 3) := by decide +kernel
theorem dX11_units_4 : decode cX11_units 4 = .ok (.iload_n 1, 1) := by decide +kernel
theorem dX11_units_5 : decode cX11_units 5 = .ok (.invokevirtual 104, 3) := by decide +kernel
theorem dX11_units_8 : decode cX11_units 8 = .ok (.ireturn, 1) := by decide +kernel
theorem dX11_read_0 : decode cX11_read 0 = .ok (.aload_n 0, 1) := by decide +kernel
theorem dX11_read_1 : decode cX11_read 1 = .ok (.getfield 35, 3) := by decide +kernel
theorem dX11_read_4 : decode cX11_read 4 = .ok (.invokevirtual 107, 3) := by decide +kernel
theorem dX11_read_7 : decode cX11_read 7 = .ok (.istore_n 1, 1) := by decide +kernel
theorem dX11_read_8 : decode cX11_read 8 = .ok (.aload_n 0, 1) := by decide +kernel
theorem dX11_read_9 : decode cX11_read 9 = .ok (.getfield 26, 3) := by decide +kernel
theorem dX11_read_12 : decode cX11_read 12 = .ok (.iconst 0, 1) := by decide +kernel
theorem dX11_read_13 : decode cX11_read 13 = .ok (.putfield 111, 3) := by decide +kernel
theorem dX11_read_16 : decode cX11_read 16 = .ok (.iload_n 1, 1) := by decide +kernel
theorem dX11_read_17 : decode cX11_read 17 = .ok (.iconst (-1), 1) := by decide +kernel
theorem dX11_read_18 : decode cX11_read 18 = .ok (.if_icmp .eq 7, 3) := by decide +kernel
theorem dX11_read_21 : decode cX11_read 21 = .ok (.iconst (-1), 1) := by decide +kernel
theorem dX11_read_22 : decode cX11_read 22 = .ok (.iload_n 1, 1) := by decide +kernel
theorem dX11_read_23 : decode cX11_read 23 = .ok (.isub, 1) := by decide +kernel
theorem dX11_read_24 : decode cX11_read 24 = .ok (.ireturn, 1) := by decide +kernel
theorem dX11_read_25 : decode cX11_read 25 = .ok (.aload_n 0, 1) := by decide +kernel
theorem dX11_read_26 : decode cX11_read 26 = .ok (.aload_n 0, 1) := by decide +kernel
theorem dX11_read_27 : decode cX11_read 27 = .ok (.getfield 35, 3) := by decide +kernel
theorem dX11_read_30 : decode cX11_read 30 = .ok (.aload_n 0, 1) := by decide +kernel
theorem dX11_read_31 : decode cX11_read 31 = .ok (.getfield 89, 3) := by decide +kernel
theorem dX11_read_34 : decode cX11_read 34 = .ok (.invokevirtual 114, 3) := by decide +kernel
theorem dX11_read_37 : decode cX11_read 37 = .ok (.putfield 89, 3) := by decide +kernel
theorem dX11_read_40 : decode cX11_read 40 = .ok (.aload_n 0, 1) := by decide +kernel
theorem dX11_read_41 : decode cX11_read 41 = .ok (.iconst 1, 1) := by decide +kernel
theorem dX11_read_42 : decode cX11_read 42 = .ok (.putfield 93, 3) := by decide +kernel
theorem dX11_read_45 : decode cX11_read 45 = .ok (.aload_n 0, 1) := by decide +kernel
theorem dX11_read_46 : decode cX11_read 46 = .ok (.iconst 0, 1) := by decide +kernel
theorem dX11_read_47 : decode cX11_read 47 = .ok (.putfield 97, 3) := by decide +kernel
theorem dX11_read_50 : decode cX11_read 50 = .ok (.aload_n 0, 1) := by decide +kernel
theorem dX11_read_51 : decode cX11_read 51 = .ok (.getfield 89, 3) := by decide +kernel
theorem dX11_read_54 : decode cX11_read 54 = .ok (.getfield 118, 3) := by decide +kernel
theorem dX11_read_57 : decode cX11_read 57 = .ok (.ireturn, 1) := by decide +kernel
theorem dX11_polygon_0 : decode cX11_polygon 0 = .ok (.iload_n 1, 1) := by decide +kernel
theorem dX11_polygon_1 : decode cX11_polygon 1 = .ok (.aload_n 0, 1) := by decide +kernel
theorem dX11_polygon_2 : decode cX11_polygon 2 = .ok (.getfield 19, 3) := by decide +kernel
theorem dX11_polygon_5 : decode cX11_polygon 5 = .ok (.invokestatic 121, 3) := by decide +kernel
theorem dX11_polygon_8 : decode cX11_polygon 8 = .ok (.aload_n 0, 1) := by decide +kernel
theorem dX11_polygon_9 : decode cX11_polygon 9 = .ok (.getfield 42, 3) := by decide +kernel
theorem dX11_polygon_12 : decode cX11_polygon 12 = .ok (.getfield 125, 3) := by decide +kernel
theorem dX11_polygon_15 : decode cX11_polygon 15 = .ok (.bipush 60, 2) := by decide +kernel
theorem dX11_polygon_17 : decode cX11_polygon 17 = .ok (.if_icmp .ge 7, 3) := by decide +kernel
theorem dX11_polygon_20 : decode cX11_polygon 20 = .ok (.iconst 1, 1) := by decide +kernel
theorem dX11_polygon_21 : decode cX11_polygon 21 = .ok (.goto 4, 3) := by decide +kernel
theorem dX11_polygon_24 : decode cX11_polygon 24 = .ok (.iconst 0, 1) := by decide +kernel
theorem dX11_polygon_25 : decode cX11_polygon 25 = .ok (.invokestatic 128, 3) := by decide +kernel
theorem dX11_polygon_28 : decode cX11_polygon 28 = .ok (.aload_n 0, 1) := by decide +kernel
theorem dX11_polygon_29 : decode cX11_polygon 29 = .ok (.iconst 0, 1) := by decide +kernel
theorem dX11_polygon_30 : decode cX11_polygon 30 = .ok (.putfield 97, 3) := by decide +kernel
theorem dX11_polygon_33 : decode cX11_polygon 33 = .ok (.aload_n 0, 1) := by decide +kernel
theorem dX11_polygon_34 : decode cX11_polygon 34 = .ok (.getfield 42, 3) := by decide +kernel
theorem dX11_polygon_37 : decode cX11_polygon 37 = .ok (.iload_n 1, 1) := by decide +kernel
theorem dX11_polygon_38 : decode cX11_polygon 38 = .ok (.invokevirtual 132, 3) := by decide +kernel
theorem dX11_polygon_41 : decode cX11_polygon 41 = .ok (.ireturn, 1) := by decide +kernel
theorem dX11_corner_0 : decode cX11_corner 0 = .ok (.iload_n 1, 1) := by decide +kernel
theorem dX11_corner_1 : decode cX11_corner 1 = .ok (.aload_n 0, 1) := by decide +kernel
theorem dX11_corner_2 : decode cX11_corner 2 = .ok (.getfield 42, 3) := by decide +kernel
theorem dX11_corner_5 : decode cX11_corner 5 = .ok (.getfield 125, 3) := by decide +kernel
theorem dX11_corner_8 : decode cX11_corner 8 = .ok (.invokestatic 121, 3) := by decide +kernel
theorem dX11_corner_11 : decode cX11_corner 11 = .ok (.aload_n 0, 1) := by decide +kernel
theorem dX11_corner_12 : decode cX11_corner 12 = .ok (.getfield 42, 3) := by decide +kernel
theorem dX11_corner_15 : decode cX11_corner 15 = .ok (.getfield 135, 3) := by decide +kernel
theorem dX11_corner_18 : decode cX11_corner 18 = .ok (.iload_n 1, 1) := by decide +kernel
theorem dX11_corner_19 : decode cX11_corner 19 = .ok (.iaload, 1) := by decide +kernel
theorem dX11_corner_20 : decode cX11_corner 20 = .ok (.bipush 16, 2) := by decide +kernel
theorem dX11_corner_22 : decode cX11_corner 22 = .ok (.if_icmp .ge 7, 3) := by decide +kernel
theorem dX11_corner_25 : decode cX11_corner 25 = .ok (.iconst 1, 1) := by decide +kernel
theorem dX11_corner_26 : decode cX11_corner 26 = .ok (.goto 4, 3) := by decide +kernel
theorem dX11_corner_29 : decode cX11_corner 29 = .ok (.iconst 0, 1) := by decide +kernel
theorem dX11_corner_30 : decode cX11_corner 30 = .ok (.invokestatic 128, 3) := by decide +kernel
theorem dX11_corner_33 : decode cX11_corner 33 = .ok (.lload_n 2, 1) := by decide +kernel
theorem dX11_corner_34 : decode cX11_corner 34 = .ok (.lconst 0, 1) := by decide +kernel
theorem dX11_corner_35 : decode cX11_corner 35 = .ok (.lcmp, 1) := by decide +kernel
theorem dX11_corner_36 : decode cX11_corner 36 = .ok (.ifCond .lt 27, 3) := by decide +kernel
theorem dX11_corner_39 : decode cX11_corner 39 = .ok (.lload_n 2, 1) := by decide +kernel
theorem dX11_corner_40 : decode cX11_corner 40 = .ok (.ldc2_w 139, 3) := by decide +kernel
theorem dX11_corner_43 : decode cX11_corner 43 = .ok (.lcmp, 1) := by decide +kernel
theorem dX11_corner_44 : decode cX11_corner 44 = .ok (.ifCond .gt 19, 3) := by decide +kernel
theorem dX11_corner_47 : decode cX11_corner 47 = .ok (.lload 4, 2) := by decide +kernel
theorem dX11_corner_49 : decode cX11_corner 49 = .ok (.lconst 0, 1) := by decide +kernel
theorem dX11_corner_50 : decode cX11_corner 50 = .ok (.lcmp, 1) := by decide +kernel
theorem dX11_corner_51 : decode cX11_corner 51 = .ok (.ifCond .lt 12, 3) := by decide +kernel
theorem dX11_corner_54 : decode cX11_corner 54 = .ok (.lload 4, 2) := by decide +kernel
theorem dX11_corner_56 : decode cX11_corner 56 = .ok (.ldc2_w 139, 3) := by decide +kernel
theorem dX11_corner_59 : decode cX11_corner 59 = .ok (.lcmp, 1) := by decide +kernel
theorem dX11_corner_60 : decode cX11_corner 60 = .ok (.ifCond .le 11, 3) := by decide +kernel
theorem dX11_corner_63 : decode cX11_corner 63 = .ok (.new 141, 3) := by decide +kernel
theorem dX11_corner_66 : decode cX11_corner 66 = .ok (.dup, 1) := by decide +kernel
theorem dX11_corner_67 : decode cX11_corner 67 = .ok (.invokespecial 143, 3) := by decide +kernel
theorem dX11_corner_70 : decode cX11_corner 70 = .ok (.athrow, 1) := by decide +kernel
theorem dX11_corner_71 : decode cX11_corner 71 = .ok (.aload_n 0, 1) := by decide +kernel
theorem dX11_corner_72 : decode cX11_corner 72 = .ok (.getfield 42, 3) := by decide +kernel
theorem dX11_corner_75 : decode cX11_corner 75 = .ok (.iload_n 1, 1) := by decide +kernel
theorem dX11_corner_76 : decode cX11_corner 76 = .ok (.lload_n 2, 1) := by decide +kernel
theorem dX11_corner_77 : decode cX11_corner 77 = .ok (.l2i, 1) := by decide +kernel
theorem dX11_corner_78 : decode cX11_corner 78 = .ok (.lload 4, 2) := by decide +kernel
theorem dX11_corner_80 : decode cX11_corner 80 = .ok (.l2i, 1) := by decide +kernel
theorem dX11_corner_81 : decode cX11_corner 81 = .ok (.invokevirtual 144, 3) := by decide +kernel
theorem dX11_corner_84 : decode cX11_corner 84 = .ok (.ifCond .ne 5, 3) := by decide +kernel
theorem dX11_corner_87 : decode cX11_corner 87 = .ok (.iconst 0, 1) := by decide +kernel
theorem dX11_corner_88 : decode cX11_corner 88 = .ok (.ireturn, 1) := by decide +kernel
theorem dX11_corner_89 : decode cX11_corner 89 = .ok (.aload_n 0, 1) := by decide +kernel
theorem dX11_corner_90 : decode cX11_corner 90 = .ok (.iconst 0, 1) := by decide +kernel
theorem dX11_corner_91 : decode cX11_corner 91 = .ok (.putfield 97, 3) := by decide +kernel
theorem dX11_corner_94 : decode cX11_corner 94 = .ok (.iconst 1, 1) := by decide +kernel
theorem dX11_corner_95 : decode cX11_corner 95 = .ok (.ireturn, 1) := by decide +kernel
theorem dX11_text_0 : decode cX11_text 0 = .ok (.iload_n 1, 1) := by decide +kernel
theorem dX11_text_1 : decode cX11_text 1 = .ok (.bipush 8, 2) := by decide +kernel
theorem dX11_text_3 : decode cX11_text 3 = .ok (.invokestatic 121, 3) := by decide +kernel
theorem dX11_text_6 : decode cX11_text 6 = .ok (.lload_n 2, 1) := by decide +kernel
theorem dX11_text_7 : decode cX11_text 7 = .ok (.lload 4, 2) := by decide +kernel
theorem dX11_text_9 : decode cX11_text 9 = .ok (.invokestatic 148, 3) := by decide +kernel
theorem dX11_text_12 : decode cX11_text 12 = .ok (.aload_n 0, 1) := by decide +kernel
theorem dX11_text_13 : decode cX11_text 13 = .ok (.getfield 49, 3) := by decide +kernel
theorem dX11_text_16 : decode cX11_text 16 = .ok (.getfield 152, 3) := by decide +kernel
theorem dX11_text_19 : decode cX11_text 19 = .ok (.bipush 40, 2) := by decide +kernel
theorem dX11_text_21 : decode cX11_text 21 = .ok (.if_icmp .ge 7, 3) := by decide +kernel
theorem dX11_text_24 : decode cX11_text 24 = .ok (.iconst 1, 1) := by decide +kernel
theorem dX11_text_25 : decode cX11_text 25 = .ok (.goto 4, 3) := by decide +kernel
theorem dX11_text_28 : decode cX11_text 28 = .ok (.iconst 0, 1) := by decide +kernel
theorem dX11_text_29 : decode cX11_text 29 = .ok (.invokestatic 128, 3) := by decide +kernel
theorem dX11_text_32 : decode cX11_text 32 = .ok (.iload 6, 2) := by decide +kernel
theorem dX11_text_34 : decode cX11_text 34 = .ok (.ifCond .ge 11, 3) := by decide +kernel
theorem dX11_text_37 : decode cX11_text 37 = .ok (.new 141, 3) := by decide +kernel
theorem dX11_text_40 : decode cX11_text 40 = .ok (.dup, 1) := by decide +kernel
theorem dX11_text_41 : decode cX11_text 41 = .ok (.invokespecial 143, 3) := by decide +kernel
theorem dX11_text_44 : decode cX11_text 44 = .ok (.athrow, 1) := by decide +kernel
theorem dX11_text_45 : decode cX11_text 45 = .ok (.aload_n 0, 1) := by decide +kernel
theorem dX11_text_46 : decode cX11_text 46 = .ok (.iconst 0, 1) := by decide +kernel
theorem dX11_text_47 : decode cX11_text 47 = .ok (.putfield 97, 3) := by decide +kernel
theorem dX11_text_50 : decode cX11_text 50 = .ok (.aload_n 0, 1) := by decide +kernel
theorem dX11_text_51 : decode cX11_text 51 = .ok (.getfield 49, 3) := by decide +kernel
theorem dX11_text_54 : decode cX11_text 54 = .ok (.iload_n 1, 1) := by decide +kernel
theorem dX11_text_55 : decode cX11_text 55 = .ok (.lload_n 2, 1) := by decide +kernel
theorem dX11_text_56 : decode cX11_text 56 = .ok (.l2i, 1) := by decide +kernel
theorem dX11_text_57 : decode cX11_text 57 = .ok (.lload 4, 2) := by decide +kernel
theorem dX11_text_59 : decode cX11_text 59 = .ok (.l2i, 1) := by decide +kernel
theorem dX11_text_60 : decode cX11_text 60 = .ok (.invokestatic 154, 3) := by decide +kernel
theorem dX11_text_63 : decode cX11_text 63 = .ok (.iload 6, 2) := by decide +kernel
theorem dX11_text_65 : decode cX11_text 65 = .ok (.invokevirtual 157, 3) := by decide +kernel
theorem dX11_text_68 : decode cX11_text 68 = .ok (.aload_n 0, 1) := by decide +kernel
theorem dX11_text_69 : decode cX11_text 69 = .ok (.getfield 49, 3) := by decide +kernel
theorem dX11_text_72 : decode cX11_text 72 = .ok (.getfield 152, 3) := by decide +kernel
theorem dX11_text_75 : decode cX11_text 75 = .ok (.ireturn, 1) := by decide +kernel
theorem dX11_run_0 : decode cX11_run 0 = .ok (.aload_n 0, 1) := by decide +kernel
theorem dX11_run_1 : decode cX11_run 1 = .ok (.getfield 93, 3) := by decide +kernel
theorem dX11_run_4 : decode cX11_run 4 = .ok (.invokestatic 128, 3) := by decide +kernel
theorem dX11_run_7 : decode cX11_run 7 = .ok (.aload_n 0, 1) := by decide +kernel
theorem dX11_run_8 : decode cX11_run 8 = .ok (.getfield 97, 3) := by decide +kernel
theorem dX11_run_11 : decode cX11_run 11 = .ok (.ifCond .ne 11, 3) := by decide +kernel
theorem dX11_run_14 : decode cX11_run 14 = .ok (.aload_n 0, 1) := by decide +kernel
theorem dX11_run_15 : decode cX11_run 15 = .ok (.aload_n 0, 1) := by decide +kernel
theorem dX11_run_16 : decode cX11_run 16 = .ok (.invokevirtual 160, 3) := by decide +kernel
theorem dX11_run_19 : decode cX11_run 19 = .ok (.putfield 97, 3) := by decide +kernel
theorem dX11_run_22 : decode cX11_run 22 = .ok (.aload_n 0, 1) := by decide +kernel
theorem dX11_run_23 : decode cX11_run 23 = .ok (.getfield 97, 3) := by decide +kernel
theorem dX11_run_26 : decode cX11_run 26 = .ok (.ifCond .ne 11, 3) := by decide +kernel
theorem dX11_run_29 : decode cX11_run 29 = .ok (.new 164, 3) := by decide +kernel
theorem dX11_run_32 : decode cX11_run 32 = .ok (.dup, 1) := by decide +kernel
theorem dX11_run_33 : decode cX11_run 33 = .ok (.invokespecial 166, 3) := by decide +kernel
theorem dX11_run_36 : decode cX11_run 36 = .ok (.athrow, 1) := by decide +kernel
theorem dX11_run_37 : decode cX11_run 37 = .ok (.aload_n 0, 1) := by decide +kernel
theorem dX11_run_38 : decode cX11_run 38 = .ok (.getfield 82, 3) := by decide +kernel
theorem dX11_run_41 : decode cX11_run 41 = .ok (.getfield 167, 3) := by decide +kernel
theorem dX11_run_44 : decode cX11_run 44 = .ok (.ireturn, 1) := by decide +kernel
theorem dX11_device_0 : decode cX11_device 0 = .ok (.iload_n 2, 1) := by decide +kernel
theorem dX11_device_1 : decode cX11_device 1 = .ok (.iconst 5, 1) := by decide +kernel
theorem dX11_device_2 : decode cX11_device 2 = .ok (.invokestatic 121, 3) := by decide +kernel
theorem dX11_device_5 : decode cX11_device 5 = .ok (.aload_n 0, 1) := by decide +kernel
theorem dX11_device_6 : decode cX11_device 6 = .ok (.getfield 97, 3) := by decide +kernel
theorem dX11_device_9 : decode cX11_device 9 = .ok (.invokestatic 128, 3) := by decide +kernel
theorem dX11_device_12 : decode cX11_device 12 = .ok (.iload_n 1, 1) := by decide +kernel
theorem dX11_device_13 : decode cX11_device 13 = .ok (.aload_n 0, 1) := by decide +kernel
theorem dX11_device_14 : decode cX11_device 14 = .ok (.getfield 82, 3) := by decide +kernel
theorem dX11_device_17 : decode cX11_device 17 = .ok (.getfield 167, 3) := by decide +kernel
theorem dX11_device_20 : decode cX11_device 20 = .ok (.invokestatic 121, 3) := by decide +kernel
theorem dX11_device_23 : decode cX11_device 23 = .ok (.iload_n 2, 1) := by decide +kernel
theorem dX11_device_24 : decode cX11_device 24 = .ok (.tableswitch 75 0 3 #[32, 42, 52, 62], 32) := by decide +kernel
theorem dX11_device_56 : decode cX11_device 56 = .ok (.aload_n 0, 1) := by decide +kernel
theorem dX11_device_57 : decode cX11_device 57 = .ok (.getfield 82, 3) := by decide +kernel
theorem dX11_device_60 : decode cX11_device 60 = .ok (.getfield 170, 3) := by decide +kernel
theorem dX11_device_63 : decode cX11_device 63 = .ok (.iload_n 1, 1) := by decide +kernel
theorem dX11_device_64 : decode cX11_device 64 = .ok (.iaload, 1) := by decide +kernel
theorem dX11_device_65 : decode cX11_device 65 = .ok (.ireturn, 1) := by decide +kernel
theorem dX11_device_66 : decode cX11_device 66 = .ok (.aload_n 0, 1) := by decide +kernel
theorem dX11_device_67 : decode cX11_device 67 = .ok (.getfield 82, 3) := by decide +kernel
theorem dX11_device_70 : decode cX11_device 70 = .ok (.getfield 172, 3) := by decide +kernel
theorem dX11_device_73 : decode cX11_device 73 = .ok (.iload_n 1, 1) := by decide +kernel
theorem dX11_device_74 : decode cX11_device 74 = .ok (.iaload, 1) := by decide +kernel
theorem dX11_device_75 : decode cX11_device 75 = .ok (.ireturn, 1) := by decide +kernel
theorem dX11_device_76 : decode cX11_device 76 = .ok (.aload_n 0, 1) := by decide +kernel
theorem dX11_device_77 : decode cX11_device 77 = .ok (.getfield 82, 3) := by decide +kernel
theorem dX11_device_80 : decode cX11_device 80 = .ok (.getfield 175, 3) := by decide +kernel
theorem dX11_device_83 : decode cX11_device 83 = .ok (.iload_n 1, 1) := by decide +kernel
theorem dX11_device_84 : decode cX11_device 84 = .ok (.iaload, 1) := by decide +kernel
theorem dX11_device_85 : decode cX11_device 85 = .ok (.ireturn, 1) := by decide +kernel
theorem dX11_device_86 : decode cX11_device 86 = .ok (.aload_n 0, 1) := by decide +kernel
theorem dX11_device_87 : decode cX11_device 87 = .ok (.getfield 82, 3) := by decide +kernel
theorem dX11_device_90 : decode cX11_device 90 = .ok (.getfield 178, 3) := by decide +kernel
theorem dX11_device_93 : decode cX11_device 93 = .ok (.iload_n 1, 1) := by decide +kernel
theorem dX11_device_94 : decode cX11_device 94 = .ok (.iaload, 1) := by decide +kernel
theorem dX11_device_95 : decode cX11_device 95 = .ok (.invokestatic 181, 3) := by decide +kernel
theorem dX11_device_98 : decode cX11_device 98 = .ok (.ireturn, 1) := by decide +kernel
theorem dX11_device_99 : decode cX11_device 99 = .ok (.aload_n 0, 1) := by decide +kernel
theorem dX11_device_100 : decode cX11_device 100 = .ok (.getfield 82, 3) := by decide +kernel
theorem dX11_device_103 : decode cX11_device 103 = .ok (.getfield 178, 3) := by decide +kernel
theorem dX11_device_106 : decode cX11_device 106 = .ok (.iload_n 1, 1) := by decide +kernel
theorem dX11_device_107 : decode cX11_device 107 = .ok (.iaload, 1) := by decide +kernel
theorem dX11_device_108 : decode cX11_device 108 = .ok (.invokestatic 184, 3) := by decide +kernel
theorem dX11_device_111 : decode cX11_device 111 = .ok (.ireturn, 1) := by decide +kernel
theorem dX11_size_0 : decode cX11_size 0 = .ok (.iload_n 2, 1) := by decide +kernel
theorem dX11_size_1 : decode cX11_size 1 = .ok (.iconst 3, 1) := by decide +kernel
theorem dX11_size_2 : decode cX11_size 2 = .ok (.invokestatic 121, 3) := by decide +kernel
theorem dX11_size_5 : decode cX11_size 5 = .ok (.aload_n 0, 1) := by decide +kernel
theorem dX11_size_6 : decode cX11_size 6 = .ok (.getfield 97, 3) := by decide +kernel
theorem dX11_size_9 : decode cX11_size 9 = .ok (.invokestatic 128, 3) := by decide +kernel
theorem dX11_size_12 : decode cX11_size 12 = .ok (.iload_n 1, 1) := by decide +kernel
theorem dX11_size_13 : decode cX11_size 13 = .ok (.aload_n 0, 1) := by decide +kernel
theorem dX11_size_14 : decode cX11_size 14 = .ok (.getfield 82, 3) := by decide +kernel
theorem dX11_size_17 : decode cX11_size 17 = .ok (.getfield 167, 3) := by decide +kernel
theorem dX11_size_20 : decode cX11_size 20 = .ok (.invokestatic 121, 3) := by decide +kernel
theorem dX11_size_23 : decode cX11_size 23 = .ok (.aload_n 0, 1) := by decide +kernel
theorem dX11_size_24 : decode cX11_size 24 = .ok (.getfield 82, 3) := by decide +kernel
theorem dX11_size_27 : decode cX11_size 27 = .ok (.getfield 187, 3) := by decide +kernel
theorem dX11_size_30 : decode cX11_size 30 = .ok (.iload_n 1, 1) := by decide +kernel
theorem dX11_size_31 : decode cX11_size 31 = .ok (.iconst 3, 1) := by decide +kernel
theorem dX11_size_32 : decode cX11_size 32 = .ok (.imul, 1) := by decide +kernel
theorem dX11_size_33 : decode cX11_size 33 = .ok (.iload_n 2, 1) := by decide +kernel
theorem dX11_size_34 : decode cX11_size 34 = .ok (.iadd, 1) := by decide +kernel
theorem dX11_size_35 : decode cX11_size 35 = .ok (.iaload, 1) := by decide +kernel
theorem dX11_size_36 : decode cX11_size 36 = .ok (.i2l, 1) := by decide +kernel
theorem dX11_size_37 : decode cX11_size 37 = .ok (.lreturn, 1) := by decide +kernel
theorem dX11_pin_0 : decode cX11_pin 0 = .ok (.aload_n 0, 1) := by decide +kernel
theorem dX11_pin_1 : decode cX11_pin 1 = .ok (.getfield 97, 3) := by decide +kernel
theorem dX11_pin_4 : decode cX11_pin 4 = .ok (.invokestatic 128, 3) := by decide +kernel
theorem dX11_pin_7 : decode cX11_pin 7 = .ok (.iload_n 1, 1) := by decide +kernel
theorem dX11_pin_8 : decode cX11_pin 8 = .ok (.aload_n 0, 1) := by decide +kernel
theorem dX11_pin_9 : decode cX11_pin 9 = .ok (.getfield 82, 3) := by decide +kernel
theorem dX11_pin_12 : decode cX11_pin 12 = .ok (.getfield 167, 3) := by decide +kernel
theorem dX11_pin_15 : decode cX11_pin 15 = .ok (.invokestatic 121, 3) := by decide +kernel
theorem dX11_pin_18 : decode cX11_pin 18 = .ok (.iload_n 2, 1) := by decide +kernel
theorem dX11_pin_19 : decode cX11_pin 19 = .ok (.aload_n 0, 1) := by decide +kernel
theorem dX11_pin_20 : decode cX11_pin 20 = .ok (.getfield 89, 3) := by decide +kernel
theorem dX11_pin_23 : decode cX11_pin 23 = .ok (.getfield 190, 3) := by decide +kernel
theorem dX11_pin_26 : decode cX11_pin 26 = .ok (.aload_n 0, 1) := by decide +kernel
theorem dX11_pin_27 : decode cX11_pin 27 = .ok (.getfield 82, 3) := by decide +kernel
theorem dX11_pin_30 : decode cX11_pin 30 = .ok (.getfield 170, 3) := by decide +kernel
theorem dX11_pin_33 : decode cX11_pin 33 = .ok (.iload_n 1, 1) := by decide +kernel
theorem dX11_pin_34 : decode cX11_pin 34 = .ok (.iaload, 1) := by decide +kernel
theorem dX11_pin_35 : decode cX11_pin 35 = .ok (.iaload, 1) := by decide +kernel
theorem dX11_pin_36 : decode cX11_pin 36 = .ok (.invokestatic 121, 3) := by decide +kernel
theorem dX11_pin_39 : decode cX11_pin 39 = .ok (.aload_n 0, 1) := by decide +kernel
theorem dX11_pin_40 : decode cX11_pin 40 = .ok (.getfield 82, 3) := by decide +kernel
theorem dX11_pin_43 : decode cX11_pin 43 = .ok (.getfield 193, 3) := by decide +kernel
theorem dX11_pin_46 : decode cX11_pin 46 = .ok (.iload_n 1, 1) := by decide +kernel
theorem dX11_pin_47 : decode cX11_pin 47 = .ok (.iconst 4, 1) := by decide +kernel
theorem dX11_pin_48 : decode cX11_pin 48 = .ok (.imul, 1) := by decide +kernel
theorem dX11_pin_49 : decode cX11_pin 49 = .ok (.iload_n 2, 1) := by decide +kernel
theorem dX11_pin_50 : decode cX11_pin 50 = .ok (.iadd, 1) := by decide +kernel
theorem dX11_pin_51 : decode cX11_pin 51 = .ok (.iaload, 1) := by decide +kernel
theorem dX11_pin_52 : decode cX11_pin 52 = .ok (.ireturn, 1) := by decide +kernel
theorem dX11_net_0 : decode cX11_net 0 = .ok (.lload_n 2, 1) := by decide +kernel
theorem dX11_net_1 : decode cX11_net 1 = .ok (.lload 4, 2) := by decide +kernel
theorem dX11_net_3 : decode cX11_net 3 = .ok (.invokestatic 148, 3) := by decide +kernel
theorem dX11_net_6 : decode cX11_net 6 = .ok (.aload_n 0, 1) := by decide +kernel
theorem dX11_net_7 : decode cX11_net 7 = .ok (.getfield 97, 3) := by decide +kernel
theorem dX11_net_10 : decode cX11_net 10 = .ok (.invokestatic 128, 3) := by decide +kernel
theorem dX11_net_13 : decode cX11_net 13 = .ok (.iload_n 1, 1) := by decide +kernel
theorem dX11_net_14 : decode cX11_net 14 = .ok (.aload_n 0, 1) := by decide +kernel
theorem dX11_net_15 : decode cX11_net 15 = .ok (.getfield 89, 3) := by decide +kernel
theorem dX11_net_18 : decode cX11_net 18 = .ok (.getfield 196, 3) := by decide +kernel
theorem dX11_net_21 : decode cX11_net 21 = .ok (.invokestatic 121, 3) := by decide +kernel
theorem dX11_net_24 : decode cX11_net 24 = .ok (.aload_n 0, 1) := by decide +kernel
theorem dX11_net_25 : decode cX11_net 25 = .ok (.getfield 68, 3) := by decide +kernel
theorem dX11_net_28 : decode cX11_net 28 = .ok (.iload_n 1, 1) := by decide +kernel
theorem dX11_net_29 : decode cX11_net 29 = .ok (.lload_n 2, 1) := by decide +kernel
theorem dX11_net_30 : decode cX11_net 30 = .ok (.l2i, 1) := by decide +kernel
theorem dX11_net_31 : decode cX11_net 31 = .ok (.lload 4, 2) := by decide +kernel
theorem dX11_net_33 : decode cX11_net 33 = .ok (.l2i, 1) := by decide +kernel
theorem dX11_net_34 : decode cX11_net 34 = .ok (.invokestatic 154, 3) := by decide +kernel
theorem dX11_net_37 : decode cX11_net 37 = .ok (.invokevirtual 199, 3) := by decide +kernel
theorem dX11_net_40 : decode cX11_net 40 = .ok (.ireturn, 1) := by decide +kernel
theorem dX11_named_0 : decode cX11_named 0 = .ok (.aload_n 0, 1) := by decide +kernel
theorem dX11_named_1 : decode cX11_named 1 = .ok (.getfield 97, 3) := by decide +kernel
theorem dX11_named_4 : decode cX11_named 4 = .ok (.invokestatic 128, 3) := by decide +kernel
theorem dX11_named_7 : decode cX11_named 7 = .ok (.iload_n 1, 1) := by decide +kernel
theorem dX11_named_8 : decode cX11_named 8 = .ok (.aload_n 0, 1) := by decide +kernel
theorem dX11_named_9 : decode cX11_named 9 = .ok (.getfield 68, 3) := by decide +kernel
theorem dX11_named_12 : decode cX11_named 12 = .ok (.getfield 202, 3) := by decide +kernel
theorem dX11_named_15 : decode cX11_named 15 = .ok (.invokestatic 121, 3) := by decide +kernel
theorem dX11_named_18 : decode cX11_named 18 = .ok (.aload_n 0, 1) := by decide +kernel
theorem dX11_named_19 : decode cX11_named 19 = .ok (.getfield 49, 3) := by decide +kernel
theorem dX11_named_22 : decode cX11_named 22 = .ok (.iload_n 1, 1) := by decide +kernel
theorem dX11_named_23 : decode cX11_named 23 = .ok (.invokevirtual 203, 3) := by decide +kernel
theorem dX11_named_26 : decode cX11_named 26 = .ok (.ireturn, 1) := by decide +kernel
theorem dX11_twice_0 : decode cX11_twice 0 = .ok (.iload_n 1, 1) := by decide +kernel
theorem dX11_twice_1 : decode cX11_twice 1 = .ok (.invokestatic 206, 3) := by decide +kernel
theorem dX11_twice_4 : decode cX11_twice 4 = .ok (.aload_n 0, 1) := by decide +kernel
theorem dX11_twice_5 : decode cX11_twice 5 = .ok (.getfield 97, 3) := by decide +kernel
theorem dX11_twice_8 : decode cX11_twice 8 = .ok (.invokestatic 128, 3) := by decide +kernel
theorem dX11_twice_11 : decode cX11_twice 11 = .ok (.aload_n 0, 1) := by decide +kernel
theorem dX11_twice_12 : decode cX11_twice 12 = .ok (.getfield 49, 3) := by decide +kernel
theorem dX11_twice_15 : decode cX11_twice 15 = .ok (.iload_n 1, 1) := by decide +kernel
theorem dX11_twice_16 : decode cX11_twice 16 = .ok (.invokevirtual 210, 3) := by decide +kernel
theorem dX11_twice_19 : decode cX11_twice 19 = .ok (.ireturn, 1) := by decide +kernel
theorem dX11_bad_0 : decode cX11_bad 0 = .ok (.iload_n 1, 1) := by decide +kernel
theorem dX11_bad_1 : decode cX11_bad 1 = .ok (.invokestatic 206, 3) := by decide +kernel
theorem dX11_bad_4 : decode cX11_bad 4 = .ok (.aload_n 0, 1) := by decide +kernel
theorem dX11_bad_5 : decode cX11_bad 5 = .ok (.getfield 97, 3) := by decide +kernel
theorem dX11_bad_8 : decode cX11_bad 8 = .ok (.invokestatic 128, 3) := by decide +kernel
theorem dX11_bad_11 : decode cX11_bad 11 = .ok (.aload_n 0, 1) := by decide +kernel
theorem dX11_bad_12 : decode cX11_bad 12 = .ok (.getfield 82, 3) := by decide +kernel
theorem dX11_bad_15 : decode cX11_bad 15 = .ok (.iload_n 1, 1) := by decide +kernel
theorem dX11_bad_16 : decode cX11_bad 16 = .ok (.invokevirtual 213, 3) := by decide +kernel
theorem dX11_bad_19 : decode cX11_bad 19 = .ok (.ireturn, 1) := by decide +kernel
theorem dX11_joined_0 : decode cX11_joined 0 = .ok (.aload_n 0, 1) := by decide +kernel
theorem dX11_joined_1 : decode cX11_joined 1 = .ok (.getfield 97, 3) := by decide +kernel
theorem dX11_joined_4 : decode cX11_joined 4 = .ok (.invokestatic 128, 3) := by decide +kernel
theorem dX11_joined_7 : decode cX11_joined 7 = .ok (.iload_n 1, 1) := by decide +kernel
theorem dX11_joined_8 : decode cX11_joined 8 = .ok (.aload_n 0, 1) := by decide +kernel
theorem dX11_joined_9 : decode cX11_joined 9 = .ok (.getfield 89, 3) := by decide +kernel
theorem dX11_joined_12 : decode cX11_joined 12 = .ok (.getfield 118, 3) := by decide +kernel
theorem dX11_joined_15 : decode cX11_joined 15 = .ok (.invokestatic 121, 3) := by decide +kernel
theorem dX11_joined_18 : decode cX11_joined 18 = .ok (.aload_n 0, 1) := by decide +kernel
theorem dX11_joined_19 : decode cX11_joined 19 = .ok (.getfield 82, 3) := by decide +kernel
theorem dX11_joined_22 : decode cX11_joined 22 = .ok (.getfield 216, 3) := by decide +kernel
theorem dX11_joined_25 : decode cX11_joined 25 = .ok (.iload_n 1, 1) := by decide +kernel
theorem dX11_joined_26 : decode cX11_joined 26 = .ok (.iaload, 1) := by decide +kernel
theorem dX11_joined_27 : decode cX11_joined 27 = .ok (.ireturn, 1) := by decide +kernel
theorem dX11_count_0 : decode cX11_count 0 = .ok (.iload_n 1, 1) := by decide +kernel
theorem dX11_count_1 : decode cX11_count 1 = .ok (.bipush 9, 2) := by decide +kernel
theorem dX11_count_3 : decode cX11_count 3 = .ok (.invokestatic 121, 3) := by decide +kernel
theorem dX11_count_6 : decode cX11_count 6 = .ok (.iload_n 1, 1) := by decide +kernel
theorem dX11_count_7 : decode cX11_count 7 = .ok (.tableswitch 131 0 7 #[45, 53, 61, 69, 77, 96, 115, 123], 45) := by decide +kernel
theorem dX11_count_52 : decode cX11_count 52 = .ok (.aload_n 0, 1) := by decide +kernel
theorem dX11_count_53 : decode cX11_count 53 = .ok (.getfield 89, 3) := by decide +kernel
theorem dX11_count_56 : decode cX11_count 56 = .ok (.getfield 219, 3) := by decide +kernel
theorem dX11_count_59 : decode cX11_count 59 = .ok (.ireturn, 1) := by decide +kernel
theorem dX11_count_60 : decode cX11_count 60 = .ok (.aload_n 0, 1) := by decide +kernel
theorem dX11_count_61 : decode cX11_count 61 = .ok (.getfield 89, 3) := by decide +kernel
theorem dX11_count_64 : decode cX11_count 64 = .ok (.getfield 196, 3) := by decide +kernel
theorem dX11_count_67 : decode cX11_count 67 = .ok (.ireturn, 1) := by decide +kernel
theorem dX11_count_68 : decode cX11_count 68 = .ok (.aload_n 0, 1) := by decide +kernel
theorem dX11_count_69 : decode cX11_count 69 = .ok (.getfield 89, 3) := by decide +kernel
theorem dX11_count_72 : decode cX11_count 72 = .ok (.getfield 221, 3) := by decide +kernel
theorem dX11_count_75 : decode cX11_count 75 = .ok (.ireturn, 1) := by decide +kernel
theorem dX11_count_76 : decode cX11_count 76 = .ok (.aload_n 0, 1) := by decide +kernel
theorem dX11_count_77 : decode cX11_count 77 = .ok (.getfield 89, 3) := by decide +kernel
theorem dX11_count_80 : decode cX11_count 80 = .ok (.getfield 118, 3) := by decide +kernel
theorem dX11_count_83 : decode cX11_count 83 = .ok (.ireturn, 1) := by decide +kernel
theorem dX11_count_84 : decode cX11_count 84 = .ok (.aload_n 0, 1) := by decide +kernel
theorem dX11_count_85 : decode cX11_count 85 = .ok (.getfield 97, 3) := by decide +kernel
theorem dX11_count_88 : decode cX11_count 88 = .ok (.ifCond .eq 13, 3) := by decide +kernel
theorem dX11_count_91 : decode cX11_count 91 = .ok (.aload_n 0, 1) := by decide +kernel
theorem dX11_count_92 : decode cX11_count 92 = .ok (.getfield 82, 3) := by decide +kernel
theorem dX11_count_95 : decode cX11_count 95 = .ok (.getfield 167, 3) := by decide +kernel
theorem dX11_count_98 : decode cX11_count 98 = .ok (.goto 4, 3) := by decide +kernel
theorem dX11_count_101 : decode cX11_count 101 = .ok (.iconst 0, 1) := by decide +kernel
theorem dX11_count_102 : decode cX11_count 102 = .ok (.ireturn, 1) := by decide +kernel
theorem dX11_count_103 : decode cX11_count 103 = .ok (.aload_n 0, 1) := by decide +kernel
theorem dX11_count_104 : decode cX11_count 104 = .ok (.getfield 97, 3) := by decide +kernel
theorem dX11_count_107 : decode cX11_count 107 = .ok (.ifCond .eq 13, 3) := by decide +kernel
theorem dX11_count_110 : decode cX11_count 110 = .ok (.aload_n 0, 1) := by decide +kernel
theorem dX11_count_111 : decode cX11_count 111 = .ok (.getfield 68, 3) := by decide +kernel
theorem dX11_count_114 : decode cX11_count 114 = .ok (.getfield 202, 3) := by decide +kernel
theorem dX11_count_117 : decode cX11_count 117 = .ok (.goto 4, 3) := by decide +kernel
theorem dX11_count_120 : decode cX11_count 120 = .ok (.iconst 0, 1) := by decide +kernel
theorem dX11_count_121 : decode cX11_count 121 = .ok (.ireturn, 1) := by decide +kernel
theorem dX11_count_122 : decode cX11_count 122 = .ok (.aload_n 0, 1) := by decide +kernel
theorem dX11_count_123 : decode cX11_count 123 = .ok (.getfield 42, 3) := by decide +kernel
theorem dX11_count_126 : decode cX11_count 126 = .ok (.getfield 125, 3) := by decide +kernel
theorem dX11_count_129 : decode cX11_count 129 = .ok (.ireturn, 1) := by decide +kernel
theorem dX11_count_130 : decode cX11_count 130 = .ok (.aload_n 0, 1) := by decide +kernel
theorem dX11_count_131 : decode cX11_count 131 = .ok (.getfield 49, 3) := by decide +kernel
theorem dX11_count_134 : decode cX11_count 134 = .ok (.getfield 152, 3) := by decide +kernel
theorem dX11_count_137 : decode cX11_count 137 = .ok (.ireturn, 1) := by decide +kernel
theorem dX11_count_138 : decode cX11_count 138 = .ok (.aload_n 0, 1) := by decide +kernel
theorem dX11_count_139 : decode cX11_count 139 = .ok (.getfield 26, 3) := by decide +kernel
theorem dX11_count_142 : decode cX11_count 142 = .ok (.getfield 111, 3) := by decide +kernel
theorem dX11_count_145 : decode cX11_count 145 = .ok (.ireturn, 1) := by decide +kernel
theorem dX11_findAll_0 : decode cX11_findAll 0 = .ok (.aload_n 0, 1) := by decide +kernel
theorem dX11_findAll_1 : decode cX11_findAll 1 = .ok (.getfield 56, 3) := by decide +kernel
theorem dX11_findAll_4 : decode cX11_findAll 4 = .ok (.aload_n 0, 1) := by decide +kernel
theorem dX11_findAll_5 : decode cX11_findAll 5 = .ok (.getfield 89, 3) := by decide +kernel
theorem dX11_findAll_8 : decode cX11_findAll 8 = .ok (.aload_n 0, 1) := by decide +kernel
theorem dX11_findAll_9 : decode cX11_findAll 9 = .ok (.getfield 42, 3) := by decide +kernel
theorem dX11_findAll_12 : decode cX11_findAll 12 = .ok (.invokevirtual 224, 3) := by decide +kernel
theorem dX11_findAll_15 : decode cX11_findAll 15 = .ok (.aload_n 0, 1) := by decide +kernel
theorem dX11_findAll_16 : decode cX11_findAll 16 = .ok (.getfield 68, 3) := by decide +kernel
theorem dX11_findAll_19 : decode cX11_findAll 19 = .ok (.aload_n 0, 1) := by decide +kernel
theorem dX11_findAll_20 : decode cX11_findAll 20 = .ok (.getfield 89, 3) := by decide +kernel
theorem dX11_findAll_23 : decode cX11_findAll 23 = .ok (.invokevirtual 228, 3) := by decide +kernel
theorem dX11_findAll_26 : decode cX11_findAll 26 = .ok (.aload_n 0, 1) := by decide +kernel
theorem dX11_findAll_27 : decode cX11_findAll 27 = .ok (.getfield 49, 3) := by decide +kernel
theorem dX11_findAll_30 : decode cX11_findAll 30 = .ok (.aload_n 0, 1) := by decide +kernel
theorem dX11_findAll_31 : decode cX11_findAll 31 = .ok (.getfield 89, 3) := by decide +kernel
theorem dX11_findAll_34 : decode cX11_findAll 34 = .ok (.aload_n 0, 1) := by decide +kernel
theorem dX11_findAll_35 : decode cX11_findAll 35 = .ok (.getfield 68, 3) := by decide +kernel
theorem dX11_findAll_38 : decode cX11_findAll 38 = .ok (.invokevirtual 232, 3) := by decide +kernel
theorem dX11_findAll_41 : decode cX11_findAll 41 = .ok (.aload_n 0, 1) := by decide +kernel
theorem dX11_findAll_42 : decode cX11_findAll 42 = .ok (.getfield 82, 3) := by decide +kernel
theorem dX11_findAll_45 : decode cX11_findAll 45 = .ok (.aload_n 0, 1) := by decide +kernel
theorem dX11_findAll_46 : decode cX11_findAll 46 = .ok (.getfield 89, 3) := by decide +kernel
theorem dX11_findAll_49 : decode cX11_findAll 49 = .ok (.invokevirtual 236, 3) := by decide +kernel
theorem dX11_findAll_52 : decode cX11_findAll 52 = .ok (.ireturn, 1) := by decide +kernel
theorem dX11_mustBeBelow_0 : decode cX11_mustBeBelow 0 = .ok (.iload_n 0, 1) := by decide +kernel
theorem dX11_mustBeBelow_1 : decode cX11_mustBeBelow 1 = .ok (.ifCond .lt 8, 3) := by decide +kernel
theorem dX11_mustBeBelow_4 : decode cX11_mustBeBelow 4 = .ok (.iload_n 0, 1) := by decide +kernel
theorem dX11_mustBeBelow_5 : decode cX11_mustBeBelow 5 = .ok (.iload_n 1, 1) := by decide +kernel
theorem dX11_mustBeBelow_6 : decode cX11_mustBeBelow 6 = .ok (.if_icmp .lt 11, 3) := by decide +kernel
theorem dX11_mustBeBelow_9 : decode cX11_mustBeBelow 9 = .ok (.new 239, 3) := by decide +kernel
theorem dX11_mustBeBelow_12 : decode cX11_mustBeBelow 12 = .ok (.dup, 1) := by decide +kernel
theorem dX11_mustBeBelow_13 : decode cX11_mustBeBelow 13 = .ok (.invokespecial 241, 3) := by decide +kernel
theorem dX11_mustBeBelow_16 : decode cX11_mustBeBelow 16 = .ok (.athrow, 1) := by decide +kernel
theorem dX11_mustBeBelow_17 : decode cX11_mustBeBelow 17 = .ok (.return_, 1) := by decide +kernel
theorem dX11_mustNotBeNegative_0 : decode cX11_mustNotBeNegative 0 = .ok (.iload_n 0, 1) := by decide +kernel
theorem dX11_mustNotBeNegative_1 : decode cX11_mustNotBeNegative 1 = .ok (.ifCond .ge 11, 3) := by decide +kernel
theorem dX11_mustNotBeNegative_4 : decode cX11_mustNotBeNegative 4 = .ok (.new 239, 3) := by decide +kernel
theorem dX11_mustNotBeNegative_7 : decode cX11_mustNotBeNegative 7 = .ok (.dup, 1) := by decide +kernel
theorem dX11_mustNotBeNegative_8 : decode cX11_mustNotBeNegative 8 = .ok (.invokespecial 241, 3) := by decide +kernel
theorem dX11_mustNotBeNegative_11 : decode cX11_mustNotBeNegative 11 = .ok (.athrow, 1) := by decide +kernel
theorem dX11_mustNotBeNegative_12 : decode cX11_mustNotBeNegative 12 = .ok (.return_, 1) := by decide +kernel
theorem dX11_mustBeSquare_0 : decode cX11_mustBeSquare 0 = .ok (.lload_n 0, 1) := by decide +kernel
theorem dX11_mustBeSquare_1 : decode cX11_mustBeSquare 1 = .ok (.lconst 0, 1) := by decide +kernel
theorem dX11_mustBeSquare_2 : decode cX11_mustBeSquare 2 = .ok (.lcmp, 1) := by decide +kernel
theorem dX11_mustBeSquare_3 : decode cX11_mustBeSquare 3 = .ok (.ifCond .lt 25, 3) := by decide +kernel
theorem dX11_mustBeSquare_6 : decode cX11_mustBeSquare 6 = .ok (.lload_n 0, 1) := by decide +kernel
theorem dX11_mustBeSquare_7 : decode cX11_mustBeSquare 7 = .ok (.ldc2_w 139, 3) := by decide +kernel
theorem dX11_mustBeSquare_10 : decode cX11_mustBeSquare 10 = .ok (.lcmp, 1) := by decide +kernel
theorem dX11_mustBeSquare_11 : decode cX11_mustBeSquare 11 = .ok (.ifCond .ge 17, 3) := by decide +kernel
theorem dX11_mustBeSquare_14 : decode cX11_mustBeSquare 14 = .ok (.lload_n 2, 1) := by decide +kernel
theorem dX11_mustBeSquare_15 : decode cX11_mustBeSquare 15 = .ok (.lconst 0, 1) := by decide +kernel
theorem dX11_mustBeSquare_16 : decode cX11_mustBeSquare 16 = .ok (.lcmp, 1) := by decide +kernel
theorem dX11_mustBeSquare_17 : decode cX11_mustBeSquare 17 = .ok (.ifCond .lt 11, 3) := by decide +kernel
theorem dX11_mustBeSquare_20 : decode cX11_mustBeSquare 20 = .ok (.lload_n 2, 1) := by decide +kernel
theorem dX11_mustBeSquare_21 : decode cX11_mustBeSquare 21 = .ok (.ldc2_w 139, 3) := by decide +kernel
theorem dX11_mustBeSquare_24 : decode cX11_mustBeSquare 24 = .ok (.lcmp, 1) := by decide +kernel
theorem dX11_mustBeSquare_25 : decode cX11_mustBeSquare 25 = .ok (.ifCond .lt 11, 3) := by decide +kernel
theorem dX11_mustBeSquare_28 : decode cX11_mustBeSquare 28 = .ok (.new 239, 3) := by decide +kernel
theorem dX11_mustBeSquare_31 : decode cX11_mustBeSquare 31 = .ok (.dup, 1) := by decide +kernel
theorem dX11_mustBeSquare_32 : decode cX11_mustBeSquare 32 = .ok (.invokespecial 241, 3) := by decide +kernel
theorem dX11_mustBeSquare_35 : decode cX11_mustBeSquare 35 = .ok (.athrow, 1) := by decide +kernel
theorem dX11_mustBeSquare_36 : decode cX11_mustBeSquare 36 = .ok (.return_, 1) := by decide +kernel
theorem dX11_mustBeTrue_0 : decode cX11_mustBeTrue 0 = .ok (.iload_n 0, 1) := by decide +kernel
theorem dX11_mustBeTrue_1 : decode cX11_mustBeTrue 1 = .ok (.ifCond .ne 11, 3) := by decide +kernel
theorem dX11_mustBeTrue_4 : decode cX11_mustBeTrue 4 = .ok (.new 242, 3) := by decide +kernel
theorem dX11_mustBeTrue_7 : decode cX11_mustBeTrue 7 = .ok (.dup, 1) := by decide +kernel
theorem dX11_mustBeTrue_8 : decode cX11_mustBeTrue 8 = .ok (.invokespecial 244, 3) := by decide +kernel
theorem dX11_mustBeTrue_11 : decode cX11_mustBeTrue 11 = .ok (.athrow, 1) := by decide +kernel
theorem dX11_mustBeTrue_12 : decode cX11_mustBeTrue 12 = .ok (.return_, 1) := by decide +kernel
theorem dX11_squareAt_0 : decode cX11_squareAt 0 = .ok (.iload_n 1, 1) := by decide +kernel
theorem dX11_squareAt_1 : decode cX11_squareAt 1 = .ok (.bipush 64, 2) := by decide +kernel
theorem dX11_squareAt_3 : decode cX11_squareAt 3 = .ok (.imul, 1) := by decide +kernel
theorem dX11_squareAt_4 : decode cX11_squareAt 4 = .ok (.iload_n 0, 1) := by decide +kernel
theorem dX11_squareAt_5 : decode cX11_squareAt 5 = .ok (.iadd, 1) := by decide +kernel
theorem dX11_squareAt_6 : decode cX11_squareAt 6 = .ok (.ireturn, 1) := by decide +kernel
theorem dX11_columnOf_0 : decode cX11_columnOf 0 = .ok (.iload_n 0, 1) := by decide +kernel
theorem dX11_columnOf_1 : decode cX11_columnOf 1 = .ok (.bipush 64, 2) := by decide +kernel
theorem dX11_columnOf_3 : decode cX11_columnOf 3 = .ok (.irem, 1) := by decide +kernel
theorem dX11_columnOf_4 : decode cX11_columnOf 4 = .ok (.ireturn, 1) := by decide +kernel
theorem dX11_rowOf_0 : decode cX11_rowOf 0 = .ok (.iload_n 0, 1) := by decide +kernel
theorem dX11_rowOf_1 : decode cX11_rowOf 1 = .ok (.bipush 64, 2) := by decide +kernel
theorem dX11_rowOf_3 : decode cX11_rowOf 3 = .ok (.idiv, 1) := by decide +kernel
theorem dX11_rowOf_4 : decode cX11_rowOf 4 = .ok (.ireturn, 1) := by decide +kernel
theorem dX11_leftmost_0 : decode cX11_leftmost 0 = .ok (.lload_n 0, 1) := by decide +kernel
theorem dX11_leftmost_1 : decode cX11_leftmost 1 = .ok (.lload_n 0, 1) := by decide +kernel
theorem dX11_leftmost_2 : decode cX11_leftmost 2 = .ok (.lneg, 1) := by decide +kernel
theorem dX11_leftmost_3 : decode cX11_leftmost 3 = .ok (.land, 1) := by decide +kernel
theorem dX11_leftmost_4 : decode cX11_leftmost 4 = .ok (.lconst 1, 1) := by decide +kernel
theorem dX11_leftmost_5 : decode cX11_leftmost 5 = .ok (.lsub, 1) := by decide +kernel
theorem dX11_leftmost_6 : decode cX11_leftmost 6 = .ok (.invokestatic 245, 3) := by decide +kernel
theorem dX11_leftmost_9 : decode cX11_leftmost 9 = .ok (.ireturn, 1) := by decide +kernel
theorem dX11_rowAt_0 : decode cX11_rowAt 0 = .ok (.iload_n 1, 1) := by decide +kernel
theorem dX11_rowAt_1 : decode cX11_rowAt 1 = .ok (.ifCond .lt 9, 3) := by decide +kernel
theorem dX11_rowAt_4 : decode cX11_rowAt 4 = .ok (.iload_n 1, 1) := by decide +kernel
theorem dX11_rowAt_5 : decode cX11_rowAt 5 = .ok (.bipush 64, 2) := by decide +kernel
theorem dX11_rowAt_7 : decode cX11_rowAt 7 = .ok (.if_icmp .lt 7, 3) := by decide +kernel
theorem dX11_rowAt_10 : decode cX11_rowAt 10 = .ok (.lconst 0, 1) := by decide +kernel
theorem dX11_rowAt_11 : decode cX11_rowAt 11 = .ok (.goto 6, 3) := by decide +kernel
theorem dX11_rowAt_14 : decode cX11_rowAt 14 = .ok (.aload_n 0, 1) := by decide +kernel
theorem dX11_rowAt_15 : decode cX11_rowAt 15 = .ok (.iload_n 1, 1) := by decide +kernel
theorem dX11_rowAt_16 : decode cX11_rowAt 16 = .ok (.laload, 1) := by decide +kernel
theorem dX11_rowAt_17 : decode cX11_rowAt 17 = .ok (.lreturn, 1) := by decide +kernel
