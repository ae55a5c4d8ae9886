theorem dX5_init_0 : decode cX5_init 0 = .ok (.aload_n 0, 1) := by decide +kernel
theorem dX5_init_1 : decode cX5_init 1 = .ok (.invokespecial 3, 3) := by decide +kernel
theorem dX5_init_4 : decode cX5_init 4 = .ok (.aload_n 0, 1) := by decide +kernel
theorem dX5_init_5 : decode cX5_init 5 = .ok (.bipush 64, 2) := by decide +kernel
theorem dX5_init_7 : decode cX5_init 7 = .ok (.newarray .long, 2) := by decide +kernel
theorem dX5_init_9 : decode cX5_init 9 = .ok (.putfield 9, 3) := by decide +kernel
theorem dX5_init_12 : decode cX5_init 12 = .ok (.aload_n 0, 1) := by decide +kernel
theorem dX5_init_13 : decode cX5_init 13 = .ok (.sipush 4096, 3) := by decide +kernel
theorem dX5_init_16 : decode cX5_init 16 = .ok (.newarray .int, 2) := by decide +kernel
theorem dX5_init_18 : decode cX5_init 18 = .ok (.putfield 15, 3) := by decide +kernel
theorem dX5_init_21 : decode cX5_init 21 = .ok (.aload_n 0, 1) := by decide +kernel
theorem dX5_init_22 : decode cX5_init 22 = .ok (.iconst 0, 1) := by decide +kernel
theorem dX5_init_23 : decode cX5_init 23 = .ok (.putfield 19, 3) := by decide +kernel
theorem dX5_init_26 : decode cX5_init 26 = .ok (.aload_n 0, 1) := by decide +kernel
theorem dX5_init_27 : decode cX5_init 27 = .ok (.iconst 0, 1) := by decide +kernel
theorem dX5_init_28 : decode cX5_init 28 = .ok (.putfield 23, 3) := by decide +kernel
theorem dX5_init_31 : decode cX5_init 31 = .ok (.aload_n 0, 1) := by decide +kernel
theorem dX5_init_32 : decode cX5_init 32 = .ok (.iconst (-1), 1) := by decide +kernel
theorem dX5_init_33 : decode cX5_init 33 = .ok (.putfield 26, 3) := by decide +kernel
theorem dX5_init_36 : decode cX5_init 36 = .ok (.aload_n 0, 1) := by decide +kernel
theorem dX5_init_37 : decode cX5_init 37 = .ok (.bipush 64, 2) := by decide +kernel
theorem dX5_init_39 : decode cX5_init 39 = .ok (.newarray .long, 2) := by decide +kernel
theorem dX5_init_41 : decode cX5_init 41 = .ok (.putfield 29, 3) := by decide +kernel
theorem dX5_init_44 : decode cX5_init 44 = .ok (.return_, 1) := by decide +kernel
theorem dX5_open_0 : decode cX5_open 0 = .ok (.aload_n 1, 1) := by decide +kernel
theorem dX5_open_1 : decode cX5_open 1 = .ok (.iconst 0, 1) := by decide +kernel
theorem dX5_open_2 : decode cX5_open 2 = .ok (.aload_n 0, 1) := by decide +kernel
theorem dX5_open_3 : decode cX5_open 3 = .ok (.getfield 29, 3) := by decide +kernel
theorem dX5_open_6 : decode cX5_open 6 = .ok (.iconst 0, 1) := by decide +kernel
theorem dX5_open_7 : decode cX5_open 7 = .ok (.bipush 64, 2) := by decide +kernel
theorem dX5_open_9 : decode cX5_open 9 = .ok (.invokestatic 32, 3) := by decide +kernel
theorem dX5_open_12 : decode cX5_open 12 = .ok (.aload_n 0, 1) := by decide +kernel
theorem dX5_open_13 : decode cX5_open 13 = .ok (.invokevirtual 38, 3) := by decide +kernel
theorem dX5_open_16 : decode cX5_open 16 = .ok (.aload_n 0, 1) := by decide +kernel
theorem dX5_open_17 : decode cX5_open 17 = .ok (.iconst 0, 1) := by decide +kernel
theorem dX5_open_18 : decode cX5_open 18 = .ok (.putfield 23, 3) := by decide +kernel
theorem dX5_open_21 : decode cX5_open 21 = .ok (.aload_n 0, 1) := by decide +kernel
theorem dX5_open_22 : decode cX5_open 22 = .ok (.iconst (-1), 1) := by decide +kernel
theorem dX5_open_23 : decode cX5_open 23 = .ok (.putfield 26, 3) := by decide +kernel
theorem dX5_open_26 : decode cX5_open 26 = .ok (.return_, 1) := by decide +kernel
theorem dX5_next_0 : decode cX5_next 0 = .ok (.aload_n 0, 1) := by decide +kernel
theorem dX5_next_1 : decode cX5_next 1 = .ok (.invokevirtual 38, 3) := by decide +kernel
theorem dX5_next_4 : decode cX5_next 4 = .ok (.aload_n 0, 1) := by decide +kernel
theorem dX5_next_5 : decode cX5_next 5 = .ok (.getfield 23, 3) := by decide +kernel
theorem dX5_next_8 : decode cX5_next 8 = .ok (.bipush 64, 2) := by decide +kernel
theorem dX5_next_10 : decode cX5_next 10 = .ok (.if_icmp .ge 30, 3) := by decide +kernel
theorem dX5_next_13 : decode cX5_next 13 = .ok (.aload_n 0, 1) := by decide +kernel
theorem dX5_next_14 : decode cX5_next 14 = .ok (.getfield 29, 3) := by decide +kernel
theorem dX5_next_17 : decode cX5_next 17 = .ok (.aload_n 0, 1) := by decide +kernel
theorem dX5_next_18 : decode cX5_next 18 = .ok (.getfield 23, 3) := by decide +kernel
theorem dX5_next_21 : decode cX5_next 21 = .ok (.laload, 1) := by decide +kernel
theorem dX5_next_22 : decode cX5_next 22 = .ok (.lconst 0, 1) := by decide +kernel
theorem dX5_next_23 : decode cX5_next 23 = .ok (.lcmp, 1) := by decide +kernel
theorem dX5_next_24 : decode cX5_next 24 = .ok (.ifCond .ne 16, 3) := by decide +kernel
theorem dX5_next_27 : decode cX5_next 27 = .ok (.aload_n 0, 1) := by decide +kernel
theorem dX5_next_28 : decode cX5_next 28 = .ok (.dup, 1) := by decide +kernel
theorem dX5_next_29 : decode cX5_next 29 = .ok (.getfield 23, 3) := by decide +kernel
theorem dX5_next_32 : decode cX5_next 32 = .ok (.iconst 1, 1) := by decide +kernel
theorem dX5_next_33 : decode cX5_next 33 = .ok (.iadd, 1) := by decide +kernel
theorem dX5_next_34 : decode cX5_next 34 = .ok (.putfield 23, 3) := by decide +kernel
theorem dX5_next_37 : decode cX5_next 37 = .ok (.goto (-33), 3) := by decide +kernel
theorem dX5_next_40 : decode cX5_next 40 = .ok (.aload_n 0, 1) := by decide +kernel
theorem dX5_next_41 : decode cX5_next 41 = .ok (.aload_n 0, 1) := by decide +kernel
theorem dX5_next_42 : decode cX5_next 42 = .ok (.getfield 23, 3) := by decide +kernel
theorem dX5_next_45 : decode cX5_next 45 = .ok (.putfield 26, 3) := by decide +kernel
theorem dX5_next_48 : decode cX5_next 48 = .ok (.aload_n 0, 1) := by decide +kernel
theorem dX5_next_49 : decode cX5_next 49 = .ok (.getfield 23, 3) := by decide +kernel
theorem dX5_next_52 : decode cX5_next 52 = .ok (.bipush 64, 2) := by decide +kernel
theorem dX5_next_54 : decode cX5_next 54 = .ok (.if_icmp .lt 5, 3) := by decide +kernel
theorem dX5_next_57 : decode cX5_next 57 = .ok (.iconst 0, 1) := by decide +kernel
theorem dX5_next_58 : decode cX5_next 58 = .ok (.ireturn, 1) := by decide +kernel
theorem dX5_next_59 : decode cX5_next 59 = .ok (.aload_n 0, 1) := by decide +kernel
theorem dX5_next_60 : decode cX5_next 60 = .ok (.aload_n 0, 1) := by decide +kernel
theorem dX5_next_61 : decode cX5_next 61 = .ok (.getfield 29, 3) := by decide +kernel
theorem dX5_next_64 : decode cX5_next 64 = .ok (.aload_n 0, 1) := by decide +kernel
theorem dX5_next_65 : decode cX5_next 65 = .ok (.getfield 23, 3) := by decide +kernel
theorem dX5_next_68 : decode cX5_next 68 = .ok (.laload, 1) := by decide +kernel
theorem dX5_next_69 : decode cX5_next 69 = .ok (.invokestatic 41, 3) := by decide +kernel
theorem dX5_next_72 : decode cX5_next 72 = .ok (.aload_n 0, 1) := by decide +kernel
theorem dX5_next_73 : decode cX5_next 73 = .ok (.getfield 23, 3) := by decide +kernel
theorem dX5_next_76 : decode cX5_next 76 = .ok (.invokevirtual 45, 3) := by decide +kernel
theorem dX5_next_79 : decode cX5_next 79 = .ok (.iconst 0, 1) := by decide +kernel
theorem dX5_next_80 : decode cX5_next 80 = .ok (.istore_n 1, 1) := by decide +kernel
theorem dX5_next_81 : decode cX5_next 81 = .ok (.iload_n 1, 1) := by decide +kernel
theorem dX5_next_82 : decode cX5_next 82 = .ok (.sipush 4096, 3) := by decide +kernel
theorem dX5_next_85 : decode cX5_next 85 = .ok (.if_icmp .ge 39, 3) := by decide +kernel
theorem dX5_next_88 : decode cX5_next 88 = .ok (.iload_n 1, 1) := by decide +kernel
theorem dX5_next_89 : decode cX5_next 89 = .ok (.aload_n 0, 1) := by decide +kernel
theorem dX5_next_90 : decode cX5_next 90 = .ok (.getfield 19, 3) := by decide +kernel
theorem dX5_next_93 : decode cX5_next 93 = .ok (.if_icmp .ge 31, 3) := by decide +kernel
theorem dX5_next_96 : decode cX5_next 96 = .ok (.aload_n 0, 1) := by decide +kernel
theorem dX5_next_97 : decode cX5_next 97 = .ok (.aload_n 0, 1) := by decide +kernel
theorem dX5_next_98 : decode cX5_next 98 = .ok (.getfield 15, 3) := by decide +kernel
theorem dX5_next_101 : decode cX5_next 101 = .ok (.iload_n 1, 1) := by decide +kernel
theorem dX5_next_102 : decode cX5_next 102 = .ok (.iaload, 1) := by decide +kernel
theorem dX5_next_103 : decode cX5_next 103 = .ok (.invokestatic 49, 3) := by decide +kernel
theorem dX5_next_106 : decode cX5_next 106 = .ok (.aload_n 0, 1) := by decide +kernel
theorem dX5_next_107 : decode cX5_next 107 = .ok (.getfield 15, 3) := by decide +kernel
theorem dX5_next_110 : decode cX5_next 110 = .ok (.iload_n 1, 1) := by decide +kernel
theorem dX5_next_111 : decode cX5_next 111 = .ok (.iaload, 1) := by decide +kernel
theorem dX5_next_112 : decode cX5_next 112 = .ok (.invokestatic 53, 3) := by decide +kernel
theorem dX5_next_115 : decode cX5_next 115 = .ok (.invokevirtual 56, 3) := by decide +kernel
theorem dX5_next_118 : decode cX5_next 118 = .ok (.iinc 1 1, 3) := by decide +kernel
theorem dX5_next_121 : decode cX5_next 121 = .ok (.goto (-40), 3) := by decide +kernel
theorem dX5_next_124 : decode cX5_next 124 = .ok (.iconst 1, 1) := by decide +kernel
theorem dX5_next_125 : decode cX5_next 125 = .ok (.ireturn, 1) := by decide +kernel
theorem dX5_dropShape_0 : decode cX5_dropShape 0 = .ok (.aload_n 0, 1) := by decide +kernel
theorem dX5_dropShape_1 : decode cX5_dropShape 1 = .ok (.getfield 23, 3) := by decide +kernel
theorem dX5_dropShape_4 : decode cX5_dropShape 4 = .ok (.istore_n 1, 1) := by decide +kernel
theorem dX5_dropShape_5 : decode cX5_dropShape 5 = .ok (.iload_n 1, 1) := by decide +kernel
theorem dX5_dropShape_6 : decode cX5_dropShape 6 = .ok (.aload_n 0, 1) := by decide +kernel
theorem dX5_dropShape_7 : decode cX5_dropShape 7 = .ok (.getfield 26, 3) := by decide +kernel
theorem dX5_dropShape_10 : decode cX5_dropShape 10 = .ok (.if_icmp .gt 22, 3) := by decide +kernel
theorem dX5_dropShape_13 : decode cX5_dropShape 13 = .ok (.iload_n 1, 1) := by decide +kernel
theorem dX5_dropShape_14 : decode cX5_dropShape 14 = .ok (.bipush 64, 2) := by decide +kernel
theorem dX5_dropShape_16 : decode cX5_dropShape 16 = .ok (.if_icmp .ge 16, 3) := by decide +kernel
theorem dX5_dropShape_19 : decode cX5_dropShape 19 = .ok (.aload_n 0, 1) := by decide +kernel
theorem dX5_dropShape_20 : decode cX5_dropShape 20 = .ok (.getfield 9, 3) := by decide +kernel
theorem dX5_dropShape_23 : decode cX5_dropShape 23 = .ok (.iload_n 1, 1) := by decide +kernel
theorem dX5_dropShape_24 : decode cX5_dropShape 24 = .ok (.lconst 0, 1) := by decide +kernel
theorem dX5_dropShape_25 : decode cX5_dropShape 25 = .ok (.lastore, 1) := by decide +kernel
theorem dX5_dropShape_26 : decode cX5_dropShape 26 = .ok (.iinc 1 1, 3) := by decide +kernel
theorem dX5_dropShape_29 : decode cX5_dropShape 29 = .ok (.goto (-24), 3) := by decide +kernel
theorem dX5_dropShape_32 : decode cX5_dropShape 32 = .ok (.aload_n 0, 1) := by decide +kernel
theorem dX5_dropShape_33 : decode cX5_dropShape 33 = .ok (.iconst 0, 1) := by decide +kernel
theorem dX5_dropShape_34 : decode cX5_dropShape 34 = .ok (.putfield 19, 3) := by decide +kernel
theorem dX5_dropShape_37 : decode cX5_dropShape 37 = .ok (.return_, 1) := by decide +kernel
theorem dX5_takeBeside_0 : decode cX5_takeBeside 0 = .ok (.aload_n 0, 1) := by decide +kernel
theorem dX5_takeBeside_1 : decode cX5_takeBeside 1 = .ok (.iload_n 1, 1) := by decide +kernel
theorem dX5_takeBeside_2 : decode cX5_takeBeside 2 = .ok (.iconst 1, 1) := by decide +kernel
theorem dX5_takeBeside_3 : decode cX5_takeBeside 3 = .ok (.isub, 1) := by decide +kernel
theorem dX5_takeBeside_4 : decode cX5_takeBeside 4 = .ok (.iload_n 2, 1) := by decide +kernel
theorem dX5_takeBeside_5 : decode cX5_takeBeside 5 = .ok (.invokevirtual 45, 3) := by decide +kernel
theorem dX5_takeBeside_8 : decode cX5_takeBeside 8 = .ok (.aload_n 0, 1) := by decide +kernel
theorem dX5_takeBeside_9 : decode cX5_takeBeside 9 = .ok (.iload_n 1, 1) := by decide +kernel
theorem dX5_takeBeside_10 : decode cX5_takeBeside 10 = .ok (.iconst 1, 1) := by decide +kernel
theorem dX5_takeBeside_11 : decode cX5_takeBeside 11 = .ok (.iadd, 1) := by decide +kernel
theorem dX5_takeBeside_12 : decode cX5_takeBeside 12 = .ok (.iload_n 2, 1) := by decide +kernel
theorem dX5_takeBeside_13 : decode cX5_takeBeside 13 = .ok (.invokevirtual 45, 3) := by decide +kernel
theorem dX5_takeBeside_16 : decode cX5_takeBeside 16 = .ok (.aload_n 0, 1) := by decide +kernel
theorem dX5_takeBeside_17 : decode cX5_takeBeside 17 = .ok (.iload_n 1, 1) := by decide +kernel
theorem dX5_takeBeside_18 : decode cX5_takeBeside 18 = .ok (.iload_n 2, 1) := by decide +kernel
theorem dX5_takeBeside_19 : decode cX5_takeBeside 19 = .ok (.iconst 1, 1) := by decide +kernel
theorem dX5_takeBeside_20 : decode cX5_takeBeside 20 = .ok (.isub, 1) := by decide +kernel
theorem dX5_takeBeside_21 : decode cX5_takeBeside 21 = .ok (.invokevirtual 45, 3) := by decide +kernel
theorem dX5_takeBeside_24 : decode cX5_takeBeside 24 = .ok (.aload_n 0, 1) := by decide +kernel
theorem dX5_takeBeside_25 : decode cX5_takeBeside 25 = .ok (.iload_n 1, 1) := by decide +kernel
theorem dX5_takeBeside_26 : decode cX5_takeBeside 26 = .ok (.iload_n 2, 1) := by decide +kernel
theorem dX5_takeBeside_27 : decode cX5_takeBeside 27 = .ok (.iconst 1, 1) := by decide +kernel
theorem dX5_takeBeside_28 : decode cX5_takeBeside 28 = .ok (.iadd, 1) := by decide +kernel
theorem dX5_takeBeside_29 : decode cX5_takeBeside 29 = .ok (.invokevirtual 45, 3) := by decide +kernel
theorem dX5_takeBeside_32 : decode cX5_takeBeside 32 = .ok (.return_, 1) := by decide +kernel
theorem dX5_take_0 : decode cX5_take 0 = .ok (.iload_n 1, 1) := by decide +kernel
theorem dX5_take_1 : decode cX5_take 1 = .ok (.ifCond .lt 34, 3) := by decide +kernel
theorem dX5_take_4 : decode cX5_take 4 = .ok (.iload_n 1, 1) := by decide +kernel
theorem dX5_take_5 : decode cX5_take 5 = .ok (.bipush 64, 2) := by decide +kernel
theorem dX5_take_7 : decode cX5_take 7 = .ok (.if_icmp .ge 28, 3) := by decide +kernel
theorem dX5_take_10 : decode cX5_take 10 = .ok (.iload_n 2, 1) := by decide +kernel
theorem dX5_take_11 : decode cX5_take 11 = .ok (.ifCond .lt 24, 3) := by decide +kernel
theorem dX5_take_14 : decode cX5_take 14 = .ok (.iload_n 2, 1) := by decide +kernel
theorem dX5_take_15 : decode cX5_take 15 = .ok (.bipush 64, 2) := by decide +kernel
theorem dX5_take_17 : decode cX5_take 17 = .ok (.if_icmp .ge 18, 3) := by decide +kernel
theorem dX5_take_20 : decode cX5_take 20 = .ok (.aload_n 0, 1) := by decide +kernel
theorem dX5_take_21 : decode cX5_take 21 = .ok (.getfield 29, 3) := by decide +kernel
theorem dX5_take_24 : decode cX5_take 24 = .ok (.iload_n 2, 1) := by decide +kernel
theorem dX5_take_25 : decode cX5_take 25 = .ok (.laload, 1) := by decide +kernel
theorem dX5_take_26 : decode cX5_take 26 = .ok (.iload_n 1, 1) := by decide +kernel
theorem dX5_take_27 : decode cX5_take 27 = .ok (.lushr, 1) := by decide +kernel
theorem dX5_take_28 : decode cX5_take 28 = .ok (.lconst 1, 1) := by decide +kernel
theorem dX5_take_29 : decode cX5_take 29 = .ok (.land, 1) := by decide +kernel
theorem dX5_take_30 : decode cX5_take 30 = .ok (.lconst 0, 1) := by decide +kernel
theorem dX5_take_31 : decode cX5_take 31 = .ok (.lcmp, 1) := by decide +kernel
theorem dX5_take_32 : decode cX5_take 32 = .ok (.ifCond .ne 4, 3) := by decide +kernel
theorem dX5_take_35 : decode cX5_take 35 = .ok (.return_, 1) := by decide +kernel
theorem dX5_take_36 : decode cX5_take 36 = .ok (.aload_n 0, 1) := by decide +kernel
theorem dX5_take_37 : decode cX5_take 37 = .ok (.getfield 29, 3) := by decide +kernel
theorem dX5_take_40 : decode cX5_take 40 = .ok (.iload_n 2, 1) := by decide +kernel
theorem dX5_take_41 : decode cX5_take 41 = .ok (.dup2, 1) := by decide +kernel
theorem dX5_take_42 : decode cX5_take 42 = .ok (.laload, 1) := by decide +kernel
theorem dX5_take_43 : decode cX5_take 43 = .ok (.lconst 1, 1) := by decide +kernel
theorem dX5_take_44 : decode cX5_take 44 = .ok (.iload_n 1, 1) := by decide +kernel
theorem dX5_take_45 : decode cX5_take 45 = .ok (.lshl, 1) := by decide +kernel
theorem dX5_take_46 : decode cX5_take 46 = .ok (.lxor, 1) := by decide +kernel
theorem dX5_take_47 : decode cX5_take 47 = .ok (.lastore, 1) := by decide +kernel
theorem dX5_take_48 : decode cX5_take 48 = .ok (.aload_n 0, 1) := by decide +kernel
theorem dX5_take_49 : decode cX5_take 49 = .ok (.getfield 9, 3) := by decide +kernel
theorem dX5_take_52 : decode cX5_take 52 = .ok (.iload_n 2, 1) := by decide +kernel
theorem dX5_take_53 : decode cX5_take 53 = .ok (.dup2, 1) := by decide +kernel
theorem dX5_take_54 : decode cX5_take 54 = .ok (.laload, 1) := by decide +kernel
theorem dX5_take_55 : decode cX5_take 55 = .ok (.lconst 1, 1) := by decide +kernel
theorem dX5_take_56 : decode cX5_take 56 = .ok (.iload_n 1, 1) := by decide +kernel
theorem dX5_take_57 : decode cX5_take 57 = .ok (.lshl, 1) := by decide +kernel
theorem dX5_take_58 : decode cX5_take 58 = .ok (.lor, 1) := by decide +kernel
theorem dX5_take_59 : decode cX5_take 59 = .ok (.lastore, 1) := by decide +kernel
theorem dX5_take_60 : decode cX5_take 60 = .ok (.aload_n 0, 1) := by decide +kernel
theorem dX5_take_61 : decode cX5_take 61 = .ok (.getfield 15, 3) := by decide +kernel
theorem dX5_take_64 : decode cX5_take 64 = .ok (.aload_n 0, 1) := by decide +kernel
theorem dX5_take_65 : decode cX5_take 65 = .ok (.getfield 19, 3) := by decide +kernel
theorem dX5_take_68 : decode cX5_take 68 = .ok (.iload_n 1, 1) := by decide +kernel
theorem dX5_take_69 : decode cX5_take 69 = .ok (.iload_n 2, 1) := by decide +kernel
theorem dX5_take_70 : decode cX5_take 70 = .ok (.invokestatic 59, 3) := by decide +kernel
theorem dX5_take_73 : decode cX5_take 73 = .ok (.iastore, 1) := by decide +kernel
theorem dX5_take_74 : decode cX5_take 74 = .ok (.aload_n 0, 1) := by decide +kernel
theorem dX5_take_75 : decode cX5_take 75 = .ok (.dup, 1) := by decide +kernel
theorem dX5_take_76 : decode cX5_take 76 = .ok (.getfield 19, 3) := by decide +kernel
theorem dX5_take_79 : decode cX5_take 79 = .ok (.iconst 1, 1) := by decide +kernel
theorem dX5_take_80 : decode cX5_take 80 = .ok (.iadd, 1) := by decide +kernel
theorem dX5_take_81 : decode cX5_take 81 = .ok (.putfield 19, 3) := by decide +kernel
theorem dX5_take_84 : decode cX5_take 84 = .ok (.aload_n 0, 1) := by decide +kernel
theorem dX5_take_85 : decode cX5_take 85 = .ok (.aload_n 0, 1) := by decide +kernel
theorem dX5_take_86 : decode cX5_take 86 = .ok (.getfield 26, 3) := by decide +kernel
theorem dX5_take_89 : decode cX5_take 89 = .ok (.iload_n 2, 1) := by decide +kernel
theorem dX5_take_90 : decode cX5_take 90 = .ok (.invokestatic 63, 3) := by decide +kernel
theorem dX5_take_93 : decode cX5_take 93 = .ok (.putfield 26, 3) := by decide +kernel
theorem dX5_take_96 : decode cX5_take 96 = .ok (.return_, 1) := by decide +kernel
theorem dX6_init_0 : decode cX6_init 0 = .ok (.aload_n 0, 1) := by decide +kernel
theorem dX6_init_1 : decode cX6_init 1 = .ok (.invokespecial 3, 3) := by decide +kernel
theorem dX6_init_4 : decode cX6_init 4 = .ok (.aload_n 0, 1) := by decide +kernel
theorem dX6_init_5 : decode cX6_init 5 = .ok (.iconst 4, 1) := by decide +kernel
theorem dX6_init_6 : decode cX6_init 6 = .ok (.newarray .int, 2) := by decide +kernel
theorem dX6_init_8 : decode cX6_init 8 = .ok (.putfield 9, 3) := by decide +kernel
theorem dX6_init_11 : decode cX6_init 11 = .ok (.aload_n 0, 1) := by decide +kernel
theorem dX6_init_12 : decode cX6_init 12 = .ok (.bipush 64, 2) := by decide +kernel
theorem dX6_init_14 : decode cX6_init 14 = .ok (.newarray .long, 2) := by decide +kernel
theorem dX6_init_16 : decode cX6_init 16 = .ok (.putfield 15, 3) := by decide +kernel
theorem dX6_init_19 : decode cX6_init 19 = .ok (.aload_n 0, 1) := by decide +kernel
theorem dX6_init_20 : decode cX6_init 20 = .ok (.iconst 0, 1) := by decide +kernel
theorem dX6_init_21 : decode cX6_init 21 = .ok (.putfield 19, 3) := by decide +kernel
theorem dX6_init_24 : decode cX6_init 24 = .ok (.aload_n 0, 1) := by decide +kernel
theorem dX6_init_25 : decode cX6_init 25 = .ok (.aload_n 1, 1) := by decide +kernel
theorem dX6_init_26 : decode cX6_init 26 = .ok (.putfield 23, 3) := by decide +kernel
theorem dX6_init_29 : decode cX6_init 29 = .ok (.aload_n 0, 1) := by decide +kernel
theorem dX6_init_30 : decode cX6_init 30 = .ok (.aload_n 2, 1) := by decide +kernel
theorem dX6_init_31 : decode cX6_init 31 = .ok (.putfield 27, 3) := by decide +kernel
theorem dX6_init_34 : decode cX6_init 34 = .ok (.aload_n 0, 1) := by decide +kernel
theorem dX6_init_35 : decode cX6_init 35 = .ok (.aload_n 3, 1) := by decide +kernel
theorem dX6_init_36 : decode cX6_init 36 = .ok (.putfield 31, 3) := by decide +kernel
theorem dX6_init_39 : decode cX6_init 39 = .ok (.return_, 1) := by decide +kernel
theorem dX6_findPins_0 : decode cX6_findPins 0 = .ok (.aload_n 0, 1) := by decide +kernel
theorem dX6_findPins_1 : decode cX6_findPins 1 = .ok (.invokevirtual 35, 3) := by decide +kernel
theorem dX6_findPins_4 : decode cX6_findPins 4 = .ok (.iconst 0, 1) := by decide +kernel
theorem dX6_findPins_5 : decode cX6_findPins 5 = .ok (.istore_n 3, 1) := by decide +kernel
theorem dX6_findPins_6 : decode cX6_findPins 6 = .ok (.iload_n 2, 1) := by decide +kernel
theorem dX6_findPins_7 : decode cX6_findPins 7 = .ok (.iconst 4, 1) := by decide +kernel
theorem dX6_findPins_8 : decode cX6_findPins 8 = .ok (.imul, 1) := by decide +kernel
theorem dX6_findPins_9 : decode cX6_findPins 9 = .ok (.istore 4, 2) := by decide +kernel
theorem dX6_findPins_11 : decode cX6_findPins 11 = .ok (.aload_n 0, 1) := by decide +kernel
theorem dX6_findPins_12 : decode cX6_findPins 12 = .ok (.iconst 0, 1) := by decide +kernel
theorem dX6_findPins_13 : decode cX6_findPins 13 = .ok (.putfield 19, 3) := by decide +kernel
theorem dX6_findPins_16 : decode cX6_findPins 16 = .ok (.iconst 0, 1) := by decide +kernel
theorem dX6_findPins_17 : decode cX6_findPins 17 = .ok (.istore 5, 2) := by decide +kernel
theorem dX6_findPins_19 : decode cX6_findPins 19 = .ok (.iload 5, 2) := by decide +kernel
theorem dX6_findPins_21 : decode cX6_findPins 21 = .ok (.aload_n 1, 1) := by decide +kernel
theorem dX6_findPins_22 : decode cX6_findPins 22 = .ok (.getfield 38, 3) := by decide +kernel
theorem dX6_findPins_25 : decode cX6_findPins 25 = .ok (.iload_n 2, 1) := by decide +kernel
theorem dX6_findPins_26 : decode cX6_findPins 26 = .ok (.iaload, 1) := by decide +kernel
theorem dX6_findPins_27 : decode cX6_findPins 27 = .ok (.if_icmp .ge 62, 3) := by decide +kernel
theorem dX6_findPins_30 : decode cX6_findPins 30 = .ok (.aload_n 0, 1) := by decide +kernel
theorem dX6_findPins_31 : decode cX6_findPins 31 = .ok (.getfield 9, 3) := by decide +kernel
theorem dX6_findPins_34 : decode cX6_findPins 34 = .ok (.iload 5, 2) := by decide +kernel
theorem dX6_findPins_36 : decode cX6_findPins 36 = .ok (.aload_n 0, 1) := by decide +kernel
theorem dX6_findPins_37 : decode cX6_findPins 37 = .ok (.aload_n 1, 1) := by decide +kernel
theorem dX6_findPins_38 : decode cX6_findPins 38 = .ok (.aload_n 1, 1) := by decide +kernel
theorem dX6_findPins_39 : decode cX6_findPins 39 = .ok (.getfield 43, 3) := by decide +kernel
theorem dX6_findPins_42 : decode cX6_findPins 42 = .ok (.iload 4, 2) := by decide +kernel
theorem dX6_findPins_44 : decode cX6_findPins 44 = .ok (.iload 5, 2) := by decide +kernel
theorem dX6_findPins_46 : decode cX6_findPins 46 = .ok (.iadd, 1) := by decide +kernel
theorem dX6_findPins_47 : decode cX6_findPins 47 = .ok (.iaload, 1) := by decide +kernel
theorem dX6_findPins_48 : decode cX6_findPins 48 = .ok (.invokevirtual 46, 3) := by decide +kernel
theorem dX6_findPins_51 : decode cX6_findPins 51 = .ok (.iastore, 1) := by decide +kernel
theorem dX6_findPins_52 : decode cX6_findPins 52 = .ok (.iload_n 3, 1) := by decide +kernel
theorem dX6_findPins_53 : decode cX6_findPins 53 = .ok (.ifCond .ne 14, 3) := by decide +kernel
theorem dX6_findPins_56 : decode cX6_findPins 56 = .ok (.aload_n 0, 1) := by decide +kernel
theorem dX6_findPins_57 : decode cX6_findPins 57 = .ok (.getfield 9, 3) := by decide +kernel
theorem dX6_findPins_60 : decode cX6_findPins 60 = .ok (.iload 5, 2) := by decide +kernel
theorem dX6_findPins_62 : decode cX6_findPins 62 = .ok (.iaload, 1) := by decide +kernel
theorem dX6_findPins_63 : decode cX6_findPins 63 = .ok (.iconst (-1), 1) := by decide +kernel
theorem dX6_findPins_64 : decode cX6_findPins 64 = .ok (.if_icmp .ne 7, 3) := by decide +kernel
theorem dX6_findPins_67 : decode cX6_findPins 67 = .ok (.iconst 1, 1) := by decide +kernel
theorem dX6_findPins_68 : decode cX6_findPins 68 = .ok (.goto 4, 3) := by decide +kernel
theorem dX6_findPins_71 : decode cX6_findPins 71 = .ok (.iconst 0, 1) := by decide +kernel
theorem dX6_findPins_72 : decode cX6_findPins 72 = .ok (.istore_n 3, 1) := by decide +kernel
theorem dX6_findPins_73 : decode cX6_findPins 73 = .ok (.aload_n 0, 1) := by decide +kernel
theorem dX6_findPins_74 : decode cX6_findPins 74 = .ok (.dup, 1) := by decide +kernel
theorem dX6_findPins_75 : decode cX6_findPins 75 = .ok (.getfield 19, 3) := by decide +kernel
theorem dX6_findPins_78 : decode cX6_findPins 78 = .ok (.iconst 1, 1) := by decide +kernel
theorem dX6_findPins_79 : decode cX6_findPins 79 = .ok (.iadd, 1) := by decide +kernel
theorem dX6_findPins_80 : decode cX6_findPins 80 = .ok (.putfield 19, 3) := by decide +kernel
theorem dX6_findPins_83 : decode cX6_findPins 83 = .ok (.iinc 5 1, 3) := by decide +kernel
theorem dX6_findPins_86 : decode cX6_findPins 86 = .ok (.goto (-67), 3) := by decide +kernel
theorem dX6_findPins_89 : decode cX6_findPins 89 = .ok (.iconst 0, 1) := by decide +kernel
theorem dX6_findPins_90 : decode cX6_findPins 90 = .ok (.istore 5, 2) := by decide +kernel
theorem dX6_findPins_92 : decode cX6_findPins 92 = .ok (.iload 5, 2) := by decide +kernel
theorem dX6_findPins_94 : decode cX6_findPins 94 = .ok (.aload_n 1, 1) := by decide +kernel
theorem dX6_findPins_95 : decode cX6_findPins 95 = .ok (.getfield 38, 3) := by decide +kernel
theorem dX6_findPins_98 : decode cX6_findPins 98 = .ok (.iload_n 2, 1) := by decide +kernel
theorem dX6_findPins_99 : decode cX6_findPins 99 = .ok (.iaload, 1) := by decide +kernel
theorem dX6_findPins_100 : decode cX6_findPins 100 = .ok (.if_icmp .ge 38, 3) := by decide +kernel
theorem dX6_findPins_103 : decode cX6_findPins 103 = .ok (.iload_n 3, 1) := by decide +kernel
theorem dX6_findPins_104 : decode cX6_findPins 104 = .ok (.ifCond .ne 22, 3) := by decide +kernel
theorem dX6_findPins_107 : decode cX6_findPins 107 = .ok (.aload_n 0, 1) := by decide +kernel
theorem dX6_findPins_108 : decode cX6_findPins 108 = .ok (.aload_n 1, 1) := by decide +kernel
theorem dX6_findPins_109 : decode cX6_findPins 109 = .ok (.aload_n 1, 1) := by decide +kernel
theorem dX6_findPins_110 : decode cX6_findPins 110 = .ok (.getfield 43, 3) := by decide +kernel
theorem dX6_findPins_113 : decode cX6_findPins 113 = .ok (.iload 4, 2) := by decide +kernel
theorem dX6_findPins_115 : decode cX6_findPins 115 = .ok (.iload 5, 2) := by decide +kernel
theorem dX6_findPins_117 : decode cX6_findPins 117 = .ok (.iadd, 1) := by decide +kernel
theorem dX6_findPins_118 : decode cX6_findPins 118 = .ok (.iaload, 1) := by decide +kernel
theorem dX6_findPins_119 : decode cX6_findPins 119 = .ok (.invokevirtual 46, 3) := by decide +kernel
theorem dX6_findPins_122 : decode cX6_findPins 122 = .ok (.iconst (-1), 1) := by decide +kernel
theorem dX6_findPins_123 : decode cX6_findPins 123 = .ok (.if_icmp .eq 7, 3) := by decide +kernel
theorem dX6_findPins_126 : decode cX6_findPins 126 = .ok (.iconst 1, 1) := by decide +kernel
theorem dX6_findPins_127 : decode cX6_findPins 127 = .ok (.goto 4, 3) := by decide +kernel
theorem dX6_findPins_130 : decode cX6_findPins 130 = .ok (.iconst 0, 1) := by decide +kernel
theorem dX6_findPins_131 : decode cX6_findPins 131 = .ok (.istore_n 3, 1) := by decide +kernel
theorem dX6_findPins_132 : decode cX6_findPins 132 = .ok (.iinc 5 1, 3) := by decide +kernel
theorem dX6_findPins_135 : decode cX6_findPins 135 = .ok (.goto (-43), 3) := by decide +kernel
theorem dX6_findPins_138 : decode cX6_findPins 138 = .ok (.iload_n 3, 1) := by decide +kernel
theorem dX6_findPins_139 : decode cX6_findPins 139 = .ok (.ireturn, 1) := by decide +kernel
theorem dX6_netOfPin_0 : decode cX6_netOfPin 0 = .ok (.aload_n 0, 1) := by decide +kernel
theorem dX6_netOfPin_1 : decode cX6_netOfPin 1 = .ok (.getfield 27, 3) := by decide +kernel
theorem dX6_netOfPin_4 : decode cX6_netOfPin 4 = .ok (.aload_n 0, 1) := by decide +kernel
theorem dX6_netOfPin_5 : decode cX6_netOfPin 5 = .ok (.getfield 9, 3) := by decide +kernel
theorem dX6_netOfPin_8 : decode cX6_netOfPin 8 = .ok (.iload_n 1, 1) := by decide +kernel
theorem dX6_netOfPin_9 : decode cX6_netOfPin 9 = .ok (.iaload, 1) := by decide +kernel
theorem dX6_netOfPin_10 : decode cX6_netOfPin 10 = .ok (.invokevirtual 50, 3) := by decide +kernel
theorem dX6_netOfPin_13 : decode cX6_netOfPin 13 = .ok (.ireturn, 1) := by decide +kernel
theorem dX6_edges_0 : decode cX6_edges 0 = .ok (.iconst 0, 1) := by decide +kernel
theorem dX6_edges_1 : decode cX6_edges 1 = .ok (.istore_n 1, 1) := by decide +kernel
theorem dX6_edges_2 : decode cX6_edges 2 = .ok (.aload_n 0, 1) := by decide +kernel
theorem dX6_edges_3 : decode cX6_edges 3 = .ok (.getfield 31, 3) := by decide +kernel
theorem dX6_edges_6 : decode cX6_edges 6 = .ok (.getfield 56, 3) := by decide +kernel
theorem dX6_edges_9 : decode cX6_edges 9 = .ok (.istore_n 2, 1) := by decide +kernel
theorem dX6_edges_10 : decode cX6_edges 10 = .ok (.iload_n 2, 1) := by decide +kernel
theorem dX6_edges_11 : decode cX6_edges 11 = .ok (.aload_n 0, 1) := by decide +kernel
theorem dX6_edges_12 : decode cX6_edges 12 = .ok (.getfield 31, 3) := by decide +kernel
theorem dX6_edges_15 : decode cX6_edges 15 = .ok (.getfield 61, 3) := by decide +kernel
theorem dX6_edges_18 : decode cX6_edges 18 = .ok (.if_icmp .gt 99, 3) := by decide +kernel
theorem dX6_edges_21 : decode cX6_edges 21 = .ok (.aload_n 0, 1) := by decide +kernel
theorem dX6_edges_22 : decode cX6_edges 22 = .ok (.getfield 31, 3) := by decide +kernel
theorem dX6_edges_25 : decode cX6_edges 25 = .ok (.getfield 64, 3) := by decide +kernel
theorem dX6_edges_28 : decode cX6_edges 28 = .ok (.iload_n 2, 1) := by decide +kernel
theorem dX6_edges_29 : decode cX6_edges 29 = .ok (.laload, 1) := by decide +kernel
theorem dX6_edges_30 : decode cX6_edges 30 = .ok (.lstore_n 3, 1) := by decide +kernel
theorem dX6_edges_31 : decode cX6_edges 31 = .ok (.iload_n 1, 1) := by decide +kernel
theorem dX6_edges_32 : decode cX6_edges 32 = .ok (.lload_n 3, 1) := by decide +kernel
theorem dX6_edges_33 : decode cX6_edges 33 = .ok (.lload_n 3, 1) := by decide +kernel
theorem dX6_edges_34 : decode cX6_edges 34 = .ok (.iconst 1, 1) := by decide +kernel
theorem dX6_edges_35 : decode cX6_edges 35 = .ok (.lshl, 1) := by decide +kernel
theorem dX6_edges_36 : decode cX6_edges 36 = .ok (.ldc2_w 67, 3) := by decide +kernel
theorem dX6_edges_39 : decode cX6_edges 39 = .ok (.lxor, 1) := by decide +kernel
theorem dX6_edges_40 : decode cX6_edges 40 = .ok (.land, 1) := by decide +kernel
theorem dX6_edges_41 : decode cX6_edges 41 = .ok (.invokestatic 69, 3) := by decide +kernel
theorem dX6_edges_44 : decode cX6_edges 44 = .ok (.iadd, 1) := by decide +kernel
theorem dX6_edges_45 : decode cX6_edges 45 = .ok (.istore_n 1, 1) := by decide +kernel
theorem dX6_edges_46 : decode cX6_edges 46 = .ok (.iload_n 1, 1) := by decide +kernel
theorem dX6_edges_47 : decode cX6_edges 47 = .ok (.lload_n 3, 1) := by decide +kernel
theorem dX6_edges_48 : decode cX6_edges 48 = .ok (.lload_n 3, 1) := by decide +kernel
theorem dX6_edges_49 : decode cX6_edges 49 = .ok (.iconst 1, 1) := by decide +kernel
theorem dX6_edges_50 : decode cX6_edges 50 = .ok (.lushr, 1) := by decide +kernel
theorem dX6_edges_51 : decode cX6_edges 51 = .ok (.ldc2_w 67, 3) := by decide +kernel
theorem dX6_edges_54 : decode cX6_edges 54 = .ok (.lxor, 1) := by decide +kernel
theorem dX6_edges_55 : decode cX6_edges 55 = .ok (.land, 1) := by decide +kernel
theorem dX6_edges_56 : decode cX6_edges 56 = .ok (.invokestatic 69, 3) := by decide +kernel
theorem dX6_edges_59 : decode cX6_edges 59 = .ok (.iadd, 1) := by decide +kernel
theorem dX6_edges_60 : decode cX6_edges 60 = .ok (.istore_n 1, 1) := by decide +kernel
theorem dX6_edges_61 : decode cX6_edges 61 = .ok (.iload_n 1, 1) := by decide +kernel
theorem dX6_edges_62 : decode cX6_edges 62 = .ok (.lload_n 3, 1) := by decide +kernel
theorem dX6_edges_63 : decode cX6_edges 63 = .ok (.aload_n 0, 1) := by decide +kernel
theorem dX6_edges_64 : decode cX6_edges 64 = .ok (.getfield 31, 3) := by decide +kernel
theorem dX6_edges_67 : decode cX6_edges 67 = .ok (.getfield 64, 3) := by decide +kernel
theorem dX6_edges_70 : decode cX6_edges 70 = .ok (.iload_n 2, 1) := by decide +kernel
theorem dX6_edges_71 : decode cX6_edges 71 = .ok (.iconst 1, 1) := by decide +kernel
theorem dX6_edges_72 : decode cX6_edges 72 = .ok (.isub, 1) := by decide +kernel
theorem dX6_edges_73 : decode cX6_edges 73 = .ok (.invokestatic 75, 3) := by decide +kernel
theorem dX6_edges_76 : decode cX6_edges 76 = .ok (.ldc2_w 67, 3) := by decide +kernel
theorem dX6_edges_79 : decode cX6_edges 79 = .ok (.lxor, 1) := by decide +kernel
theorem dX6_edges_80 : decode cX6_edges 80 = .ok (.land, 1) := by decide +kernel
theorem dX6_edges_81 : decode cX6_edges 81 = .ok (.invokestatic 69, 3) := by decide +kernel
theorem dX6_edges_84 : decode cX6_edges 84 = .ok (.iadd, 1) := by decide +kernel
theorem dX6_edges_85 : decode cX6_edges 85 = .ok (.istore_n 1, 1) := by decide +kernel
theorem dX6_edges_86 : decode cX6_edges 86 = .ok (.iload_n 1, 1) := by decide +kernel
theorem dX6_edges_87 : decode cX6_edges 87 = .ok (.lload_n 3, 1) := by decide +kernel
theorem dX6_edges_88 : decode cX6_edges 88 = .ok (.aload_n 0, 1) := by decide +kernel
theorem dX6_edges_89 : decode cX6_edges 89 = .ok (.getfield 31, 3) := by decide +kernel
theorem dX6_edges_92 : decode cX6_edges 92 = .ok (.getfield 64, 3) := by decide +kernel
theorem dX6_edges_95 : decode cX6_edges 95 = .ok (.iload_n 2, 1) := by decide +kernel
theorem dX6_edges_96 : decode cX6_edges 96 = .ok (.iconst 1, 1) := by decide +kernel
theorem dX6_edges_97 : decode cX6_edges 97 = .ok (.iadd, 1) := by decide +kernel
theorem dX6_edges_98 : decode cX6_edges 98 = .ok (.invokestatic 75, 3) := by decide +kernel
theorem dX6_edges_101 : decode cX6_edges 101 = .ok (.ldc2_w 67, 3) := by decide +kernel
theorem dX6_edges_104 : decode cX6_edges 104 = .ok (.lxor, 1) := by decide +kernel
theorem dX6_edges_105 : decode cX6_edges 105 = .ok (.land, 1) := by decide +kernel
theorem dX6_edges_106 : decode cX6_edges 106 = .ok (.invokestatic 69, 3) := by decide +kernel
theorem dX6_edges_109 : decode cX6_edges 109 = .ok (.iadd, 1) := by decide +kernel
theorem dX6_edges_110 : decode cX6_edges 110 = .ok (.istore_n 1, 1) := by decide +kernel
theorem dX6_edges_111 : decode cX6_edges 111 = .ok (.iinc 2 1, 3) := by decide +kernel
theorem dX6_edges_114 : decode cX6_edges 114 = .ok (.goto (-104), 3) := by decide +kernel
theorem dX6_edges_117 : decode cX6_edges 117 = .ok (.iload_n 1, 1) := by decide +kernel
theorem dX6_edges_118 : decode cX6_edges 118 = .ok (.ireturn, 1) := by decide +kernel
theorem dX6_edgesToFirstPin_0 : decode cX6_edgesToFirstPin 0 = .ok (.aload_n 0, 1) := by decide +kernel
theorem dX6_edgesToFirstPin_1 : decode cX6_edgesToFirstPin 1 = .ok (.getfield 9, 3) := by decide +kernel
theorem dX6_edgesToFirstPin_4 : decode cX6_edgesToFirstPin 4 = .ok (.iconst 0, 1) := by decide +kernel
theorem dX6_edgesToFirstPin_5 : decode cX6_edgesToFirstPin 5 = .ok (.iaload, 1) := by decide +kernel
theorem dX6_edgesToFirstPin_6 : decode cX6_edgesToFirstPin 6 = .ok (.iconst (-1), 1) := by decide +kernel
theorem dX6_edgesToFirstPin_7 : decode cX6_edgesToFirstPin 7 = .ok (.if_icmp .ne 5, 3) := by decide +kernel
theorem dX6_edgesToFirstPin_10 : decode cX6_edgesToFirstPin 10 = .ok (.iconst 0, 1) := by decide +kernel
theorem dX6_edgesToFirstPin_11 : decode cX6_edgesToFirstPin 11 = .ok (.ireturn, 1) := by decide +kernel
theorem dX6_edgesToFirstPin_12 : decode cX6_edgesToFirstPin 12 = .ok (.aload_n 1, 1) := by decide +kernel
theorem dX6_edgesToFirstPin_13 : decode cX6_edgesToFirstPin 13 = .ok (.getfield 43, 3) := by decide +kernel
theorem dX6_edgesToFirstPin_16 : decode cX6_edgesToFirstPin 16 = .ok (.iload_n 2, 1) := by decide +kernel
theorem dX6_edgesToFirstPin_17 : decode cX6_edgesToFirstPin 17 = .ok (.iconst 4, 1) := by decide +kernel
theorem dX6_edgesToFirstPin_18 : decode cX6_edgesToFirstPin 18 = .ok (.imul, 1) := by decide +kernel
theorem dX6_edgesToFirstPin_19 : decode cX6_edgesToFirstPin 19 = .ok (.iaload, 1) := by decide +kernel
theorem dX6_edgesToFirstPin_20 : decode cX6_edgesToFirstPin 20 = .ok (.istore_n 3, 1) := by decide +kernel
theorem dX6_edgesToFirstPin_21 : decode cX6_edgesToFirstPin 21 = .ok (.iconst 0, 1) := by decide +kernel
theorem dX6_edgesToFirstPin_22 : decode cX6_edgesToFirstPin 22 = .ok (.istore 4, 2) := by decide +kernel
theorem dX6_edgesToFirstPin_24 : decode cX6_edgesToFirstPin 24 = .ok (.aload_n 0, 1) := by decide +kernel
theorem dX6_edgesToFirstPin_25 : decode cX6_edgesToFirstPin 25 = .ok (.invokevirtual 79, 3) := by decide +kernel
theorem dX6_edgesToFirstPin_28 : decode cX6_edgesToFirstPin 28 = .ok (.istore 5, 2) := by decide +kernel
theorem dX6_edgesToFirstPin_30 : decode cX6_edgesToFirstPin 30 = .ok (.iload 5, 2) := by decide +kernel
theorem dX6_edgesToFirstPin_32 : decode cX6_edgesToFirstPin 32 = .ok (.aload_n 0, 1) := by decide +kernel
theorem dX6_edgesToFirstPin_33 : decode cX6_edgesToFirstPin 33 = .ok (.invokevirtual 83, 3) := by decide +kernel
theorem dX6_edgesToFirstPin_36 : decode cX6_edgesToFirstPin 36 = .ok (.if_icmp .gt 124, 3) := by decide +kernel
theorem dX6_edgesToFirstPin_39 : decode cX6_edgesToFirstPin 39 = .ok (.aload_n 0, 1) := by decide +kernel
theorem dX6_edgesToFirstPin_40 : decode cX6_edgesToFirstPin 40 = .ok (.getfield 15, 3) := by decide +kernel
theorem dX6_edgesToFirstPin_43 : decode cX6_edgesToFirstPin 43 = .ok (.iload 5, 2) := by decide +kernel
theorem dX6_edgesToFirstPin_45 : decode cX6_edgesToFirstPin 45 = .ok (.laload, 1) := by decide +kernel
theorem dX6_edgesToFirstPin_46 : decode cX6_edgesToFirstPin 46 = .ok (.aload_n 0, 1) := by decide +kernel
theorem dX6_edgesToFirstPin_47 : decode cX6_edgesToFirstPin 47 = .ok (.getfield 31, 3) := by decide +kernel
theorem dX6_edgesToFirstPin_50 : decode cX6_edgesToFirstPin 50 = .ok (.getfield 64, 3) := by decide +kernel
theorem dX6_edgesToFirstPin_53 : decode cX6_edgesToFirstPin 53 = .ok (.iload 5, 2) := by decide +kernel
theorem dX6_edgesToFirstPin_55 : decode cX6_edgesToFirstPin 55 = .ok (.laload, 1) := by decide +kernel
theorem dX6_edgesToFirstPin_56 : decode cX6_edgesToFirstPin 56 = .ok (.ldc2_w 67, 3) := by decide +kernel
theorem dX6_edgesToFirstPin_59 : decode cX6_edgesToFirstPin 59 = .ok (.lxor, 1) := by decide +kernel
theorem dX6_edgesToFirstPin_60 : decode cX6_edgesToFirstPin 60 = .ok (.land, 1) := by decide +kernel
theorem dX6_edgesToFirstPin_61 : decode cX6_edgesToFirstPin 61 = .ok (.aload_n 0, 1) := by decide +kernel
theorem dX6_edgesToFirstPin_62 : decode cX6_edgesToFirstPin 62 = .ok (.getfield 23, 3) := by decide +kernel
theorem dX6_edgesToFirstPin_65 : decode cX6_edgesToFirstPin 65 = .ok (.getfield 86, 3) := by decide +kernel
theorem dX6_edgesToFirstPin_68 : decode cX6_edgesToFirstPin 68 = .ok (.aload_n 1, 1) := by decide +kernel
theorem dX6_edgesToFirstPin_69 : decode cX6_edgesToFirstPin 69 = .ok (.getfield 91, 3) := by decide +kernel
theorem dX6_edgesToFirstPin_72 : decode cX6_edgesToFirstPin 72 = .ok (.iload_n 3, 1) := by decide +kernel
theorem dX6_edgesToFirstPin_73 : decode cX6_edgesToFirstPin 73 = .ok (.iaload, 1) := by decide +kernel
theorem dX6_edgesToFirstPin_74 : decode cX6_edgesToFirstPin 74 = .ok (.aaload, 1) := by decide +kernel
theorem dX6_edgesToFirstPin_75 : decode cX6_edgesToFirstPin 75 = .ok (.iload 5, 2) := by decide +kernel
theorem dX6_edgesToFirstPin_77 : decode cX6_edgesToFirstPin 77 = .ok (.laload, 1) := by decide +kernel
theorem dX6_edgesToFirstPin_78 : decode cX6_edgesToFirstPin 78 = .ok (.land, 1) := by decide +kernel
theorem dX6_edgesToFirstPin_79 : decode cX6_edgesToFirstPin 79 = .ok (.lstore 6, 2) := by decide +kernel
theorem dX6_edgesToFirstPin_81 : decode cX6_edgesToFirstPin 81 = .ok (.lload 6, 2) := by decide +kernel
theorem dX6_edgesToFirstPin_83 : decode cX6_edgesToFirstPin 83 = .ok (.invokestatic 69, 3) := by decide +kernel
theorem dX6_edgesToFirstPin_86 : decode cX6_edgesToFirstPin 86 = .ok (.istore 8, 2) := by decide +kernel
theorem dX6_edgesToFirstPin_88 : decode cX6_edgesToFirstPin 88 = .ok (.iload 8, 2) := by decide +kernel
theorem dX6_edgesToFirstPin_90 : decode cX6_edgesToFirstPin 90 = .ok (.ifCond .le 64, 3) := by decide +kernel
theorem dX6_edgesToFirstPin_93 : decode cX6_edgesToFirstPin 93 = .ok (.lload 6, 2) := by decide +kernel
theorem dX6_edgesToFirstPin_95 : decode cX6_edgesToFirstPin 95 = .ok (.invokestatic 94, 3) := by decide +kernel
theorem dX6_edgesToFirstPin_98 : decode cX6_edgesToFirstPin 98 = .ok (.istore 9, 2) := by decide +kernel
theorem dX6_edgesToFirstPin_100 : decode cX6_edgesToFirstPin 100 = .ok (.lload 6, 2) := by decide +kernel
theorem dX6_edgesToFirstPin_102 : decode cX6_edgesToFirstPin 102 = .ok (.lload 6, 2) := by decide +kernel
theorem dX6_edgesToFirstPin_104 : decode cX6_edgesToFirstPin 104 = .ok (.lconst 1, 1) := by decide +kernel
theorem dX6_edgesToFirstPin_105 : decode cX6_edgesToFirstPin 105 = .ok (.lsub, 1) := by decide +kernel
theorem dX6_edgesToFirstPin_106 : decode cX6_edgesToFirstPin 106 = .ok (.land, 1) := by decide +kernel
theorem dX6_edgesToFirstPin_107 : decode cX6_edgesToFirstPin 107 = .ok (.lstore 6, 2) := by decide +kernel
theorem dX6_edgesToFirstPin_109 : decode cX6_edgesToFirstPin 109 = .ok (.aload_n 0, 1) := by decide +kernel
theorem dX6_edgesToFirstPin_110 : decode cX6_edgesToFirstPin 110 = .ok (.getfield 27, 3) := by decide +kernel
theorem dX6_edgesToFirstPin_113 : decode cX6_edgesToFirstPin 113 = .ok (.getfield 97, 3) := by decide +kernel
theorem dX6_edgesToFirstPin_116 : decode cX6_edgesToFirstPin 116 = .ok (.iload_n 3, 1) := by decide +kernel
theorem dX6_edgesToFirstPin_117 : decode cX6_edgesToFirstPin 117 = .ok (.aaload, 1) := by decide +kernel
theorem dX6_edgesToFirstPin_118 : decode cX6_edgesToFirstPin 118 = .ok (.iload 9, 2) := by decide +kernel
theorem dX6_edgesToFirstPin_120 : decode cX6_edgesToFirstPin 120 = .ok (.iload 5, 2) := by decide +kernel
theorem dX6_edgesToFirstPin_122 : decode cX6_edgesToFirstPin 122 = .ok (.invokestatic 101, 3) := by decide +kernel
theorem dX6_edgesToFirstPin_125 : decode cX6_edgesToFirstPin 125 = .ok (.iaload, 1) := by decide +kernel
theorem dX6_edgesToFirstPin_126 : decode cX6_edgesToFirstPin 126 = .ok (.aload_n 0, 1) := by decide +kernel
theorem dX6_edgesToFirstPin_127 : decode cX6_edgesToFirstPin 127 = .ok (.getfield 9, 3) := by decide +kernel
theorem dX6_edgesToFirstPin_130 : decode cX6_edgesToFirstPin 130 = .ok (.iconst 0, 1) := by decide +kernel
theorem dX6_edgesToFirstPin_131 : decode cX6_edgesToFirstPin 131 = .ok (.iaload, 1) := by decide +kernel
theorem dX6_edgesToFirstPin_132 : decode cX6_edgesToFirstPin 132 = .ok (.if_icmp .ne 16, 3) := by decide +kernel
theorem dX6_edgesToFirstPin_135 : decode cX6_edgesToFirstPin 135 = .ok (.iload 4, 2) := by decide +kernel
theorem dX6_edgesToFirstPin_137 : decode cX6_edgesToFirstPin 137 = .ok (.aload_n 0, 1) := by decide +kernel
theorem dX6_edgesToFirstPin_138 : decode cX6_edgesToFirstPin 138 = .ok (.iload 9, 2) := by decide +kernel
theorem dX6_edgesToFirstPin_140 : decode cX6_edgesToFirstPin 140 = .ok (.iload 5, 2) := by decide +kernel
theorem dX6_edgesToFirstPin_142 : decode cX6_edgesToFirstPin 142 = .ok (.invokevirtual 105, 3) := by decide +kernel
theorem dX6_edgesToFirstPin_145 : decode cX6_edgesToFirstPin 145 = .ok (.iadd, 1) := by decide +kernel
theorem dX6_edgesToFirstPin_146 : decode cX6_edgesToFirstPin 146 = .ok (.istore 4, 2) := by decide +kernel
theorem dX6_edgesToFirstPin_148 : decode cX6_edgesToFirstPin 148 = .ok (.iinc 8 (-1), 3) := by decide +kernel
theorem dX6_edgesToFirstPin_151 : decode cX6_edgesToFirstPin 151 = .ok (.goto (-63), 3) := by decide +kernel
theorem dX6_edgesToFirstPin_154 : decode cX6_edgesToFirstPin 154 = .ok (.iinc 5 1, 3) := by decide +kernel
theorem dX6_edgesToFirstPin_157 : decode cX6_edgesToFirstPin 157 = .ok (.goto (-127), 3) := by decide +kernel
theorem dX6_edgesToFirstPin_160 : decode cX6_edgesToFirstPin 160 = .ok (.iload 4, 2) := by decide +kernel
theorem dX6_edgesToFirstPin_162 : decode cX6_edgesToFirstPin 162 = .ok (.ireturn, 1) := by decide +kernel
theorem dX6_edgesAround_0 : decode cX6_edgesAround 0 = .ok (.lconst 1, 1) := by decide +kernel
theorem dX6_edgesAround_1 : decode cX6_edgesAround 1 = .ok (.iload_n 1, 1) := by decide +kernel
theorem dX6_edgesAround_2 : decode cX6_edgesAround 2 = .ok (.lshl, 1) := by decide +kernel
theorem dX6_edgesAround_3 : decode cX6_edgesAround 3 = .ok (.lstore_n 3, 1) := by decide +kernel
theorem dX6_edgesAround_4 : decode cX6_edgesAround 4 = .ok (.aload_n 0, 1) := by decide +kernel
theorem dX6_edgesAround_5 : decode cX6_edgesAround 5 = .ok (.getfield 31, 3) := by decide +kernel
theorem dX6_edgesAround_8 : decode cX6_edgesAround 8 = .ok (.getfield 64, 3) := by decide +kernel
theorem dX6_edgesAround_11 : decode cX6_edgesAround 11 = .ok (.iload_n 2, 1) := by decide +kernel
theorem dX6_edgesAround_12 : decode cX6_edgesAround 12 = .ok (.laload, 1) := by decide +kernel
theorem dX6_edgesAround_13 : decode cX6_edgesAround 13 = .ok (.lload_n 3, 1) := by decide +kernel
theorem dX6_edgesAround_14 : decode cX6_edgesAround 14 = .ok (.iconst 1, 1) := by decide +kernel
theorem dX6_edgesAround_15 : decode cX6_edgesAround 15 = .ok (.lshl, 1) := by decide +kernel
theorem dX6_edgesAround_16 : decode cX6_edgesAround 16 = .ok (.lload_n 3, 1) := by decide +kernel
theorem dX6_edgesAround_17 : decode cX6_edgesAround 17 = .ok (.iconst 1, 1) := by decide +kernel
theorem dX6_edgesAround_18 : decode cX6_edgesAround 18 = .ok (.lushr, 1) := by decide +kernel
theorem dX6_edgesAround_19 : decode cX6_edgesAround 19 = .ok (.lor, 1) := by decide +kernel
theorem dX6_edgesAround_20 : decode cX6_edgesAround 20 = .ok (.land, 1) := by decide +kernel
theorem dX6_edgesAround_21 : decode cX6_edgesAround 21 = .ok (.invokestatic 69, 3) := by decide +kernel
theorem dX6_edgesAround_24 : decode cX6_edgesAround 24 = .ok (.aload_n 0, 1) := by decide +kernel
theorem dX6_edgesAround_25 : decode cX6_edgesAround 25 = .ok (.getfield 31, 3) := by decide +kernel
theorem dX6_edgesAround_28 : decode cX6_edgesAround 28 = .ok (.getfield 64, 3) := by decide +kernel
theorem dX6_edgesAround_31 : decode cX6_edgesAround 31 = .ok (.iload_n 2, 1) := by decide +kernel
theorem dX6_edgesAround_32 : decode cX6_edgesAround 32 = .ok (.iconst 1, 1) := by decide +kernel
theorem dX6_edgesAround_33 : decode cX6_edgesAround 33 = .ok (.isub, 1) := by decide +kernel
theorem dX6_edgesAround_34 : decode cX6_edgesAround 34 = .ok (.invokestatic 75, 3) := by decide +kernel
theorem dX6_edgesAround_37 : decode cX6_edgesAround 37 = .ok (.lload_n 3, 1) := by decide +kernel
theorem dX6_edgesAround_38 : decode cX6_edgesAround 38 = .ok (.land, 1) := by decide +kernel
theorem dX6_edgesAround_39 : decode cX6_edgesAround 39 = .ok (.invokestatic 69, 3) := by decide +kernel
theorem dX6_edgesAround_42 : decode cX6_edgesAround 42 = .ok (.iadd, 1) := by decide +kernel
theorem dX6_edgesAround_43 : decode cX6_edgesAround 43 = .ok (.aload_n 0, 1) := by decide +kernel
theorem dX6_edgesAround_44 : decode cX6_edgesAround 44 = .ok (.getfield 31, 3) := by decide +kernel
theorem dX6_edgesAround_47 : decode cX6_edgesAround 47 = .ok (.getfield 64, 3) := by decide +kernel
theorem dX6_edgesAround_50 : decode cX6_edgesAround 50 = .ok (.iload_n 2, 1) := by decide +kernel
theorem dX6_edgesAround_51 : decode cX6_edgesAround 51 = .ok (.iconst 1, 1) := by decide +kernel
theorem dX6_edgesAround_52 : decode cX6_edgesAround 52 = .ok (.iadd, 1) := by decide +kernel
theorem dX6_edgesAround_53 : decode cX6_edgesAround 53 = .ok (.invokestatic 75, 3) := by decide +kernel
theorem dX6_edgesAround_56 : decode cX6_edgesAround 56 = .ok (.lload_n 3, 1) := by decide +kernel
theorem dX6_edgesAround_57 : decode cX6_edgesAround 57 = .ok (.land, 1) := by decide +kernel
theorem dX6_edgesAround_58 : decode cX6_edgesAround 58 = .ok (.invokestatic 69, 3) := by decide +kernel
theorem dX6_edgesAround_61 : decode cX6_edgesAround 61 = .ok (.iadd, 1) := by decide +kernel
theorem dX6_edgesAround_62 : decode cX6_edgesAround 62 = .ok (.ireturn, 1) := by decide +kernel
theorem dX6_layHalo_0 : decode cX6_layHalo 0 = .ok (.aload_n 0, 1) := by decide +kernel
theorem dX6_layHalo_1 : decode cX6_layHalo 1 = .ok (.invokevirtual 79, 3) := by decide +kernel
theorem dX6_layHalo_4 : decode cX6_layHalo 4 = .ok (.istore_n 1, 1) := by decide +kernel
theorem dX6_layHalo_5 : decode cX6_layHalo 5 = .ok (.iload_n 1, 1) := by decide +kernel
theorem dX6_layHalo_6 : decode cX6_layHalo 6 = .ok (.aload_n 0, 1) := by decide +kernel
theorem dX6_layHalo_7 : decode cX6_layHalo 7 = .ok (.invokevirtual 83, 3) := by decide +kernel
theorem dX6_layHalo_10 : decode cX6_layHalo 10 = .ok (.if_icmp .gt 62, 3) := by decide +kernel
theorem dX6_layHalo_13 : decode cX6_layHalo 13 = .ok (.aload_n 0, 1) := by decide +kernel
theorem dX6_layHalo_14 : decode cX6_layHalo 14 = .ok (.getfield 31, 3) := by decide +kernel
theorem dX6_layHalo_17 : decode cX6_layHalo 17 = .ok (.getfield 64, 3) := by decide +kernel
theorem dX6_layHalo_20 : decode cX6_layHalo 20 = .ok (.iload_n 1, 1) := by decide +kernel
theorem dX6_layHalo_21 : decode cX6_layHalo 21 = .ok (.laload, 1) := by decide +kernel
theorem dX6_layHalo_22 : decode cX6_layHalo 22 = .ok (.lstore_n 2, 1) := by decide +kernel
theorem dX6_layHalo_23 : decode cX6_layHalo 23 = .ok (.aload_n 0, 1) := by decide +kernel
theorem dX6_layHalo_24 : decode cX6_layHalo 24 = .ok (.getfield 15, 3) := by decide +kernel
theorem dX6_layHalo_27 : decode cX6_layHalo 27 = .ok (.iload_n 1, 1) := by decide +kernel
theorem dX6_layHalo_28 : decode cX6_layHalo 28 = .ok (.lload_n 2, 1) := by decide +kernel
theorem dX6_layHalo_29 : decode cX6_layHalo 29 = .ok (.lload_n 2, 1) := by decide +kernel
theorem dX6_layHalo_30 : decode cX6_layHalo 30 = .ok (.iconst 1, 1) := by decide +kernel
theorem dX6_layHalo_31 : decode cX6_layHalo 31 = .ok (.lshl, 1) := by decide +kernel
theorem dX6_layHalo_32 : decode cX6_layHalo 32 = .ok (.lor, 1) := by decide +kernel
theorem dX6_layHalo_33 : decode cX6_layHalo 33 = .ok (.lload_n 2, 1) := by decide +kernel
theorem dX6_layHalo_34 : decode cX6_layHalo 34 = .ok (.iconst 1, 1) := by decide +kernel
theorem dX6_layHalo_35 : decode cX6_layHalo 35 = .ok (.lushr, 1) := by decide +kernel
theorem dX6_layHalo_36 : decode cX6_layHalo 36 = .ok (.lor, 1) := by decide +kernel
theorem dX6_layHalo_37 : decode cX6_layHalo 37 = .ok (.aload_n 0, 1) := by decide +kernel
theorem dX6_layHalo_38 : decode cX6_layHalo 38 = .ok (.getfield 31, 3) := by decide +kernel
theorem dX6_layHalo_41 : decode cX6_layHalo 41 = .ok (.getfield 64, 3) := by decide +kernel
theorem dX6_layHalo_44 : decode cX6_layHalo 44 = .ok (.iload_n 1, 1) := by decide +kernel
theorem dX6_layHalo_45 : decode cX6_layHalo 45 = .ok (.iconst 1, 1) := by decide +kernel
theorem dX6_layHalo_46 : decode cX6_layHalo 46 = .ok (.isub, 1) := by decide +kernel
theorem dX6_layHalo_47 : decode cX6_layHalo 47 = .ok (.invokestatic 75, 3) := by decide +kernel
theorem dX6_layHalo_50 : decode cX6_layHalo 50 = .ok (.lor, 1) := by decide +kernel
theorem dX6_layHalo_51 : decode cX6_layHalo 51 = .ok (.aload_n 0, 1) := by decide +kernel
theorem dX6_layHalo_52 : decode cX6_layHalo 52 = .ok (.getfield 31, 3) := by decide +kernel
theorem dX6_layHalo_55 : decode cX6_layHalo 55 = .ok (.getfield 64, 3) := by decide +kernel
theorem dX6_layHalo_58 : decode cX6_layHalo 58 = .ok (.iload_n 1, 1) := by decide +kernel
theorem dX6_layHalo_59 : decode cX6_layHalo 59 = .ok (.iconst 1, 1) := by decide +kernel
theorem dX6_layHalo_60 : decode cX6_layHalo 60 = .ok (.iadd, 1) := by decide +kernel
theorem dX6_layHalo_61 : decode cX6_layHalo 61 = .ok (.invokestatic 75, 3) := by decide +kernel
theorem dX6_layHalo_64 : decode cX6_layHalo 64 = .ok (.lor, 1) := by decide +kernel
theorem dX6_layHalo_65 : decode cX6_layHalo 65 = .ok (.lastore, 1) := by decide +kernel
theorem dX6_layHalo_66 : decode cX6_layHalo 66 = .ok (.iinc 1 1, 3) := by decide +kernel
theorem dX6_layHalo_69 : decode cX6_layHalo 69 = .ok (.goto (-64), 3) := by decide +kernel
theorem dX6_layHalo_72 : decode cX6_layHalo 72 = .ok (.return_, 1) := by decide +kernel
theorem dX6_firstFree_0 : decode cX6_firstFree 0 = .ok (.iconst (-1), 1) := by decide +kernel
theorem dX6_firstFree_1 : decode cX6_firstFree 1 = .ok (.istore_n 3, 1) := by decide +kernel
theorem dX6_firstFree_2 : decode cX6_firstFree 2 = .ok (.aload_n 0, 1) := by decide +kernel
theorem dX6_firstFree_3 : decode cX6_firstFree 3 = .ok (.invokevirtual 79, 3) := by decide +kernel
theorem dX6_firstFree_6 : decode cX6_firstFree 6 = .ok (.istore 4, 2) := by decide +kernel
theorem dX6_firstFree_8 : decode cX6_firstFree 8 = .ok (.iload 4, 2) := by decide +kernel
theorem dX6_firstFree_10 : decode cX6_firstFree 10 = .ok (.aload_n 0, 1) := by decide +kernel
theorem dX6_firstFree_11 : decode cX6_firstFree 11 = .ok (.invokevirtual 83, 3) := by decide +kernel
theorem dX6_firstFree_14 : decode cX6_firstFree 14 = .ok (.if_icmp .gt 108, 3) := by decide +kernel
theorem dX6_firstFree_17 : decode cX6_firstFree 17 = .ok (.aload_n 0, 1) := by decide +kernel
theorem dX6_firstFree_18 : decode cX6_firstFree 18 = .ok (.getfield 15, 3) := by decide +kernel
theorem dX6_firstFree_21 : decode cX6_firstFree 21 = .ok (.iload 4, 2) := by decide +kernel
theorem dX6_firstFree_23 : decode cX6_firstFree 23 = .ok (.laload, 1) := by decide +kernel
theorem dX6_firstFree_24 : decode cX6_firstFree 24 = .ok (.aload_n 0, 1) := by decide +kernel
theorem dX6_firstFree_25 : decode cX6_firstFree 25 = .ok (.getfield 23, 3) := by decide +kernel
theorem dX6_firstFree_28 : decode cX6_firstFree 28 = .ok (.getfield 86, 3) := by decide +kernel
theorem dX6_firstFree_31 : decode cX6_firstFree 31 = .ok (.aload_n 1, 1) := by decide +kernel
theorem dX6_firstFree_32 : decode cX6_firstFree 32 = .ok (.getfield 91, 3) := by decide +kernel
theorem dX6_firstFree_35 : decode cX6_firstFree 35 = .ok (.iload_n 2, 1) := by decide +kernel
theorem dX6_firstFree_36 : decode cX6_firstFree 36 = .ok (.iaload, 1) := by decide +kernel
theorem dX6_firstFree_37 : decode cX6_firstFree 37 = .ok (.aaload, 1) := by decide +kernel
theorem dX6_firstFree_38 : decode cX6_firstFree 38 = .ok (.iload 4, 2) := by decide +kernel
theorem dX6_firstFree_40 : decode cX6_firstFree 40 = .ok (.laload, 1) := by decide +kernel
theorem dX6_firstFree_41 : decode cX6_firstFree 41 = .ok (.land, 1) := by decide +kernel
theorem dX6_firstFree_42 : decode cX6_firstFree 42 = .ok (.lstore 5, 2) := by decide +kernel
theorem dX6_firstFree_44 : decode cX6_firstFree 44 = .ok (.lload 5, 2) := by decide +kernel
theorem dX6_firstFree_46 : decode cX6_firstFree 46 = .ok (.invokestatic 69, 3) := by decide +kernel
theorem dX6_firstFree_49 : decode cX6_firstFree 49 = .ok (.istore 7, 2) := by decide +kernel
theorem dX6_firstFree_51 : decode cX6_firstFree 51 = .ok (.iload 7, 2) := by decide +kernel
theorem dX6_firstFree_53 : decode cX6_firstFree 53 = .ok (.ifCond .le 63, 3) := by decide +kernel
theorem dX6_firstFree_56 : decode cX6_firstFree 56 = .ok (.aload_n 0, 1) := by decide +kernel
theorem dX6_firstFree_57 : decode cX6_firstFree 57 = .ok (.getfield 27, 3) := by decide +kernel
theorem dX6_firstFree_60 : decode cX6_firstFree 60 = .ok (.getfield 97, 3) := by decide +kernel
theorem dX6_firstFree_63 : decode cX6_firstFree 63 = .ok (.iload_n 2, 1) := by decide +kernel
theorem dX6_firstFree_64 : decode cX6_firstFree 64 = .ok (.aaload, 1) := by decide +kernel
theorem dX6_firstFree_65 : decode cX6_firstFree 65 = .ok (.lload 5, 2) := by decide +kernel
theorem dX6_firstFree_67 : decode cX6_firstFree 67 = .ok (.invokestatic 94, 3) := by decide +kernel
theorem dX6_firstFree_70 : decode cX6_firstFree 70 = .ok (.iload 4, 2) := by decide +kernel
theorem dX6_firstFree_72 : decode cX6_firstFree 72 = .ok (.invokestatic 101, 3) := by decide +kernel
theorem dX6_firstFree_75 : decode cX6_firstFree 75 = .ok (.iaload, 1) := by decide +kernel
theorem dX6_firstFree_76 : decode cX6_firstFree 76 = .ok (.istore 8, 2) := by decide +kernel
theorem dX6_firstFree_78 : decode cX6_firstFree 78 = .ok (.lload 5, 2) := by decide +kernel
theorem dX6_firstFree_80 : decode cX6_firstFree 80 = .ok (.lload 5, 2) := by decide +kernel
theorem dX6_firstFree_82 : decode cX6_firstFree 82 = .ok (.lconst 1, 1) := by decide +kernel
theorem dX6_firstFree_83 : decode cX6_firstFree 83 = .ok (.lsub, 1) := by decide +kernel
theorem dX6_firstFree_84 : decode cX6_firstFree 84 = .ok (.land, 1) := by decide +kernel
theorem dX6_firstFree_85 : decode cX6_firstFree 85 = .ok (.lstore 5, 2) := by decide +kernel
theorem dX6_firstFree_87 : decode cX6_firstFree 87 = .ok (.iload_n 3, 1) := by decide +kernel
theorem dX6_firstFree_88 : decode cX6_firstFree 88 = .ok (.iconst (-1), 1) := by decide +kernel
theorem dX6_firstFree_89 : decode cX6_firstFree 89 = .ok (.if_icmp .eq 9, 3) := by decide +kernel
theorem dX6_firstFree_92 : decode cX6_firstFree 92 = .ok (.iload 8, 2) := by decide +kernel
theorem dX6_firstFree_94 : decode cX6_firstFree 94 = .ok (.iload_n 3, 1) := by decide +kernel
theorem dX6_firstFree_95 : decode cX6_firstFree 95 = .ok (.if_icmp .ge 15, 3) := by decide +kernel
theorem dX6_firstFree_98 : decode cX6_firstFree 98 = .ok (.aload_n 0, 1) := by decide +kernel
theorem dX6_firstFree_99 : decode cX6_firstFree 99 = .ok (.iload 8, 2) := by decide +kernel
theorem dX6_firstFree_101 : decode cX6_firstFree 101 = .ok (.invokevirtual 108, 3) := by decide +kernel
theorem dX6_firstFree_104 : decode cX6_firstFree 104 = .ok (.ifCond .eq 6, 3) := by decide +kernel
theorem dX6_firstFree_107 : decode cX6_firstFree 107 = .ok (.iload 8, 2) := by decide +kernel
theorem dX6_firstFree_109 : decode cX6_firstFree 109 = .ok (.istore_n 3, 1) := by decide +kernel
theorem dX6_firstFree_110 : decode cX6_firstFree 110 = .ok (.iinc 7 (-1), 3) := by decide +kernel
theorem dX6_firstFree_113 : decode cX6_firstFree 113 = .ok (.goto (-62), 3) := by decide +kernel
theorem dX6_firstFree_116 : decode cX6_firstFree 116 = .ok (.iinc 4 1, 3) := by decide +kernel
theorem dX6_firstFree_119 : decode cX6_firstFree 119 = .ok (.goto (-111), 3) := by decide +kernel
theorem dX6_firstFree_122 : decode cX6_firstFree 122 = .ok (.iload_n 3, 1) := by decide +kernel
theorem dX6_firstFree_123 : decode cX6_firstFree 123 = .ok (.ireturn, 1) := by decide +kernel
theorem dX6_isFree_0 : decode cX6_isFree 0 = .ok (.iconst 0, 1) := by decide +kernel
theorem dX6_isFree_1 : decode cX6_isFree 1 = .ok (.istore_n 2, 1) := by decide +kernel
theorem dX6_isFree_2 : decode cX6_isFree 2 = .ok (.iload_n 2, 1) := by decide +kernel
theorem dX6_isFree_3 : decode cX6_isFree 3 = .ok (.aload_n 0, 1) := by decide +kernel
theorem dX6_isFree_4 : decode cX6_isFree 4 = .ok (.getfield 19, 3) := by decide +kernel
theorem dX6_isFree_7 : decode cX6_isFree 7 = .ok (.if_icmp .ge 21, 3) := by decide +kernel
theorem dX6_isFree_10 : decode cX6_isFree 10 = .ok (.aload_n 0, 1) := by decide +kernel
theorem dX6_isFree_11 : decode cX6_isFree 11 = .ok (.getfield 9, 3) := by decide +kernel
theorem dX6_isFree_14 : decode cX6_isFree 14 = .ok (.iload_n 2, 1) := by decide +kernel
theorem dX6_isFree_15 : decode cX6_isFree 15 = .ok (.iaload, 1) := by decide +kernel
theorem dX6_isFree_16 : decode cX6_isFree 16 = .ok (.iload_n 1, 1) := by decide +kernel
theorem dX6_isFree_17 : decode cX6_isFree 17 = .ok (.if_icmp .ne 5, 3) := by decide +kernel
theorem dX6_isFree_20 : decode cX6_isFree 20 = .ok (.iconst 0, 1) := by decide +kernel
theorem dX6_isFree_21 : decode cX6_isFree 21 = .ok (.ireturn, 1) := by decide +kernel
theorem dX6_isFree_22 : decode cX6_isFree 22 = .ok (.iinc 2 1, 3) := by decide +kernel
theorem dX6_isFree_25 : decode cX6_isFree 25 = .ok (.goto (-23), 3) := by decide +kernel
theorem dX6_isFree_28 : decode cX6_isFree 28 = .ok (.iconst 1, 1) := by decide +kernel
theorem dX6_isFree_29 : decode cX6_isFree 29 = .ok (.ireturn, 1) := by decide +kernel
theorem dX6_lowest_0 : decode cX6_lowest 0 = .ok (.iconst 0, 1) := by decide +kernel
theorem dX6_lowest_1 : decode cX6_lowest 1 = .ok (.aload_n 0, 1) := by decide +kernel
theorem dX6_lowest_2 : decode cX6_lowest 2 = .ok (.getfield 31, 3) := by decide +kernel
theorem dX6_lowest_5 : decode cX6_lowest 5 = .ok (.getfield 56, 3) := by decide +kernel
theorem dX6_lowest_8 : decode cX6_lowest 8 = .ok (.iconst 1, 1) := by decide +kernel
theorem dX6_lowest_9 : decode cX6_lowest 9 = .ok (.isub, 1) := by decide +kernel
theorem dX6_lowest_10 : decode cX6_lowest 10 = .ok (.invokestatic 112, 3) := by decide +kernel
theorem dX6_lowest_13 : decode cX6_lowest 13 = .ok (.ireturn, 1) := by decide +kernel
theorem dX6_highest_0 : decode cX6_highest 0 = .ok (.bipush 63, 2) := by decide +kernel
theorem dX6_highest_2 : decode cX6_highest 2 = .ok (.aload_n 0, 1) := by decide +kernel
theorem dX6_highest_3 : decode cX6_highest 3 = .ok (.getfield 31, 3) := by decide +kernel
theorem dX6_highest_6 : decode cX6_highest 6 = .ok (.getfield 61, 3) := by decide +kernel
theorem dX6_highest_9 : decode cX6_highest 9 = .ok (.iconst 1, 1) := by decide +kernel
theorem dX6_highest_10 : decode cX6_highest 10 = .ok (.iadd, 1) := by decide +kernel
theorem dX6_highest_11 : decode cX6_highest 11 = .ok (.invokestatic 117, 3) := by decide +kernel
theorem dX6_highest_14 : decode cX6_highest 14 = .ok (.ireturn, 1) := by decide +kernel
theorem dX7_init_0 : decode cX7_init 0 = .ok (.aload_n 0, 1) := by decide +kernel
theorem dX7_init_1 : decode cX7_init 1 = .ok (.invokespecial 3, 3) := by decide +kernel
theorem dX7_init_4 : decode cX7_init 4 = .ok (.aload_n 0, 1) := by decide +kernel
theorem dX7_init_5 : decode cX7_init 5 = .ok (.bipush 24, 2) := by decide +kernel
theorem dX7_init_7 : decode cX7_init 7 = .ok (.newarray .long, 2) := by decide +kernel
theorem dX7_init_9 : decode cX7_init 9 = .ok (.putfield 9, 3) := by decide +kernel
theorem dX7_init_12 : decode cX7_init 12 = .ok (.aload_n 0, 1) := by decide +kernel
theorem dX7_init_13 : decode cX7_init 13 = .ok (.bipush 24, 2) := by decide +kernel
theorem dX7_init_15 : decode cX7_init 15 = .ok (.newarray .int, 2) := by decide +kernel
theorem dX7_init_17 : decode cX7_init 17 = .ok (.putfield 15, 3) := by decide +kernel
theorem dX7_init_20 : decode cX7_init 20 = .ok (.aload_n 0, 1) := by decide +kernel
theorem dX7_init_21 : decode cX7_init 21 = .ok (.bipush 24, 2) := by decide +kernel
theorem dX7_init_23 : decode cX7_init 23 = .ok (.newarray .int, 2) := by decide +kernel
theorem dX7_init_25 : decode cX7_init 25 = .ok (.putfield 19, 3) := by decide +kernel
theorem dX7_init_28 : decode cX7_init 28 = .ok (.aload_n 0, 1) := by decide +kernel
theorem dX7_init_29 : decode cX7_init 29 = .ok (.bipush 24, 2) := by decide +kernel
theorem dX7_init_31 : decode cX7_init 31 = .ok (.newarray .int, 2) := by decide +kernel
theorem dX7_init_33 : decode cX7_init 33 = .ok (.putfield 22, 3) := by decide +kernel
theorem dX7_init_36 : decode cX7_init 36 = .ok (.aload_n 0, 1) := by decide +kernel
theorem dX7_init_37 : decode cX7_init 37 = .ok (.bipush 8, 2) := by decide +kernel
theorem dX7_init_39 : decode cX7_init 39 = .ok (.newarray .int, 2) := by decide +kernel
theorem dX7_init_41 : decode cX7_init 41 = .ok (.putfield 25, 3) := by decide +kernel
theorem dX7_init_44 : decode cX7_init 44 = .ok (.aload_n 0, 1) := by decide +kernel
theorem dX7_init_45 : decode cX7_init 45 = .ok (.bipush 16, 2) := by decide +kernel
theorem dX7_init_47 : decode cX7_init 47 = .ok (.newarray .int, 2) := by decide +kernel
theorem dX7_init_49 : decode cX7_init 49 = .ok (.putfield 28, 3) := by decide +kernel
theorem dX7_init_52 : decode cX7_init 52 = .ok (.aload_n 0, 1) := by decide +kernel
theorem dX7_init_53 : decode cX7_init 53 = .ok (.bipush 16, 2) := by decide +kernel
theorem dX7_init_55 : decode cX7_init 55 = .ok (.newarray .int, 2) := by decide +kernel
theorem dX7_init_57 : decode cX7_init 57 = .ok (.putfield 31, 3) := by decide +kernel
theorem dX7_init_60 : decode cX7_init 60 = .ok (.aload_n 0, 1) := by decide +kernel
theorem dX7_init_61 : decode cX7_init 61 = .ok (.bipush 16, 2) := by decide +kernel
theorem dX7_init_63 : decode cX7_init 63 = .ok (.newarray .int, 2) := by decide +kernel
theorem dX7_init_65 : decode cX7_init 65 = .ok (.putfield 34, 3) := by decide +kernel
theorem dX7_init_68 : decode cX7_init 68 = .ok (.aload_n 0, 1) := by decide +kernel
theorem dX7_init_69 : decode cX7_init 69 = .ok (.bipush 8, 2) := by decide +kernel
theorem dX7_init_71 : decode cX7_init 71 = .ok (.newarray .long, 2) := by decide +kernel
theorem dX7_init_73 : decode cX7_init 73 = .ok (.putfield 37, 3) := by decide +kernel
theorem dX7_init_76 : decode cX7_init 76 = .ok (.aload_n 0, 1) := by decide +kernel
theorem dX7_init_77 : decode cX7_init 77 = .ok (.bipush 8, 2) := by decide +kernel
theorem dX7_init_79 : decode cX7_init 79 = .ok (.newarray .int, 2) := by decide +kernel
theorem dX7_init_81 : decode cX7_init 81 = .ok (.putfield 40, 3) := by decide +kernel
theorem dX7_init_84 : decode cX7_init 84 = .ok (.aload_n 0, 1) := by decide +kernel
theorem dX7_init_85 : decode cX7_init 85 = .ok (.bipush 8, 2) := by decide +kernel
theorem dX7_init_87 : decode cX7_init 87 = .ok (.newarray .int, 2) := by decide +kernel
theorem dX7_init_89 : decode cX7_init 89 = .ok (.putfield 43, 3) := by decide +kernel
theorem dX7_init_92 : decode cX7_init 92 = .ok (.aload_n 0, 1) := by decide +kernel
theorem dX7_init_93 : decode cX7_init 93 = .ok (.bipush 32, 2) := by decide +kernel
theorem dX7_init_95 : decode cX7_init 95 = .ok (.newarray .int, 2) := by decide +kernel
theorem dX7_init_97 : decode cX7_init 97 = .ok (.putfield 46, 3) := by decide +kernel
theorem dX7_init_100 : decode cX7_init 100 = .ok (.aload_n 0, 1) := by decide +kernel
theorem dX7_init_101 : decode cX7_init 101 = .ok (.iconst 0, 1) := by decide +kernel
theorem dX7_init_102 : decode cX7_init 102 = .ok (.putfield 49, 3) := by decide +kernel
theorem dX7_init_105 : decode cX7_init 105 = .ok (.aload_n 0, 1) := by decide +kernel
theorem dX7_init_106 : decode cX7_init 106 = .ok (.iconst 0, 1) := by decide +kernel
theorem dX7_init_107 : decode cX7_init 107 = .ok (.putfield 53, 3) := by decide +kernel
theorem dX7_init_110 : decode cX7_init 110 = .ok (.aload_n 0, 1) := by decide +kernel
theorem dX7_init_111 : decode cX7_init 111 = .ok (.iconst 0, 1) := by decide +kernel
theorem dX7_init_112 : decode cX7_init 112 = .ok (.putfield 56, 3) := by decide +kernel
theorem dX7_init_115 : decode cX7_init 115 = .ok (.aload_n 0, 1) := by decide +kernel
theorem dX7_init_116 : decode cX7_init 116 = .ok (.iconst 0, 1) := by decide +kernel
theorem dX7_init_117 : decode cX7_init 117 = .ok (.putfield 59, 3) := by decide +kernel
theorem dX7_init_120 : decode cX7_init 120 = .ok (.return_, 1) := by decide +kernel
theorem dX7_clear_0 : decode cX7_clear 0 = .ok (.aload_n 0, 1) := by decide +kernel
theorem dX7_clear_1 : decode cX7_clear 1 = .ok (.iconst 0, 1) := by decide +kernel
theorem dX7_clear_2 : decode cX7_clear 2 = .ok (.putfield 49, 3) := by decide +kernel
theorem dX7_clear_5 : decode cX7_clear 5 = .ok (.aload_n 0, 1) := by decide +kernel
theorem dX7_clear_6 : decode cX7_clear 6 = .ok (.iconst 0, 1) := by decide +kernel
theorem dX7_clear_7 : decode cX7_clear 7 = .ok (.putfield 53, 3) := by decide +kernel
theorem dX7_clear_10 : decode cX7_clear 10 = .ok (.aload_n 0, 1) := by decide +kernel
theorem dX7_clear_11 : decode cX7_clear 11 = .ok (.iconst 0, 1) := by decide +kernel
theorem dX7_clear_12 : decode cX7_clear 12 = .ok (.putfield 56, 3) := by decide +kernel
theorem dX7_clear_15 : decode cX7_clear 15 = .ok (.aload_n 0, 1) := by decide +kernel
theorem dX7_clear_16 : decode cX7_clear 16 = .ok (.iconst 0, 1) := by decide +kernel
theorem dX7_clear_17 : decode cX7_clear 17 = .ok (.putfield 59, 3) := by decide +kernel
theorem dX7_clear_20 : decode cX7_clear 20 = .ok (.return_, 1) := by decide +kernel
theorem dX7_addLayer_0 : decode cX7_addLayer 0 = .ok (.aload_n 0, 1) := by decide +kernel
theorem dX7_addLayer_1 : decode cX7_addLayer 1 = .ok (.getfield 9, 3) := by decide +kernel
theorem dX7_addLayer_4 : decode cX7_addLayer 4 = .ok (.aload_n 0, 1) := by decide +kernel
theorem dX7_addLayer_5 : decode cX7_addLayer 5 = .ok (.getfield 49, 3) := by decide +kernel
theorem dX7_addLayer_8 : decode cX7_addLayer 8 = .ok (.lload_n 1, 1) := by decide +kernel
theorem dX7_addLayer_9 : decode cX7_addLayer 9 = .ok (.lastore, 1) := by decide +kernel
theorem dX7_addLayer_10 : decode cX7_addLayer 10 = .ok (.aload_n 0, 1) := by decide +kernel
theorem dX7_addLayer_11 : decode cX7_addLayer 11 = .ok (.getfield 15, 3) := by decide +kernel
theorem dX7_addLayer_14 : decode cX7_addLayer 14 = .ok (.aload_n 0, 1) := by decide +kernel
theorem dX7_addLayer_15 : decode cX7_addLayer 15 = .ok (.getfield 49, 3) := by decide +kernel
theorem dX7_addLayer_18 : decode cX7_addLayer 18 = .ok (.iload_n 3, 1) := by decide +kernel
theorem dX7_addLayer_19 : decode cX7_addLayer 19 = .ok (.iastore, 1) := by decide +kernel
theorem dX7_addLayer_20 : decode cX7_addLayer 20 = .ok (.aload_n 0, 1) := by decide +kernel
theorem dX7_addLayer_21 : decode cX7_addLayer 21 = .ok (.getfield 19, 3) := by decide +kernel
theorem dX7_addLayer_24 : decode cX7_addLayer 24 = .ok (.aload_n 0, 1) := by decide +kernel
theorem dX7_addLayer_25 : decode cX7_addLayer 25 = .ok (.getfield 49, 3) := by decide +kernel
theorem dX7_addLayer_28 : decode cX7_addLayer 28 = .ok (.iload 4, 2) := by decide +kernel
theorem dX7_addLayer_30 : decode cX7_addLayer 30 = .ok (.iastore, 1) := by decide +kernel
theorem dX7_addLayer_31 : decode cX7_addLayer 31 = .ok (.aload_n 0, 1) := by decide +kernel
theorem dX7_addLayer_32 : decode cX7_addLayer 32 = .ok (.getfield 22, 3) := by decide +kernel
theorem dX7_addLayer_35 : decode cX7_addLayer 35 = .ok (.aload_n 0, 1) := by decide +kernel
theorem dX7_addLayer_36 : decode cX7_addLayer 36 = .ok (.getfield 49, 3) := by decide +kernel
theorem dX7_addLayer_39 : decode cX7_addLayer 39 = .ok (.iload 5, 2) := by decide +kernel
theorem dX7_addLayer_41 : decode cX7_addLayer 41 = .ok (.iastore, 1) := by decide +kernel
theorem dX7_addLayer_42 : decode cX7_addLayer 42 = .ok (.aload_n 0, 1) := by decide +kernel
theorem dX7_addLayer_43 : decode cX7_addLayer 43 = .ok (.dup, 1) := by decide +kernel
theorem dX7_addLayer_44 : decode cX7_addLayer 44 = .ok (.getfield 49, 3) := by decide +kernel
theorem dX7_addLayer_47 : decode cX7_addLayer 47 = .ok (.iconst 1, 1) := by decide +kernel
theorem dX7_addLayer_48 : decode cX7_addLayer 48 = .ok (.iadd, 1) := by decide +kernel
theorem dX7_addLayer_49 : decode cX7_addLayer 49 = .ok (.putfield 49, 3) := by decide +kernel
theorem dX7_addLayer_52 : decode cX7_addLayer 52 = .ok (.return_, 1) := by decide +kernel
theorem dX7_addWire_0 : decode cX7_addWire 0 = .ok (.aload_n 0, 1) := by decide +kernel
theorem dX7_addWire_1 : decode cX7_addWire 1 = .ok (.getfield 25, 3) := by decide +kernel
theorem dX7_addWire_4 : decode cX7_addWire 4 = .ok (.aload_n 0, 1) := by decide +kernel
theorem dX7_addWire_5 : decode cX7_addWire 5 = .ok (.getfield 53, 3) := by decide +kernel
theorem dX7_addWire_8 : decode cX7_addWire 8 = .ok (.iload_n 1, 1) := by decide +kernel
theorem dX7_addWire_9 : decode cX7_addWire 9 = .ok (.iastore, 1) := by decide +kernel
theorem dX7_addWire_10 : decode cX7_addWire 10 = .ok (.aload_n 0, 1) := by decide +kernel
theorem dX7_addWire_11 : decode cX7_addWire 11 = .ok (.dup, 1) := by decide +kernel
theorem dX7_addWire_12 : decode cX7_addWire 12 = .ok (.getfield 53, 3) := by decide +kernel
theorem dX7_addWire_15 : decode cX7_addWire 15 = .ok (.iconst 1, 1) := by decide +kernel
theorem dX7_addWire_16 : decode cX7_addWire 16 = .ok (.iadd, 1) := by decide +kernel
theorem dX7_addWire_17 : decode cX7_addWire 17 = .ok (.putfield 53, 3) := by decide +kernel
theorem dX7_addWire_20 : decode cX7_addWire 20 = .ok (.return_, 1) := by decide +kernel
theorem dX7_addJoin_0 : decode cX7_addJoin 0 = .ok (.aload_n 0, 1) := by decide +kernel
theorem dX7_addJoin_1 : decode cX7_addJoin 1 = .ok (.getfield 28, 3) := by decide +kernel
theorem dX7_addJoin_4 : decode cX7_addJoin 4 = .ok (.aload_n 0, 1) := by decide +kernel
theorem dX7_addJoin_5 : decode cX7_addJoin 5 = .ok (.getfield 56, 3) := by decide +kernel
theorem dX7_addJoin_8 : decode cX7_addJoin 8 = .ok (.iload_n 1, 1) := by decide +kernel
theorem dX7_addJoin_9 : decode cX7_addJoin 9 = .ok (.iastore, 1) := by decide +kernel
theorem dX7_addJoin_10 : decode cX7_addJoin 10 = .ok (.aload_n 0, 1) := by decide +kernel
theorem dX7_addJoin_11 : decode cX7_addJoin 11 = .ok (.getfield 31, 3) := by decide +kernel
theorem dX7_addJoin_14 : decode cX7_addJoin 14 = .ok (.aload_n 0, 1) := by decide +kernel
theorem dX7_addJoin_15 : decode cX7_addJoin 15 = .ok (.getfield 56, 3) := by decide +kernel
theorem dX7_addJoin_18 : decode cX7_addJoin 18 = .ok (.iload_n 2, 1) := by decide +kernel
theorem dX7_addJoin_19 : decode cX7_addJoin 19 = .ok (.iastore, 1) := by decide +kernel
theorem dX7_addJoin_20 : decode cX7_addJoin 20 = .ok (.aload_n 0, 1) := by decide +kernel
theorem dX7_addJoin_21 : decode cX7_addJoin 21 = .ok (.getfield 34, 3) := by decide +kernel
theorem dX7_addJoin_24 : decode cX7_addJoin 24 = .ok (.aload_n 0, 1) := by decide +kernel
theorem dX7_addJoin_25 : decode cX7_addJoin 25 = .ok (.getfield 56, 3) := by decide +kernel
theorem dX7_addJoin_28 : decode cX7_addJoin 28 = .ok (.iload_n 3, 1) := by decide +kernel
theorem dX7_addJoin_29 : decode cX7_addJoin 29 = .ok (.iastore, 1) := by decide +kernel
theorem dX7_addJoin_30 : decode cX7_addJoin 30 = .ok (.aload_n 0, 1) := by decide +kernel
theorem dX7_addJoin_31 : decode cX7_addJoin 31 = .ok (.dup, 1) := by decide +kernel
theorem dX7_addJoin_32 : decode cX7_addJoin 32 = .ok (.getfield 56, 3) := by decide +kernel
theorem dX7_addJoin_35 : decode cX7_addJoin 35 = .ok (.iconst 1, 1) := by decide +kernel
theorem dX7_addJoin_36 : decode cX7_addJoin 36 = .ok (.iadd, 1) := by decide +kernel
theorem dX7_addJoin_37 : decode cX7_addJoin 37 = .ok (.putfield 56, 3) := by decide +kernel
theorem dX7_addJoin_40 : decode cX7_addJoin 40 = .ok (.return_, 1) := by decide +kernel
theorem dX7_addKind_0 : decode cX7_addKind 0 = .ok (.aload_n 0, 1) := by decide +kernel
theorem dX7_addKind_1 : decode cX7_addKind 1 = .ok (.getfield 37, 3) := by decide +kernel
theorem dX7_addKind_4 : decode cX7_addKind 4 = .ok (.aload_n 0, 1) := by decide +kernel
theorem dX7_addKind_5 : decode cX7_addKind 5 = .ok (.getfield 59, 3) := by decide +kernel
theorem dX7_addKind_8 : decode cX7_addKind 8 = .ok (.lload_n 1, 1) := by decide +kernel
theorem dX7_addKind_9 : decode cX7_addKind 9 = .ok (.lastore, 1) := by decide +kernel
theorem dX7_addKind_10 : decode cX7_addKind 10 = .ok (.aload_n 0, 1) := by decide +kernel
theorem dX7_addKind_11 : decode cX7_addKind 11 = .ok (.getfield 40, 3) := by decide +kernel
theorem dX7_addKind_14 : decode cX7_addKind 14 = .ok (.aload_n 0, 1) := by decide +kernel
theorem dX7_addKind_15 : decode cX7_addKind 15 = .ok (.getfield 59, 3) := by decide +kernel
theorem dX7_addKind_18 : decode cX7_addKind 18 = .ok (.iload_n 3, 1) := by decide +kernel
theorem dX7_addKind_19 : decode cX7_addKind 19 = .ok (.iastore, 1) := by decide +kernel
theorem dX7_addKind_20 : decode cX7_addKind 20 = .ok (.aload_n 0, 1) := by decide +kernel
theorem dX7_addKind_21 : decode cX7_addKind 21 = .ok (.getfield 43, 3) := by decide +kernel
theorem dX7_addKind_24 : decode cX7_addKind 24 = .ok (.aload_n 0, 1) := by decide +kernel
theorem dX7_addKind_25 : decode cX7_addKind 25 = .ok (.getfield 59, 3) := by decide +kernel
theorem dX7_addKind_28 : decode cX7_addKind 28 = .ok (.iload 4, 2) := by decide +kernel
theorem dX7_addKind_30 : decode cX7_addKind 30 = .ok (.iastore, 1) := by decide +kernel
theorem dX7_addKind_31 : decode cX7_addKind 31 = .ok (.aload_n 0, 1) := by decide +kernel
theorem dX7_addKind_32 : decode cX7_addKind 32 = .ok (.dup, 1) := by decide +kernel
theorem dX7_addKind_33 : decode cX7_addKind 33 = .ok (.getfield 59, 3) := by decide +kernel
theorem dX7_addKind_36 : decode cX7_addKind 36 = .ok (.iconst 1, 1) := by decide +kernel
theorem dX7_addKind_37 : decode cX7_addKind 37 = .ok (.iadd, 1) := by decide +kernel
theorem dX7_addKind_38 : decode cX7_addKind 38 = .ok (.putfield 59, 3) := by decide +kernel
theorem dX7_addKind_41 : decode cX7_addKind 41 = .ok (.return_, 1) := by decide +kernel
theorem dX7_layerNamed_0 : decode cX7_layerNamed 0 = .ok (.iconst 0, 1) := by decide +kernel
theorem dX7_layerNamed_1 : decode cX7_layerNamed 1 = .ok (.istore_n 3, 1) := by decide +kernel
theorem dX7_layerNamed_2 : decode cX7_layerNamed 2 = .ok (.iload_n 3, 1) := by decide +kernel
theorem dX7_layerNamed_3 : decode cX7_layerNamed 3 = .ok (.aload_n 0, 1) := by decide +kernel
theorem dX7_layerNamed_4 : decode cX7_layerNamed 4 = .ok (.getfield 49, 3) := by decide +kernel
theorem dX7_layerNamed_7 : decode cX7_layerNamed 7 = .ok (.if_icmp .ge 22, 3) := by decide +kernel
theorem dX7_layerNamed_10 : decode cX7_layerNamed 10 = .ok (.aload_n 0, 1) := by decide +kernel
theorem dX7_layerNamed_11 : decode cX7_layerNamed 11 = .ok (.getfield 9, 3) := by decide +kernel
theorem dX7_layerNamed_14 : decode cX7_layerNamed 14 = .ok (.iload_n 3, 1) := by decide +kernel
theorem dX7_layerNamed_15 : decode cX7_layerNamed 15 = .ok (.laload, 1) := by decide +kernel
theorem dX7_layerNamed_16 : decode cX7_layerNamed 16 = .ok (.lload_n 1, 1) := by decide +kernel
theorem dX7_layerNamed_17 : decode cX7_layerNamed 17 = .ok (.lcmp, 1) := by decide +kernel
theorem dX7_layerNamed_18 : decode cX7_layerNamed 18 = .ok (.ifCond .ne 5, 3) := by decide +kernel
theorem dX7_layerNamed_21 : decode cX7_layerNamed 21 = .ok (.iload_n 3, 1) := by decide +kernel
theorem dX7_layerNamed_22 : decode cX7_layerNamed 22 = .ok (.ireturn, 1) := by decide +kernel
theorem dX7_layerNamed_23 : decode cX7_layerNamed 23 = .ok (.iinc 3 1, 3) := by decide +kernel
theorem dX7_layerNamed_26 : decode cX7_layerNamed 26 = .ok (.goto (-24), 3) := by decide +kernel
theorem dX7_layerNamed_29 : decode cX7_layerNamed 29 = .ok (.iconst (-1), 1) := by decide +kernel
theorem dX7_layerNamed_30 : decode cX7_layerNamed 30 = .ok (.ireturn, 1) := by decide +kernel
theorem dX7_wireOf_0 : decode cX7_wireOf 0 = .ok (.iconst 0, 1) := by decide +kernel
theorem dX7_wireOf_1 : decode cX7_wireOf 1 = .ok (.istore_n 2, 1) := by decide +kernel
theorem dX7_wireOf_2 : decode cX7_wireOf 2 = .ok (.iload_n 2, 1) := by decide +kernel
theorem dX7_wireOf_3 : decode cX7_wireOf 3 = .ok (.aload_n 0, 1) := by decide +kernel
theorem dX7_wireOf_4 : decode cX7_wireOf 4 = .ok (.getfield 53, 3) := by decide +kernel
theorem dX7_wireOf_7 : decode cX7_wireOf 7 = .ok (.if_icmp .ge 21, 3) := by decide +kernel
theorem dX7_wireOf_10 : decode cX7_wireOf 10 = .ok (.aload_n 0, 1) := by decide +kernel
theorem dX7_wireOf_11 : decode cX7_wireOf 11 = .ok (.getfield 25, 3) := by decide +kernel
theorem dX7_wireOf_14 : decode cX7_wireOf 14 = .ok (.iload_n 2, 1) := by decide +kernel
theorem dX7_wireOf_15 : decode cX7_wireOf 15 = .ok (.iaload, 1) := by decide +kernel
theorem dX7_wireOf_16 : decode cX7_wireOf 16 = .ok (.iload_n 1, 1) := by decide +kernel
theorem dX7_wireOf_17 : decode cX7_wireOf 17 = .ok (.if_icmp .ne 5, 3) := by decide +kernel
theorem dX7_wireOf_20 : decode cX7_wireOf 20 = .ok (.iload_n 2, 1) := by decide +kernel
theorem dX7_wireOf_21 : decode cX7_wireOf 21 = .ok (.ireturn, 1) := by decide +kernel
theorem dX7_wireOf_22 : decode cX7_wireOf 22 = .ok (.iinc 2 1, 3) := by decide +kernel
theorem dX7_wireOf_25 : decode cX7_wireOf 25 = .ok (.goto (-23), 3) := by decide +kernel
theorem dX7_wireOf_28 : decode cX7_wireOf 28 = .ok (.iconst (-1), 1) := by decide +kernel
theorem dX7_wireOf_29 : decode cX7_wireOf 29 = .ok (.ireturn, 1) := by decide +kernel
theorem dX7_hasKind_0 : decode cX7_hasKind 0 = .ok (.iconst 0, 1) := by decide +kernel
theorem dX7_hasKind_1 : decode cX7_hasKind 1 = .ok (.istore_n 3, 1) := by decide +kernel
theorem dX7_hasKind_2 : decode cX7_hasKind 2 = .ok (.iload_n 3, 1) := by decide +kernel
theorem dX7_hasKind_3 : decode cX7_hasKind 3 = .ok (.aload_n 0, 1) := by decide +kernel
theorem dX7_hasKind_4 : decode cX7_hasKind 4 = .ok (.getfield 59, 3) := by decide +kernel
theorem dX7_hasKind_7 : decode cX7_hasKind 7 = .ok (.if_icmp .ge 22, 3) := by decide +kernel
theorem dX7_hasKind_10 : decode cX7_hasKind 10 = .ok (.aload_n 0, 1) := by decide +kernel
theorem dX7_hasKind_11 : decode cX7_hasKind 11 = .ok (.getfield 37, 3) := by decide +kernel
theorem dX7_hasKind_14 : decode cX7_hasKind 14 = .ok (.iload_n 3, 1) := by decide +kernel
theorem dX7_hasKind_15 : decode cX7_hasKind 15 = .ok (.laload, 1) := by decide +kernel
theorem dX7_hasKind_16 : decode cX7_hasKind 16 = .ok (.lload_n 1, 1) := by decide +kernel
theorem dX7_hasKind_17 : decode cX7_hasKind 17 = .ok (.lcmp, 1) := by decide +kernel
theorem dX7_hasKind_18 : decode cX7_hasKind 18 = .ok (.ifCond .ne 5, 3) := by decide +kernel
theorem dX7_hasKind_21 : decode cX7_hasKind 21 = .ok (.iconst 1, 1) := by decide +kernel
theorem dX7_hasKind_22 : decode cX7_hasKind 22 = .ok (.ireturn, 1) := by decide +kernel
theorem dX7_hasKind_23 : decode cX7_hasKind 23 = .ok (.iinc 3 1, 3) := by decide +kernel
theorem dX7_hasKind_26 : decode cX7_hasKind 26 = .ok (.goto (-24), 3) := by decide +kernel
theorem dX7_hasKind_29 : decode cX7_hasKind 29 = .ok (.iconst 0, 1) := by decide +kernel
theorem dX7_hasKind_30 : decode cX7_hasKind 30 = .ok (.ireturn, 1) := by decide +kernel
theorem dX9_init_0 : decode cX9_init 0 = .ok (.aload_n 0, 1) := by decide +kernel
theorem dX9_init_1 : decode cX9_init 1 = .ok (.invokespecial 3, 3) := by decide +kernel
theorem dX9_init_4 : decode cX9_init 4 = .ok (.aload_n 0, 1) := by decide +kernel
theorem dX9_init_5 : decode cX9_init 5 = .ok (.sipush 800, 3) := by decide +kernel
theorem dX9_init_8 : decode cX9_init 8 = .ok (.newarray .char, 2) := by decide +kernel
theorem dX9_init_10 : decode cX9_init 10 = .ok (.putfield 9, 3) := by decide +kernel
theorem dX9_init_13 : decode cX9_init 13 = .ok (.aload_n 0, 1) := by decide +kernel
theorem dX9_init_14 : decode cX9_init 14 = .ok (.iconst 0, 1) := by decide +kernel
theorem dX9_init_15 : decode cX9_init 15 = .ok (.putfield 15, 3) := by decide +kernel
theorem dX9_init_18 : decode cX9_init 18 = .ok (.return_, 1) := by decide +kernel
theorem dX9_add_0 : decode cX9_add 0 = .ok (.iload_n 1, 1) := by decide +kernel
theorem dX9_add_1 : decode cX9_add 1 = .ok (.bipush 10, 2) := by decide +kernel
theorem dX9_add_3 : decode cX9_add 3 = .ok (.if_icmp .eq 15, 3) := by decide +kernel
theorem dX9_add_6 : decode cX9_add 6 = .ok (.iload_n 1, 1) := by decide +kernel
theorem dX9_add_7 : decode cX9_add 7 = .ok (.bipush 32, 2) := by decide +kernel
theorem dX9_add_9 : decode cX9_add 9 = .ok (.if_icmp .lt 13, 3) := by decide +kernel
theorem dX9_add_12 : decode cX9_add 12 = .ok (.iload_n 1, 1) := by decide +kernel
theorem dX9_add_13 : decode cX9_add 13 = .ok (.bipush 126, 2) := by decide +kernel
theorem dX9_add_15 : decode cX9_add 15 = .ok (.if_icmp .gt 7, 3) := by decide +kernel
theorem dX9_add_18 : decode cX9_add 18 = .ok (.iconst 1, 1) := by decide +kernel
theorem dX9_add_19 : decode cX9_add 19 = .ok (.goto 4, 3) := by decide +kernel
theorem dX9_add_22 : decode cX9_add 22 = .ok (.iconst 0, 1) := by decide +kernel
theorem dX9_add_23 : decode cX9_add 23 = .ok (.istore_n 2, 1) := by decide +kernel
theorem dX9_add_24 : decode cX9_add 24 = .ok (.iload_n 2, 1) := by decide +kernel
theorem dX9_add_25 : decode cX9_add 25 = .ok (.ifCond .eq 13, 3) := by decide +kernel
theorem dX9_add_28 : decode cX9_add 28 = .ok (.aload_n 0, 1) := by decide +kernel
theorem dX9_add_29 : decode cX9_add 29 = .ok (.getfield 15, 3) := by decide +kernel
theorem dX9_add_32 : decode cX9_add 32 = .ok (.sipush 800, 3) := by decide +kernel
theorem dX9_add_35 : decode cX9_add 35 = .ok (.if_icmp .lt 5, 3) := by decide +kernel
theorem dX9_add_38 : decode cX9_add 38 = .ok (.iconst 0, 1) := by decide +kernel
theorem dX9_add_39 : decode cX9_add 39 = .ok (.ireturn, 1) := by decide +kernel
theorem dX9_add_40 : decode cX9_add 40 = .ok (.aload_n 0, 1) := by decide +kernel
theorem dX9_add_41 : decode cX9_add 41 = .ok (.getfield 9, 3) := by decide +kernel
theorem dX9_add_44 : decode cX9_add 44 = .ok (.aload_n 0, 1) := by decide +kernel
theorem dX9_add_45 : decode cX9_add 45 = .ok (.getfield 15, 3) := by decide +kernel
theorem dX9_add_48 : decode cX9_add 48 = .ok (.iload_n 1, 1) := by decide +kernel
theorem dX9_add_49 : decode cX9_add 49 = .ok (.i2c, 1) := by decide +kernel
theorem dX9_add_50 : decode cX9_add 50 = .ok (.castore, 1) := by decide +kernel
theorem dX9_add_51 : decode cX9_add 51 = .ok (.aload_n 0, 1) := by decide +kernel
theorem dX9_add_52 : decode cX9_add 52 = .ok (.dup, 1) := by decide +kernel
theorem dX9_add_53 : decode cX9_add 53 = .ok (.getfield 15, 3) := by decide +kernel
theorem dX9_add_56 : decode cX9_add 56 = .ok (.iconst 1, 1) := by decide +kernel
theorem dX9_add_57 : decode cX9_add 57 = .ok (.iadd, 1) := by decide +kernel
theorem dX9_add_58 : decode cX9_add 58 = .ok (.putfield 15, 3) := by decide +kernel
theorem dX9_add_61 : decode cX9_add 61 = .ok (.iconst 1, 1) := by decide +kernel
theorem dX9_add_62 : decode cX9_add 62 = .ok (.ireturn, 1) := by decide +kernel
theorem dX9_addFour_0 : decode cX9_addFour 0 = .ok (.aload_n 0, 1) := by decide +kernel
theorem dX9_addFour_1 : decode cX9_addFour 1 = .ok (.getfield 15, 3) := by decide +kernel
theorem dX9_addFour_4 : decode cX9_addFour 4 = .ok (.istore_n 2, 1) := by decide +kernel
theorem dX9_addFour_5 : decode cX9_addFour 5 = .ok (.bipush 24, 2) := by decide +kernel
theorem dX9_addFour_7 : decode cX9_addFour 7 = .ok (.istore_n 3, 1) := by decide +kernel
theorem dX9_addFour_8 : decode cX9_addFour 8 = .ok (.iload_n 3, 1) := by decide +kernel
theorem dX9_addFour_9 : decode cX9_addFour 9 = .ok (.ifCond .lt 39, 3) := by decide +kernel
theorem dX9_addFour_12 : decode cX9_addFour 12 = .ok (.iload_n 1, 1) := by decide +kernel
theorem dX9_addFour_13 : decode cX9_addFour 13 = .ok (.iload_n 3, 1) := by decide +kernel
theorem dX9_addFour_14 : decode cX9_addFour 14 = .ok (.iushr, 1) := by decide +kernel
theorem dX9_addFour_15 : decode cX9_addFour 15 = .ok (.sipush 255, 3) := by decide +kernel
theorem dX9_addFour_18 : decode cX9_addFour 18 = .ok (.iand, 1) := by decide +kernel
theorem dX9_addFour_19 : decode cX9_addFour 19 = .ok (.istore 4, 2) := by decide +kernel
theorem dX9_addFour_21 : decode cX9_addFour 21 = .ok (.iload 4, 2) := by decide +kernel
theorem dX9_addFour_23 : decode cX9_addFour 23 = .ok (.ifCond .eq 19, 3) := by decide +kernel
theorem dX9_addFour_26 : decode cX9_addFour 26 = .ok (.aload_n 0, 1) := by decide +kernel
theorem dX9_addFour_27 : decode cX9_addFour 27 = .ok (.iload 4, 2) := by decide +kernel
theorem dX9_addFour_29 : decode cX9_addFour 29 = .ok (.invokevirtual 19, 3) := by decide +kernel
theorem dX9_addFour_32 : decode cX9_addFour 32 = .ok (.ifCond .ne 10, 3) := by decide +kernel
theorem dX9_addFour_35 : decode cX9_addFour 35 = .ok (.aload_n 0, 1) := by decide +kernel
theorem dX9_addFour_36 : decode cX9_addFour 36 = .ok (.iload_n 2, 1) := by decide +kernel
theorem dX9_addFour_37 : decode cX9_addFour 37 = .ok (.putfield 15, 3) := by decide +kernel
theorem dX9_addFour_40 : decode cX9_addFour 40 = .ok (.iconst 0, 1) := by decide +kernel
theorem dX9_addFour_41 : decode cX9_addFour 41 = .ok (.ireturn, 1) := by decide +kernel
theorem dX9_addFour_42 : decode cX9_addFour 42 = .ok (.iinc 3 (-8), 3) := by decide +kernel
theorem dX9_addFour_45 : decode cX9_addFour 45 = .ok (.goto (-37), 3) := by decide +kernel
theorem dX9_addFour_48 : decode cX9_addFour 48 = .ok (.iconst 1, 1) := by decide +kernel
theorem dX9_addFour_49 : decode cX9_addFour 49 = .ok (.ireturn, 1) := by decide +kernel
theorem dX10_init_0 : decode cX10_init 0 = .ok (.aload_n 0, 1) := by decide +kernel
theorem dX10_init_1 : decode cX10_init 1 = .ok (.invokespecial 3, 3) := by decide +kernel
theorem dX10_init_4 : decode cX10_init 4 = .ok (.aload_n 0, 1) := by decide +kernel
theorem dX10_init_5 : decode cX10_init 5 = .ok (.sipush 801, 3) := by decide +kernel
theorem dX10_init_8 : decode cX10_init 8 = .ok (.newarray .int, 2) := by decide +kernel
theorem dX10_init_10 : decode cX10_init 10 = .ok (.putfield 9, 3) := by decide +kernel
theorem dX10_init_13 : decode cX10_init 13 = .ok (.aload_n 0, 1) := by decide +kernel
theorem dX10_init_14 : decode cX10_init 14 = .ok (.sipush 801, 3) := by decide +kernel
theorem dX10_init_17 : decode cX10_init 17 = .ok (.newarray .long, 2) := by decide +kernel
theorem dX10_init_19 : decode cX10_init 19 = .ok (.putfield 15, 3) := by decide +kernel
theorem dX10_init_22 : decode cX10_init 22 = .ok (.aload_n 0, 1) := by decide +kernel
theorem dX10_init_23 : decode cX10_init 23 = .ok (.iconst 0, 1) := by decide +kernel
theorem dX10_init_24 : decode cX10_init 24 = .ok (.putfield 19, 3) := by decide +kernel
theorem dX10_init_27 : decode cX10_init 27 = .ok (.aload_n 0, 1) := by decide +kernel
theorem dX10_init_28 : decode cX10_init 28 = .ok (.iconst 0, 1) := by decide +kernel
theorem dX10_init_29 : decode cX10_init 29 = .ok (.putfield 23, 3) := by decide +kernel
theorem dX10_init_32 : decode cX10_init 32 = .ok (.return_, 1) := by decide +kernel
theorem dX10_split_0 : decode cX10_split 0 = .ok (.aload_n 0, 1) := by decide +kernel
theorem dX10_split_1 : decode cX10_split 1 = .ok (.iconst 0, 1) := by decide +kernel
theorem dX10_split_2 : decode cX10_split 2 = .ok (.putfield 19, 3) := by decide +kernel
theorem dX10_split_5 : decode cX10_split 5 = .ok (.iconst 4, 1) := by decide +kernel
theorem dX10_split_6 : decode cX10_split 6 = .ok (.istore_n 2, 1) := by decide +kernel
theorem dX10_split_7 : decode cX10_split 7 = .ok (.iconst 0, 1) := by decide +kernel
theorem dX10_split_8 : decode cX10_split 8 = .ok (.istore_n 3, 1) := by decide +kernel
theorem dX10_split_9 : decode cX10_split 9 = .ok (.iload_n 3, 1) := by decide +kernel
theorem dX10_split_10 : decode cX10_split 10 = .ok (.aload_n 1, 1) := by decide +kernel
theorem dX10_split_11 : decode cX10_split 11 = .ok (.getfield 26, 3) := by decide +kernel
theorem dX10_split_14 : decode cX10_split 14 = .ok (.if_icmp .ge 58, 3) := by decide +kernel
theorem dX10_split_17 : decode cX10_split 17 = .ok (.aload_n 1, 1) := by decide +kernel
theorem dX10_split_18 : decode cX10_split 18 = .ok (.getfield 29, 3) := by decide +kernel
theorem dX10_split_21 : decode cX10_split 21 = .ok (.iload_n 3, 1) := by decide +kernel
theorem dX10_split_22 : decode cX10_split 22 = .ok (.caload, 1) := by decide +kernel
theorem dX10_split_23 : decode cX10_split 23 = .ok (.istore 4, 2) := by decide +kernel
theorem dX10_split_25 : decode cX10_split 25 = .ok (.iload 4, 2) := by decide +kernel
theorem dX10_split_27 : decode cX10_split 27 = .ok (.invokestatic 33, 3) := by decide +kernel
theorem dX10_split_30 : decode cX10_split 30 = .ok (.istore 5, 2) := by decide +kernel
theorem dX10_split_32 : decode cX10_split 32 = .ok (.iload 5, 2) := by decide +kernel
theorem dX10_split_34 : decode cX10_split 34 = .ok (.iconst 3, 1) := by decide +kernel
theorem dX10_split_35 : decode cX10_split 35 = .ok (.if_icmp .eq 9, 3) := by decide +kernel
theorem dX10_split_38 : decode cX10_split 38 = .ok (.iload 5, 2) := by decide +kernel
theorem dX10_split_40 : decode cX10_split 40 = .ok (.iload_n 2, 1) := by decide +kernel
theorem dX10_split_41 : decode cX10_split 41 = .ok (.if_icmp .eq 8, 3) := by decide +kernel
theorem dX10_split_44 : decode cX10_split 44 = .ok (.aload_n 0, 1) := by decide +kernel
theorem dX10_split_45 : decode cX10_split 45 = .ok (.iconst 0, 1) := by decide +kernel
theorem dX10_split_46 : decode cX10_split 46 = .ok (.putfield 23, 3) := by decide +kernel
theorem dX10_split_49 : decode cX10_split 49 = .ok (.iload 5, 2) := by decide +kernel
theorem dX10_split_51 : decode cX10_split 51 = .ok (.iconst 4, 1) := by decide +kernel
theorem dX10_split_52 : decode cX10_split 52 = .ok (.if_icmp .eq 11, 3) := by decide +kernel
theorem dX10_split_55 : decode cX10_split 55 = .ok (.aload_n 0, 1) := by decide +kernel
theorem dX10_split_56 : decode cX10_split 56 = .ok (.iload 5, 2) := by decide +kernel
theorem dX10_split_58 : decode cX10_split 58 = .ok (.iload 4, 2) := by decide +kernel
theorem dX10_split_60 : decode cX10_split 60 = .ok (.invokevirtual 37, 3) := by decide +kernel
theorem dX10_split_63 : decode cX10_split 63 = .ok (.iload 5, 2) := by decide +kernel
theorem dX10_split_65 : decode cX10_split 65 = .ok (.istore_n 2, 1) := by decide +kernel
theorem dX10_split_66 : decode cX10_split 66 = .ok (.iinc 3 1, 3) := by decide +kernel
theorem dX10_split_69 : decode cX10_split 69 = .ok (.goto (-60), 3) := by decide +kernel
theorem dX10_split_72 : decode cX10_split 72 = .ok (.aload_n 0, 1) := by decide +kernel
theorem dX10_split_73 : decode cX10_split 73 = .ok (.getfield 9, 3) := by decide +kernel
theorem dX10_split_76 : decode cX10_split 76 = .ok (.aload_n 0, 1) := by decide +kernel
theorem dX10_split_77 : decode cX10_split 77 = .ok (.getfield 19, 3) := by decide +kernel
theorem dX10_split_80 : decode cX10_split 80 = .ok (.iconst 0, 1) := by decide +kernel
theorem dX10_split_81 : decode cX10_split 81 = .ok (.iastore, 1) := by decide +kernel
theorem dX10_split_82 : decode cX10_split 82 = .ok (.return_, 1) := by decide +kernel
theorem dX10_addCharacter_0 : decode cX10_addCharacter 0 = .ok (.aload_n 0, 1) := by decide +kernel
theorem dX10_addCharacter_1 : decode cX10_addCharacter 1 = .ok (.getfield 23, 3) := by decide +kernel
theorem dX10_addCharacter_4 : decode cX10_addCharacter 4 = .ok (.ifCond .ne 33, 3) := by decide +kernel
theorem dX10_addCharacter_7 : decode cX10_addCharacter 7 = .ok (.aload_n 0, 1) := by decide +kernel
theorem dX10_addCharacter_8 : decode cX10_addCharacter 8 = .ok (.getfield 9, 3) := by decide +kernel
theorem dX10_addCharacter_11 : decode cX10_addCharacter 11 = .ok (.aload_n 0, 1) := by decide +kernel
theorem dX10_addCharacter_12 : decode cX10_addCharacter 12 = .ok (.getfield 19, 3) := by decide +kernel
theorem dX10_addCharacter_15 : decode cX10_addCharacter 15 = .ok (.iload_n 1, 1) := by decide +kernel
theorem dX10_addCharacter_16 : decode cX10_addCharacter 16 = .ok (.iastore, 1) := by decide +kernel
theorem dX10_addCharacter_17 : decode cX10_addCharacter 17 = .ok (.aload_n 0, 1) := by decide +kernel
theorem dX10_addCharacter_18 : decode cX10_addCharacter 18 = .ok (.getfield 15, 3) := by decide +kernel
theorem dX10_addCharacter_21 : decode cX10_addCharacter 21 = .ok (.aload_n 0, 1) := by decide +kernel
theorem dX10_addCharacter_22 : decode cX10_addCharacter 22 = .ok (.getfield 19, 3) := by decide +kernel
theorem dX10_addCharacter_25 : decode cX10_addCharacter 25 = .ok (.lconst 0, 1) := by decide +kernel
theorem dX10_addCharacter_26 : decode cX10_addCharacter 26 = .ok (.lastore, 1) := by decide +kernel
theorem dX10_addCharacter_27 : decode cX10_addCharacter 27 = .ok (.aload_n 0, 1) := by decide +kernel
theorem dX10_addCharacter_28 : decode cX10_addCharacter 28 = .ok (.dup, 1) := by decide +kernel
theorem dX10_addCharacter_29 : decode cX10_addCharacter 29 = .ok (.getfield 19, 3) := by decide +kernel
theorem dX10_addCharacter_32 : decode cX10_addCharacter 32 = .ok (.iconst 1, 1) := by decide +kernel
theorem dX10_addCharacter_33 : decode cX10_addCharacter 33 = .ok (.iadd, 1) := by decide +kernel
theorem dX10_addCharacter_34 : decode cX10_addCharacter 34 = .ok (.putfield 19, 3) := by decide +kernel
theorem dX10_addCharacter_37 : decode cX10_addCharacter 37 = .ok (.aload_n 0, 1) := by decide +kernel
theorem dX10_addCharacter_38 : decode cX10_addCharacter 38 = .ok (.getfield 19, 3) := by decide +kernel
theorem dX10_addCharacter_41 : decode cX10_addCharacter 41 = .ok (.iconst 1, 1) := by decide +kernel
theorem dX10_addCharacter_42 : decode cX10_addCharacter 42 = .ok (.isub, 1) := by decide +kernel
theorem dX10_addCharacter_43 : decode cX10_addCharacter 43 = .ok (.istore_n 3, 1) := by decide +kernel
theorem dX10_addCharacter_44 : decode cX10_addCharacter 44 = .ok (.aload_n 0, 1) := by decide +kernel
theorem dX10_addCharacter_45 : decode cX10_addCharacter 45 = .ok (.dup, 1) := by decide +kernel
theorem dX10_addCharacter_46 : decode cX10_addCharacter 46 = .ok (.getfield 23, 3) := by decide +kernel
theorem dX10_addCharacter_49 : decode cX10_addCharacter 49 = .ok (.iconst 1, 1) := by decide +kernel
theorem dX10_addCharacter_50 : decode cX10_addCharacter 50 = .ok (.iadd, 1) := by decide +kernel
theorem dX10_addCharacter_51 : decode cX10_addCharacter 51 = .ok (.putfield 23, 3) := by decide +kernel
theorem dX10_addCharacter_54 : decode cX10_addCharacter 54 = .ok (.iload_n 1, 1) := by decide +kernel
theorem dX10_addCharacter_55 : decode cX10_addCharacter 55 = .ok (.iconst 1, 1) := by decide +kernel
theorem dX10_addCharacter_56 : decode cX10_addCharacter 56 = .ok (.if_icmp .ne 22, 3) := by decide +kernel
theorem dX10_addCharacter_59 : decode cX10_addCharacter 59 = .ok (.aload_n 0, 1) := by decide +kernel
theorem dX10_addCharacter_60 : decode cX10_addCharacter 60 = .ok (.getfield 15, 3) := by decide +kernel
theorem dX10_addCharacter_63 : decode cX10_addCharacter 63 = .ok (.iload_n 3, 1) := by decide +kernel
theorem dX10_addCharacter_64 : decode cX10_addCharacter 64 = .ok (.aload_n 0, 1) := by decide +kernel
theorem dX10_addCharacter_65 : decode cX10_addCharacter 65 = .ok (.getfield 15, 3) := by decide +kernel
theorem dX10_addCharacter_68 : decode cX10_addCharacter 68 = .ok (.iload_n 3, 1) := by decide +kernel
theorem dX10_addCharacter_69 : decode cX10_addCharacter 69 = .ok (.laload, 1) := by decide +kernel
theorem dX10_addCharacter_70 : decode cX10_addCharacter 70 = .ok (.iload_n 2, 1) := by decide +kernel
theorem dX10_addCharacter_71 : decode cX10_addCharacter 71 = .ok (.invokestatic 41, 3) := by decide +kernel
theorem dX10_addCharacter_74 : decode cX10_addCharacter 74 = .ok (.lastore, 1) := by decide +kernel
theorem dX10_addCharacter_75 : decode cX10_addCharacter 75 = .ok (.goto 35, 3) := by decide +kernel
theorem dX10_addCharacter_78 : decode cX10_addCharacter 78 = .ok (.aload_n 0, 1) := by decide +kernel
theorem dX10_addCharacter_79 : decode cX10_addCharacter 79 = .ok (.getfield 15, 3) := by decide +kernel
theorem dX10_addCharacter_82 : decode cX10_addCharacter 82 = .ok (.iload_n 3, 1) := by decide +kernel
theorem dX10_addCharacter_83 : decode cX10_addCharacter 83 = .ok (.iload_n 1, 1) := by decide +kernel
theorem dX10_addCharacter_84 : decode cX10_addCharacter 84 = .ok (.iconst 2, 1) := by decide +kernel
theorem dX10_addCharacter_85 : decode cX10_addCharacter 85 = .ok (.if_icmp .ne 22, 3) := by decide +kernel
theorem dX10_addCharacter_88 : decode cX10_addCharacter 88 = .ok (.aload_n 0, 1) := by decide +kernel
theorem dX10_addCharacter_89 : decode cX10_addCharacter 89 = .ok (.getfield 15, 3) := by decide +kernel
theorem dX10_addCharacter_92 : decode cX10_addCharacter 92 = .ok (.iload_n 3, 1) := by decide +kernel
theorem dX10_addCharacter_93 : decode cX10_addCharacter 93 = .ok (.laload, 1) := by decide +kernel
theorem dX10_addCharacter_94 : decode cX10_addCharacter 94 = .ok (.ldc2_w 45, 3) := by decide +kernel
theorem dX10_addCharacter_97 : decode cX10_addCharacter 97 = .ok (.lmul, 1) := by decide +kernel
theorem dX10_addCharacter_98 : decode cX10_addCharacter 98 = .ok (.iload_n 2, 1) := by decide +kernel
theorem dX10_addCharacter_99 : decode cX10_addCharacter 99 = .ok (.bipush 48, 2) := by decide +kernel
theorem dX10_addCharacter_101 : decode cX10_addCharacter 101 = .ok (.isub, 1) := by decide +kernel
theorem dX10_addCharacter_102 : decode cX10_addCharacter 102 = .ok (.i2l, 1) := by decide +kernel
theorem dX10_addCharacter_103 : decode cX10_addCharacter 103 = .ok (.ladd, 1) := by decide +kernel
theorem dX10_addCharacter_104 : decode cX10_addCharacter 104 = .ok (.goto 5, 3) := by decide +kernel
theorem dX10_addCharacter_107 : decode cX10_addCharacter 107 = .ok (.iload_n 2, 1) := by decide +kernel
theorem dX10_addCharacter_108 : decode cX10_addCharacter 108 = .ok (.i2l, 1) := by decide +kernel
theorem dX10_addCharacter_109 : decode cX10_addCharacter 109 = .ok (.lastore, 1) := by decide +kernel
theorem dX10_addCharacter_110 : decode cX10_addCharacter 110 = .ok (.iload_n 1, 1) := by decide +kernel
theorem dX10_addCharacter_111 : decode cX10_addCharacter 111 = .ok (.iconst 1, 1) := by decide +kernel
theorem dX10_addCharacter_112 : decode cX10_addCharacter 112 = .ok (.if_icmp .ne 12, 3) := by decide +kernel
theorem dX10_addCharacter_115 : decode cX10_addCharacter 115 = .ok (.aload_n 0, 1) := by decide +kernel
theorem dX10_addCharacter_116 : decode cX10_addCharacter 116 = .ok (.getfield 23, 3) := by decide +kernel
theorem dX10_addCharacter_119 : decode cX10_addCharacter 119 = .ok (.bipush 8, 2) := by decide +kernel
theorem dX10_addCharacter_121 : decode cX10_addCharacter 121 = .ok (.if_icmp .gt 17, 3) := by decide +kernel
theorem dX10_addCharacter_124 : decode cX10_addCharacter 124 = .ok (.iload_n 1, 1) := by decide +kernel
theorem dX10_addCharacter_125 : decode cX10_addCharacter 125 = .ok (.iconst 2, 1) := by decide +kernel
theorem dX10_addCharacter_126 : decode cX10_addCharacter 126 = .ok (.if_icmp .ne 19, 3) := by decide +kernel
theorem dX10_addCharacter_129 : decode cX10_addCharacter 129 = .ok (.aload_n 0, 1) := by decide +kernel
theorem dX10_addCharacter_130 : decode cX10_addCharacter 130 = .ok (.getfield 23, 3) := by decide +kernel
theorem dX10_addCharacter_133 : decode cX10_addCharacter 133 = .ok (.bipush 6, 2) := by decide +kernel
theorem dX10_addCharacter_135 : decode cX10_addCharacter 135 = .ok (.if_icmp .le 10, 3) := by decide +kernel
theorem dX10_addCharacter_138 : decode cX10_addCharacter 138 = .ok (.aload_n 0, 1) := by decide +kernel
theorem dX10_addCharacter_139 : decode cX10_addCharacter 139 = .ok (.getfield 9, 3) := by decide +kernel
theorem dX10_addCharacter_142 : decode cX10_addCharacter 142 = .ok (.iload_n 3, 1) := by decide +kernel
theorem dX10_addCharacter_143 : decode cX10_addCharacter 143 = .ok (.iconst 5, 1) := by decide +kernel
theorem dX10_addCharacter_144 : decode cX10_addCharacter 144 = .ok (.iastore, 1) := by decide +kernel
theorem dX10_addCharacter_145 : decode cX10_addCharacter 145 = .ok (.return_, 1) := by decide +kernel
theorem dX10_sortOf_0 : decode cX10_sortOf 0 = .ok (.iload_n 0, 1) := by decide +kernel
theorem dX10_sortOf_1 : decode cX10_sortOf 1 = .ok (.bipush 97, 2) := by decide +kernel
theorem dX10_sortOf_3 : decode cX10_sortOf 3 = .ok (.if_icmp .lt 11, 3) := by decide +kernel
theorem dX10_sortOf_6 : decode cX10_sortOf 6 = .ok (.iload_n 0, 1) := by decide +kernel
theorem dX10_sortOf_7 : decode cX10_sortOf 7 = .ok (.bipush 122, 2) := by decide +kernel
theorem dX10_sortOf_9 : decode cX10_sortOf 9 = .ok (.if_icmp .gt 5, 3) := by decide +kernel
theorem dX10_sortOf_12 : decode cX10_sortOf 12 = .ok (.iconst 1, 1) := by decide +kernel
theorem dX10_sortOf_13 : decode cX10_sortOf 13 = .ok (.ireturn, 1) := by decide +kernel
theorem dX10_sortOf_14 : decode cX10_sortOf 14 = .ok (.iload_n 0, 1) := by decide +kernel
theorem dX10_sortOf_15 : decode cX10_sortOf 15 = .ok (.bipush 48, 2) := by decide +kernel
theorem dX10_sortOf_17 : decode cX10_sortOf 17 = .ok (.if_icmp .lt 11, 3) := by decide +kernel
theorem dX10_sortOf_20 : decode cX10_sortOf 20 = .ok (.iload_n 0, 1) := by decide +kernel
theorem dX10_sortOf_21 : decode cX10_sortOf 21 = .ok (.bipush 57, 2) := by decide +kernel
theorem dX10_sortOf_23 : decode cX10_sortOf 23 = .ok (.if_icmp .gt 5, 3) := by decide +kernel
theorem dX10_sortOf_26 : decode cX10_sortOf 26 = .ok (.iconst 2, 1) := by decide +kernel
theorem dX10_sortOf_27 : decode cX10_sortOf 27 = .ok (.ireturn, 1) := by decide +kernel
theorem dX10_sortOf_28 : decode cX10_sortOf 28 = .ok (.iload_n 0, 1) := by decide +kernel
theorem dX10_sortOf_29 : decode cX10_sortOf 29 = .ok (.bipush 32, 2) := by decide +kernel
theorem dX10_sortOf_31 : decode cX10_sortOf 31 = .ok (.if_icmp .eq 9, 3) := by decide +kernel
theorem dX10_sortOf_34 : decode cX10_sortOf 34 = .ok (.iload_n 0, 1) := by decide +kernel
theorem dX10_sortOf_35 : decode cX10_sortOf 35 = .ok (.bipush 10, 2) := by decide +kernel
theorem dX10_sortOf_37 : decode cX10_sortOf 37 = .ok (.if_icmp .ne 7, 3) := by decide +kernel
theorem dX10_sortOf_40 : decode cX10_sortOf 40 = .ok (.iconst 4, 1) := by decide +kernel
theorem dX10_sortOf_41 : decode cX10_sortOf 41 = .ok (.goto 4, 3) := by decide +kernel
theorem dX10_sortOf_44 : decode cX10_sortOf 44 = .ok (.iconst 3, 1) := by decide +kernel
theorem dX10_sortOf_45 : decode cX10_sortOf 45 = .ok (.ireturn, 1) := by decide +kernel
theorem dX10_codeOf_0 : decode cX10_codeOf 0 = .ok (.lconst 0, 1) := by decide +kernel
theorem dX10_codeOf_1 : decode cX10_codeOf 1 = .ok (.lstore_n 1, 1) := by decide +kernel
theorem dX10_codeOf_2 : decode cX10_codeOf 2 = .ok (.iconst 0, 1) := by decide +kernel
theorem dX10_codeOf_3 : decode cX10_codeOf 3 = .ok (.istore_n 3, 1) := by decide +kernel
theorem dX10_codeOf_4 : decode cX10_codeOf 4 = .ok (.iload_n 3, 1) := by decide +kernel
theorem dX10_codeOf_5 : decode cX10_codeOf 5 = .ok (.aload_n 0, 1) := by decide +kernel
theorem dX10_codeOf_6 : decode cX10_codeOf 6 = .ok (.invokevirtual 47, 3) := by decide +kernel
theorem dX10_codeOf_9 : decode cX10_codeOf 9 = .ok (.if_icmp .ge 19, 3) := by decide +kernel
theorem dX10_codeOf_12 : decode cX10_codeOf 12 = .ok (.lload_n 1, 1) := by decide +kernel
theorem dX10_codeOf_13 : decode cX10_codeOf 13 = .ok (.aload_n 0, 1) := by decide +kernel
theorem dX10_codeOf_14 : decode cX10_codeOf 14 = .ok (.iload_n 3, 1) := by decide +kernel
theorem dX10_codeOf_15 : decode cX10_codeOf 15 = .ok (.invokevirtual 52, 3) := by decide +kernel
theorem dX10_codeOf_18 : decode cX10_codeOf 18 = .ok (.invokestatic 41, 3) := by decide +kernel
theorem dX10_codeOf_21 : decode cX10_codeOf 21 = .ok (.lstore_n 1, 1) := by decide +kernel
theorem dX10_codeOf_22 : decode cX10_codeOf 22 = .ok (.iinc 3 1, 3) := by decide +kernel
theorem dX10_codeOf_25 : decode cX10_codeOf 25 = .ok (.goto (-21), 3) := by decide +kernel
theorem dX10_codeOf_28 : decode cX10_codeOf 28 = .ok (.lload_n 1, 1) := by decide +kernel
theorem dX10_codeOf_29 : decode cX10_codeOf 29 = .ok (.lreturn, 1) := by decide +kernel
theorem dX10_withLetter_0 : decode cX10_withLetter 0 = .ok (.lload_n 0, 1) := by decide +kernel
theorem dX10_withLetter_1 : decode cX10_withLetter 1 = .ok (.iconst 5, 1) := by decide +kernel
theorem dX10_withLetter_2 : decode cX10_withLetter 2 = .ok (.lshl, 1) := by decide +kernel
theorem dX10_withLetter_3 : decode cX10_withLetter 3 = .ok (.iload_n 2, 1) := by decide +kernel
theorem dX10_withLetter_4 : decode cX10_withLetter 4 = .ok (.bipush 97, 2) := by decide +kernel
theorem dX10_withLetter_6 : decode cX10_withLetter 6 = .ok (.isub, 1) := by decide +kernel
theorem dX10_withLetter_7 : decode cX10_withLetter 7 = .ok (.iconst 1, 1) := by decide +kernel
theorem dX10_withLetter_8 : decode cX10_withLetter 8 = .ok (.iadd, 1) := by decide +kernel
theorem dX10_withLetter_9 : decode cX10_withLetter 9 = .ok (.i2l, 1) := by decide +kernel
theorem dX10_withLetter_10 : decode cX10_withLetter 10 = .ok (.ladd, 1) := by decide +kernel
theorem dX10_withLetter_11 : decode cX10_withLetter 11 = .ok (.lreturn, 1) := by decide +kernel
