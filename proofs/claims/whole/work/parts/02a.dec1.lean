theorem dX0_wordOf_0 : decode cX0_wordOf 0 = .ok (.iload_n 0, 1) := by decide +kernel
theorem dX0_wordOf_1 : decode cX0_wordOf 1 = .ok (.tableswitch 64 0 6 #[43, 46, 49, 52, 55, 58, 61], 43) := by decide +kernel
theorem dX0_wordOf_44 : decode cX0_wordOf 44 = .ok (.ldc 9, 2) := by decide +kernel
theorem dX0_wordOf_46 : decode cX0_wordOf 46 = .ok (.areturn, 1) := by decide +kernel
theorem dX0_wordOf_47 : decode cX0_wordOf 47 = .ok (.ldc 11, 2) := by decide +kernel
theorem dX0_wordOf_49 : decode cX0_wordOf 49 = .ok (.areturn, 1) := by decide +kernel
theorem dX0_wordOf_50 : decode cX0_wordOf 50 = .ok (.ldc 13, 2) := by decide +kernel
theorem dX0_wordOf_52 : decode cX0_wordOf 52 = .ok (.areturn, 1) := by decide +kernel
theorem dX0_wordOf_53 : decode cX0_wordOf 53 = .ok (.ldc 15, 2) := by decide +kernel
theorem dX0_wordOf_55 : decode cX0_wordOf 55 = .ok (.areturn, 1) := by decide +kernel
theorem dX0_wordOf_56 : decode cX0_wordOf 56 = .ok (.ldc 17, 2) := by decide +kernel
theorem dX0_wordOf_58 : decode cX0_wordOf 58 = .ok (.areturn, 1) := by decide +kernel
theorem dX0_wordOf_59 : decode cX0_wordOf 59 = .ok (.ldc 19, 2) := by decide +kernel
theorem dX0_wordOf_61 : decode cX0_wordOf 61 = .ok (.areturn, 1) := by decide +kernel
theorem dX0_wordOf_62 : decode cX0_wordOf 62 = .ok (.ldc 21, 2) := by decide +kernel
theorem dX0_wordOf_64 : decode cX0_wordOf 64 = .ok (.areturn, 1) := by decide +kernel
theorem dX0_wordOf_65 : decode cX0_wordOf 65 = .ok (.ldc 23, 2) := by decide +kernel
theorem dX0_wordOf_67 : decode cX0_wordOf 67 = .ok (.areturn, 1) := by decide +kernel
theorem dX0_mostOf_0 : decode cX0_mostOf 0 = .ok (.iload_n 0, 1) := by decide +kernel
theorem dX0_mostOf_1 : decode cX0_mostOf 1 = .ok (.tableswitch 37 1 4 #[31, 31, 37, 35], 31) := by decide +kernel
theorem dX0_mostOf_32 : decode cX0_mostOf 32 = .ok (.sipush 999, 3) := by decide +kernel
theorem dX0_mostOf_35 : decode cX0_mostOf 35 = .ok (.ireturn, 1) := by decide +kernel
theorem dX0_mostOf_36 : decode cX0_mostOf 36 = .ok (.iconst 3, 1) := by decide +kernel
theorem dX0_mostOf_37 : decode cX0_mostOf 37 = .ok (.ireturn, 1) := by decide +kernel
theorem dX0_mostOf_38 : decode cX0_mostOf 38 = .ok (.bipush 99, 2) := by decide +kernel
theorem dX0_mostOf_40 : decode cX0_mostOf 40 = .ok (.ireturn, 1) := by decide +kernel
theorem dX0_kindHere_0 : decode cX0_kindHere 0 = .ok (.iconst 0, 1) := by decide +kernel
theorem dX0_kindHere_1 : decode cX0_kindHere 1 = .ok (.istore_n 1, 1) := by decide +kernel
theorem dX0_kindHere_2 : decode cX0_kindHere 2 = .ok (.iload_n 1, 1) := by decide +kernel
theorem dX0_kindHere_3 : decode cX0_kindHere 3 = .ok (.bipush 7, 2) := by decide +kernel
theorem dX0_kindHere_5 : decode cX0_kindHere 5 = .ok (.if_icmp .ge 22, 3) := by decide +kernel
theorem dX0_kindHere_8 : decode cX0_kindHere 8 = .ok (.aload_n 0, 1) := by decide +kernel
theorem dX0_kindHere_9 : decode cX0_kindHere 9 = .ok (.iload_n 1, 1) := by decide +kernel
theorem dX0_kindHere_10 : decode cX0_kindHere 10 = .ok (.invokestatic 27, 3) := by decide +kernel
theorem dX0_kindHere_13 : decode cX0_kindHere 13 = .ok (.invokevirtual 31, 3) := by decide +kernel
theorem dX0_kindHere_16 : decode cX0_kindHere 16 = .ok (.ifCond .eq 5, 3) := by decide +kernel
theorem dX0_kindHere_19 : decode cX0_kindHere 19 = .ok (.iload_n 1, 1) := by decide +kernel
theorem dX0_kindHere_20 : decode cX0_kindHere 20 = .ok (.ireturn, 1) := by decide +kernel
theorem dX0_kindHere_21 : decode cX0_kindHere 21 = .ok (.iinc 1 1, 3) := by decide +kernel
theorem dX0_kindHere_24 : decode cX0_kindHere 24 = .ok (.goto (-22), 3) := by decide +kernel
theorem dX0_kindHere_27 : decode cX0_kindHere 27 = .ok (.iconst (-1), 1) := by decide +kernel
theorem dX0_kindHere_28 : decode cX0_kindHere 28 = .ok (.ireturn, 1) := by decide +kernel
theorem dX1_init_0 : decode cX1_init 0 = .ok (.aload_n 0, 1) := by decide +kernel
theorem dX1_init_1 : decode cX1_init 1 = .ok (.invokespecial 3, 3) := by decide +kernel
theorem dX1_init_4 : decode cX1_init 4 = .ok (.aload_n 0, 1) := by decide +kernel
theorem dX1_init_5 : decode cX1_init 5 = .ok (.iconst 0, 1) := by decide +kernel
theorem dX1_init_6 : decode cX1_init 6 = .ok (.putfield 9, 3) := by decide +kernel
theorem dX1_init_9 : decode cX1_init 9 = .ok (.aload_n 0, 1) := by decide +kernel
theorem dX1_init_10 : decode cX1_init 10 = .ok (.iconst 0, 1) := by decide +kernel
theorem dX1_init_11 : decode cX1_init 11 = .ok (.putfield 15, 3) := by decide +kernel
theorem dX1_init_14 : decode cX1_init 14 = .ok (.aload_n 0, 1) := by decide +kernel
theorem dX1_init_15 : decode cX1_init 15 = .ok (.iconst 0, 1) := by decide +kernel
theorem dX1_init_16 : decode cX1_init 16 = .ok (.putfield 18, 3) := by decide +kernel
theorem dX1_init_19 : decode cX1_init 19 = .ok (.aload_n 0, 1) := by decide +kernel
theorem dX1_init_20 : decode cX1_init 20 = .ok (.iconst 0, 1) := by decide +kernel
theorem dX1_init_21 : decode cX1_init 21 = .ok (.putfield 21, 3) := by decide +kernel
theorem dX1_init_24 : decode cX1_init 24 = .ok (.aload_n 0, 1) := by decide +kernel
theorem dX1_init_25 : decode cX1_init 25 = .ok (.iconst 0, 1) := by decide +kernel
theorem dX1_init_26 : decode cX1_init 26 = .ok (.putfield 24, 3) := by decide +kernel
theorem dX1_init_29 : decode cX1_init 29 = .ok (.aload_n 0, 1) := by decide +kernel
theorem dX1_init_30 : decode cX1_init 30 = .ok (.iconst 0, 1) := by decide +kernel
theorem dX1_init_31 : decode cX1_init 31 = .ok (.putfield 27, 3) := by decide +kernel
theorem dX1_init_34 : decode cX1_init 34 = .ok (.return_, 1) := by decide +kernel
theorem dX1_become_0 : decode cX1_become 0 = .ok (.aload_n 0, 1) := by decide +kernel
theorem dX1_become_1 : decode cX1_become 1 = .ok (.iload_n 1, 1) := by decide +kernel
theorem dX1_become_2 : decode cX1_become 2 = .ok (.putfield 9, 3) := by decide +kernel
theorem dX1_become_5 : decode cX1_become 5 = .ok (.aload_n 0, 1) := by decide +kernel
theorem dX1_become_6 : decode cX1_become 6 = .ok (.iconst 0, 1) := by decide +kernel
theorem dX1_become_7 : decode cX1_become 7 = .ok (.putfield 15, 3) := by decide +kernel
theorem dX1_become_10 : decode cX1_become 10 = .ok (.aload_n 0, 1) := by decide +kernel
theorem dX1_become_11 : decode cX1_become 11 = .ok (.iconst 0, 1) := by decide +kernel
theorem dX1_become_12 : decode cX1_become 12 = .ok (.putfield 18, 3) := by decide +kernel
theorem dX1_become_15 : decode cX1_become 15 = .ok (.aload_n 0, 1) := by decide +kernel
theorem dX1_become_16 : decode cX1_become 16 = .ok (.iconst 0, 1) := by decide +kernel
theorem dX1_become_17 : decode cX1_become 17 = .ok (.putfield 21, 3) := by decide +kernel
theorem dX1_become_20 : decode cX1_become 20 = .ok (.aload_n 0, 1) := by decide +kernel
theorem dX1_become_21 : decode cX1_become 21 = .ok (.iconst 0, 1) := by decide +kernel
theorem dX1_become_22 : decode cX1_become 22 = .ok (.putfield 24, 3) := by decide +kernel
theorem dX1_become_25 : decode cX1_become 25 = .ok (.aload_n 0, 1) := by decide +kernel
theorem dX1_become_26 : decode cX1_become 26 = .ok (.iconst 0, 1) := by decide +kernel
theorem dX1_become_27 : decode cX1_become 27 = .ok (.putfield 27, 3) := by decide +kernel
theorem dX1_become_30 : decode cX1_become 30 = .ok (.return_, 1) := by decide +kernel
theorem dX1_wordOf_0 : decode cX1_wordOf 0 = .ok (.iload_n 0, 1) := by decide +kernel
theorem dX1_wordOf_1 : decode cX1_wordOf 1 = .ok (.tableswitch 78 0 8 #[51, 54, 57, 60, 63, 66, 69, 72, 75], 51) := by decide +kernel
theorem dX1_wordOf_52 : decode cX1_wordOf 52 = .ok (.ldc 30, 2) := by decide +kernel
theorem dX1_wordOf_54 : decode cX1_wordOf 54 = .ok (.areturn, 1) := by decide +kernel
theorem dX1_wordOf_55 : decode cX1_wordOf 55 = .ok (.ldc 32, 2) := by decide +kernel
theorem dX1_wordOf_57 : decode cX1_wordOf 57 = .ok (.areturn, 1) := by decide +kernel
theorem dX1_wordOf_58 : decode cX1_wordOf 58 = .ok (.ldc 34, 2) := by decide +kernel
theorem dX1_wordOf_60 : decode cX1_wordOf 60 = .ok (.areturn, 1) := by decide +kernel
theorem dX1_wordOf_61 : decode cX1_wordOf 61 = .ok (.ldc 36, 2) := by decide +kernel
theorem dX1_wordOf_63 : decode cX1_wordOf 63 = .ok (.areturn, 1) := by decide +kernel
theorem dX1_wordOf_64 : decode cX1_wordOf 64 = .ok (.ldc 38, 2) := by decide +kernel
theorem dX1_wordOf_66 : decode cX1_wordOf 66 = .ok (.areturn, 1) := by decide +kernel
theorem dX1_wordOf_67 : decode cX1_wordOf 67 = .ok (.ldc 40, 2) := by decide +kernel
theorem dX1_wordOf_69 : decode cX1_wordOf 69 = .ok (.areturn, 1) := by decide +kernel
theorem dX1_wordOf_70 : decode cX1_wordOf 70 = .ok (.ldc 42, 2) := by decide +kernel
theorem dX1_wordOf_72 : decode cX1_wordOf 72 = .ok (.areturn, 1) := by decide +kernel
theorem dX1_wordOf_73 : decode cX1_wordOf 73 = .ok (.ldc 44, 2) := by decide +kernel
theorem dX1_wordOf_75 : decode cX1_wordOf 75 = .ok (.areturn, 1) := by decide +kernel
theorem dX1_wordOf_76 : decode cX1_wordOf 76 = .ok (.ldc 46, 2) := by decide +kernel
theorem dX1_wordOf_78 : decode cX1_wordOf 78 = .ok (.areturn, 1) := by decide +kernel
theorem dX1_wordOf_79 : decode cX1_wordOf 79 = .ok (.ldc 48, 2) := by decide +kernel
theorem dX1_wordOf_81 : decode cX1_wordOf 81 = .ok (.areturn, 1) := by decide +kernel
theorem dX1_faultOn_0 : decode cX1_faultOn 0 = .ok (.aload_n 1, 1) := by decide +kernel
theorem dX1_faultOn_1 : decode cX1_faultOn 1 = .ok (.aload_n 0, 1) := by decide +kernel
theorem dX1_faultOn_2 : decode cX1_faultOn 2 = .ok (.getfield 15, 3) := by decide +kernel
theorem dX1_faultOn_5 : decode cX1_faultOn 5 = .ok (.invokevirtual 50, 3) := by decide +kernel
theorem dX1_faultOn_8 : decode cX1_faultOn 8 = .ok (.astore_n 2, 1) := by decide +kernel
theorem dX1_faultOn_9 : decode cX1_faultOn 9 = .ok (.aload_n 0, 1) := by decide +kernel
theorem dX1_faultOn_10 : decode cX1_faultOn 10 = .ok (.getfield 9, 3) := by decide +kernel
theorem dX1_faultOn_13 : decode cX1_faultOn 13 = .ok (.tableswitch 126 0 7 #[47, 56, 56, 65, 82, 91, 100, 109], 47) := by decide +kernel
theorem dX1_faultOn_60 : decode cX1_faultOn 60 = .ok (.aload_n 1, 1) := by decide +kernel
theorem dX1_faultOn_61 : decode cX1_faultOn 61 = .ok (.aload_n 0, 1) := by decide +kernel
theorem dX1_faultOn_62 : decode cX1_faultOn 62 = .ok (.getfield 18, 3) := by decide +kernel
theorem dX1_faultOn_65 : decode cX1_faultOn 65 = .ok (.invokevirtual 56, 3) := by decide +kernel
theorem dX1_faultOn_68 : decode cX1_faultOn 68 = .ok (.ireturn, 1) := by decide +kernel
theorem dX1_faultOn_69 : decode cX1_faultOn 69 = .ok (.aload_n 2, 1) := by decide +kernel
theorem dX1_faultOn_70 : decode cX1_faultOn 70 = .ok (.aload_n 0, 1) := by decide +kernel
theorem dX1_faultOn_71 : decode cX1_faultOn 71 = .ok (.getfield 18, 3) := by decide +kernel
theorem dX1_faultOn_74 : decode cX1_faultOn 74 = .ok (.invokevirtual 60, 3) := by decide +kernel
theorem dX1_faultOn_77 : decode cX1_faultOn 77 = .ok (.ireturn, 1) := by decide +kernel
theorem dX1_faultOn_78 : decode cX1_faultOn 78 = .ok (.aload_n 2, 1) := by decide +kernel
theorem dX1_faultOn_79 : decode cX1_faultOn 79 = .ok (.getfield 65, 3) := by decide +kernel
theorem dX1_faultOn_82 : decode cX1_faultOn 82 = .ok (.iconst 3, 1) := by decide +kernel
theorem dX1_faultOn_83 : decode cX1_faultOn 83 = .ok (.if_icmp .lt 7, 3) := by decide +kernel
theorem dX1_faultOn_86 : decode cX1_faultOn 86 = .ok (.iconst 2, 1) := by decide +kernel
theorem dX1_faultOn_87 : decode cX1_faultOn 87 = .ok (.goto 7, 3) := by decide +kernel
theorem dX1_faultOn_90 : decode cX1_faultOn 90 = .ok (.aload_n 2, 1) := by decide +kernel
theorem dX1_faultOn_91 : decode cX1_faultOn 91 = .ok (.invokevirtual 68, 3) := by decide +kernel
theorem dX1_faultOn_94 : decode cX1_faultOn 94 = .ok (.ireturn, 1) := by decide +kernel
theorem dX1_faultOn_95 : decode cX1_faultOn 95 = .ok (.aload_n 2, 1) := by decide +kernel
theorem dX1_faultOn_96 : decode cX1_faultOn 96 = .ok (.aload_n 0, 1) := by decide +kernel
theorem dX1_faultOn_97 : decode cX1_faultOn 97 = .ok (.getfield 18, 3) := by decide +kernel
theorem dX1_faultOn_100 : decode cX1_faultOn 100 = .ok (.invokevirtual 72, 3) := by decide +kernel
theorem dX1_faultOn_103 : decode cX1_faultOn 103 = .ok (.ireturn, 1) := by decide +kernel
theorem dX1_faultOn_104 : decode cX1_faultOn 104 = .ok (.aload_n 2, 1) := by decide +kernel
theorem dX1_faultOn_105 : decode cX1_faultOn 105 = .ok (.aload_n 0, 1) := by decide +kernel
theorem dX1_faultOn_106 : decode cX1_faultOn 106 = .ok (.getfield 18, 3) := by decide +kernel
theorem dX1_faultOn_109 : decode cX1_faultOn 109 = .ok (.invokevirtual 75, 3) := by decide +kernel
theorem dX1_faultOn_112 : decode cX1_faultOn 112 = .ok (.ireturn, 1) := by decide +kernel
theorem dX1_faultOn_113 : decode cX1_faultOn 113 = .ok (.aload_n 1, 1) := by decide +kernel
theorem dX1_faultOn_114 : decode cX1_faultOn 114 = .ok (.aload_n 0, 1) := by decide +kernel
theorem dX1_faultOn_115 : decode cX1_faultOn 115 = .ok (.getfield 18, 3) := by decide +kernel
theorem dX1_faultOn_118 : decode cX1_faultOn 118 = .ok (.invokevirtual 78, 3) := by decide +kernel
theorem dX1_faultOn_121 : decode cX1_faultOn 121 = .ok (.ireturn, 1) := by decide +kernel
theorem dX1_faultOn_122 : decode cX1_faultOn 122 = .ok (.aload_n 2, 1) := by decide +kernel
theorem dX1_faultOn_123 : decode cX1_faultOn 123 = .ok (.aload_n 0, 1) := by decide +kernel
theorem dX1_faultOn_124 : decode cX1_faultOn 124 = .ok (.getfield 18, 3) := by decide +kernel
theorem dX1_faultOn_127 : decode cX1_faultOn 127 = .ok (.aload_n 0, 1) := by decide +kernel
theorem dX1_faultOn_128 : decode cX1_faultOn 128 = .ok (.getfield 21, 3) := by decide +kernel
theorem dX1_faultOn_131 : decode cX1_faultOn 131 = .ok (.aload_n 0, 1) := by decide +kernel
theorem dX1_faultOn_132 : decode cX1_faultOn 132 = .ok (.getfield 24, 3) := by decide +kernel
theorem dX1_faultOn_135 : decode cX1_faultOn 135 = .ok (.invokevirtual 81, 3) := by decide +kernel
theorem dX1_faultOn_138 : decode cX1_faultOn 138 = .ok (.ireturn, 1) := by decide +kernel
theorem dX1_faultOn_139 : decode cX1_faultOn 139 = .ok (.iconst 2, 1) := by decide +kernel
theorem dX1_faultOn_140 : decode cX1_faultOn 140 = .ok (.ireturn, 1) := by decide +kernel
theorem dX1_applyTo_0 : decode cX1_applyTo 0 = .ok (.aload_n 1, 1) := by decide +kernel
theorem dX1_applyTo_1 : decode cX1_applyTo 1 = .ok (.aload_n 0, 1) := by decide +kernel
theorem dX1_applyTo_2 : decode cX1_applyTo 2 = .ok (.getfield 15, 3) := by decide +kernel
theorem dX1_applyTo_5 : decode cX1_applyTo 5 = .ok (.invokevirtual 50, 3) := by decide +kernel
theorem dX1_applyTo_8 : decode cX1_applyTo 8 = .ok (.astore_n 2, 1) := by decide +kernel
theorem dX1_applyTo_9 : decode cX1_applyTo 9 = .ok (.aload_n 0, 1) := by decide +kernel
theorem dX1_applyTo_10 : decode cX1_applyTo 10 = .ok (.getfield 9, 3) := by decide +kernel
theorem dX1_applyTo_13 : decode cX1_applyTo 13 = .ok (.tableswitch 141 0 7 #[47, 59, 70, 81, 89, 100, 111, 122], 47) := by decide +kernel
theorem dX1_applyTo_60 : decode cX1_applyTo 60 = .ok (.aload_n 1, 1) := by decide +kernel
theorem dX1_applyTo_61 : decode cX1_applyTo 61 = .ok (.aload_n 0, 1) := by decide +kernel
theorem dX1_applyTo_62 : decode cX1_applyTo 62 = .ok (.getfield 18, 3) := by decide +kernel
theorem dX1_applyTo_65 : decode cX1_applyTo 65 = .ok (.invokevirtual 85, 3) := by decide +kernel
theorem dX1_applyTo_68 : decode cX1_applyTo 68 = .ok (.pop, 1) := by decide +kernel
theorem dX1_applyTo_69 : decode cX1_applyTo 69 = .ok (.goto 85, 3) := by decide +kernel
theorem dX1_applyTo_72 : decode cX1_applyTo 72 = .ok (.aload_n 2, 1) := by decide +kernel
theorem dX1_applyTo_73 : decode cX1_applyTo 73 = .ok (.aload_n 0, 1) := by decide +kernel
theorem dX1_applyTo_74 : decode cX1_applyTo 74 = .ok (.getfield 18, 3) := by decide +kernel
theorem dX1_applyTo_77 : decode cX1_applyTo 77 = .ok (.invokevirtual 88, 3) := by decide +kernel
theorem dX1_applyTo_80 : decode cX1_applyTo 80 = .ok (.goto 74, 3) := by decide +kernel
theorem dX1_applyTo_83 : decode cX1_applyTo 83 = .ok (.aload_n 2, 1) := by decide +kernel
theorem dX1_applyTo_84 : decode cX1_applyTo 84 = .ok (.aload_n 0, 1) := by decide +kernel
theorem dX1_applyTo_85 : decode cX1_applyTo 85 = .ok (.getfield 18, 3) := by decide +kernel
theorem dX1_applyTo_88 : decode cX1_applyTo 88 = .ok (.invokevirtual 92, 3) := by decide +kernel
theorem dX1_applyTo_91 : decode cX1_applyTo 91 = .ok (.goto 63, 3) := by decide +kernel
theorem dX1_applyTo_94 : decode cX1_applyTo 94 = .ok (.aload_n 2, 1) := by decide +kernel
theorem dX1_applyTo_95 : decode cX1_applyTo 95 = .ok (.iconst 1, 1) := by decide +kernel
theorem dX1_applyTo_96 : decode cX1_applyTo 96 = .ok (.invokevirtual 95, 3) := by decide +kernel
theorem dX1_applyTo_99 : decode cX1_applyTo 99 = .ok (.goto 55, 3) := by decide +kernel
theorem dX1_applyTo_102 : decode cX1_applyTo 102 = .ok (.aload_n 2, 1) := by decide +kernel
theorem dX1_applyTo_103 : decode cX1_applyTo 103 = .ok (.aload_n 0, 1) := by decide +kernel
theorem dX1_applyTo_104 : decode cX1_applyTo 104 = .ok (.getfield 18, 3) := by decide +kernel
theorem dX1_applyTo_107 : decode cX1_applyTo 107 = .ok (.putfield 98, 3) := by decide +kernel
theorem dX1_applyTo_110 : decode cX1_applyTo 110 = .ok (.goto 44, 3) := by decide +kernel
theorem dX1_applyTo_113 : decode cX1_applyTo 113 = .ok (.aload_n 2, 1) := by decide +kernel
theorem dX1_applyTo_114 : decode cX1_applyTo 114 = .ok (.aload_n 0, 1) := by decide +kernel
theorem dX1_applyTo_115 : decode cX1_applyTo 115 = .ok (.getfield 18, 3) := by decide +kernel
theorem dX1_applyTo_118 : decode cX1_applyTo 118 = .ok (.invokevirtual 100, 3) := by decide +kernel
theorem dX1_applyTo_121 : decode cX1_applyTo 121 = .ok (.goto 33, 3) := by decide +kernel
theorem dX1_applyTo_124 : decode cX1_applyTo 124 = .ok (.aload_n 1, 1) := by decide +kernel
theorem dX1_applyTo_125 : decode cX1_applyTo 125 = .ok (.aload_n 0, 1) := by decide +kernel
theorem dX1_applyTo_126 : decode cX1_applyTo 126 = .ok (.getfield 18, 3) := by decide +kernel
theorem dX1_applyTo_129 : decode cX1_applyTo 129 = .ok (.putfield 103, 3) := by decide +kernel
theorem dX1_applyTo_132 : decode cX1_applyTo 132 = .ok (.goto 22, 3) := by decide +kernel
theorem dX1_applyTo_135 : decode cX1_applyTo 135 = .ok (.aload_n 2, 1) := by decide +kernel
theorem dX1_applyTo_136 : decode cX1_applyTo 136 = .ok (.aload_n 0, 1) := by decide +kernel
theorem dX1_applyTo_137 : decode cX1_applyTo 137 = .ok (.getfield 18, 3) := by decide +kernel
theorem dX1_applyTo_140 : decode cX1_applyTo 140 = .ok (.aload_n 0, 1) := by decide +kernel
theorem dX1_applyTo_141 : decode cX1_applyTo 141 = .ok (.getfield 21, 3) := by decide +kernel
theorem dX1_applyTo_144 : decode cX1_applyTo 144 = .ok (.aload_n 0, 1) := by decide +kernel
theorem dX1_applyTo_145 : decode cX1_applyTo 145 = .ok (.getfield 24, 3) := by decide +kernel
theorem dX1_applyTo_148 : decode cX1_applyTo 148 = .ok (.invokevirtual 105, 3) := by decide +kernel
theorem dX1_applyTo_151 : decode cX1_applyTo 151 = .ok (.goto 3, 3) := by decide +kernel
theorem dX1_applyTo_154 : decode cX1_applyTo 154 = .ok (.return_, 1) := by decide +kernel
theorem dX2_init_0 : decode cX2_init 0 = .ok (.aload_n 0, 1) := by decide +kernel
theorem dX2_init_1 : decode cX2_init 1 = .ok (.invokespecial 3, 3) := by decide +kernel
theorem dX2_init_4 : decode cX2_init 4 = .ok (.aload_n 0, 1) := by decide +kernel
theorem dX2_init_5 : decode cX2_init 5 = .ok (.bipush 8, 2) := by decide +kernel
theorem dX2_init_7 : decode cX2_init 7 = .ok (.anewarray 9, 3) := by decide +kernel
theorem dX2_init_10 : decode cX2_init 10 = .ok (.putfield 11, 3) := by decide +kernel
theorem dX2_init_13 : decode cX2_init 13 = .ok (.aload_n 0, 1) := by decide +kernel
theorem dX2_init_14 : decode cX2_init 14 = .ok (.new 9, 3) := by decide +kernel
theorem dX2_init_17 : decode cX2_init 17 = .ok (.dup, 1) := by decide +kernel
theorem dX2_init_18 : decode cX2_init 18 = .ok (.iconst (-1), 1) := by decide +kernel
theorem dX2_init_19 : decode cX2_init 19 = .ok (.invokespecial 17, 3) := by decide +kernel
theorem dX2_init_22 : decode cX2_init 22 = .ok (.putfield 20, 3) := by decide +kernel
theorem dX2_init_25 : decode cX2_init 25 = .ok (.aload_n 0, 1) := by decide +kernel
theorem dX2_init_26 : decode cX2_init 26 = .ok (.iconst 0, 1) := by decide +kernel
theorem dX2_init_27 : decode cX2_init 27 = .ok (.putfield 24, 3) := by decide +kernel
theorem dX2_init_30 : decode cX2_init 30 = .ok (.aload_n 0, 1) := by decide +kernel
theorem dX2_init_31 : decode cX2_init 31 = .ok (.sipush 300, 3) := by decide +kernel
theorem dX2_init_34 : decode cX2_init 34 = .ok (.putfield 28, 3) := by decide +kernel
theorem dX2_init_37 : decode cX2_init 37 = .ok (.aload_n 0, 1) := by decide +kernel
theorem dX2_init_38 : decode cX2_init 38 = .ok (.iconst 0, 1) := by decide +kernel
theorem dX2_init_39 : decode cX2_init 39 = .ok (.putfield 31, 3) := by decide +kernel
theorem dX2_init_42 : decode cX2_init 42 = .ok (.aload_n 0, 1) := by decide +kernel
theorem dX2_init_43 : decode cX2_init 43 = .ok (.iconst 0, 1) := by decide +kernel
theorem dX2_init_44 : decode cX2_init 44 = .ok (.putfield 34, 3) := by decide +kernel
theorem dX2_init_47 : decode cX2_init 47 = .ok (.iconst 0, 1) := by decide +kernel
theorem dX2_init_48 : decode cX2_init 48 = .ok (.istore_n 1, 1) := by decide +kernel
theorem dX2_init_49 : decode cX2_init 49 = .ok (.iload_n 1, 1) := by decide +kernel
theorem dX2_init_50 : decode cX2_init 50 = .ok (.aload_n 0, 1) := by decide +kernel
theorem dX2_init_51 : decode cX2_init 51 = .ok (.getfield 11, 3) := by decide +kernel
theorem dX2_init_54 : decode cX2_init 54 = .ok (.arraylength, 1) := by decide +kernel
theorem dX2_init_55 : decode cX2_init 55 = .ok (.if_icmp .ge 23, 3) := by decide +kernel
theorem dX2_init_58 : decode cX2_init 58 = .ok (.aload_n 0, 1) := by decide +kernel
theorem dX2_init_59 : decode cX2_init 59 = .ok (.getfield 11, 3) := by decide +kernel
theorem dX2_init_62 : decode cX2_init 62 = .ok (.iload_n 1, 1) := by decide +kernel
theorem dX2_init_63 : decode cX2_init 63 = .ok (.new 9, 3) := by decide +kernel
theorem dX2_init_66 : decode cX2_init 66 = .ok (.dup, 1) := by decide +kernel
theorem dX2_init_67 : decode cX2_init 67 = .ok (.iload_n 1, 1) := by decide +kernel
theorem dX2_init_68 : decode cX2_init 68 = .ok (.invokespecial 17, 3) := by decide +kernel
theorem dX2_init_71 : decode cX2_init 71 = .ok (.aastore, 1) := by decide +kernel
theorem dX2_init_72 : decode cX2_init 72 = .ok (.iinc 1 1, 3) := by decide +kernel
theorem dX2_init_75 : decode cX2_init 75 = .ok (.goto (-26), 3) := by decide +kernel
theorem dX2_init_78 : decode cX2_init 78 = .ok (.return_, 1) := by decide +kernel
theorem dX2_clear_0 : decode cX2_clear 0 = .ok (.aload_n 0, 1) := by decide +kernel
theorem dX2_clear_1 : decode cX2_clear 1 = .ok (.getfield 11, 3) := by decide +kernel
theorem dX2_clear_4 : decode cX2_clear 4 = .ok (.astore_n 1, 1) := by decide +kernel
theorem dX2_clear_5 : decode cX2_clear 5 = .ok (.aload_n 1, 1) := by decide +kernel
theorem dX2_clear_6 : decode cX2_clear 6 = .ok (.arraylength, 1) := by decide +kernel
theorem dX2_clear_7 : decode cX2_clear 7 = .ok (.istore_n 2, 1) := by decide +kernel
theorem dX2_clear_8 : decode cX2_clear 8 = .ok (.iconst 0, 1) := by decide +kernel
theorem dX2_clear_9 : decode cX2_clear 9 = .ok (.istore_n 3, 1) := by decide +kernel
theorem dX2_clear_10 : decode cX2_clear 10 = .ok (.iload_n 3, 1) := by decide +kernel
theorem dX2_clear_11 : decode cX2_clear 11 = .ok (.iload_n 2, 1) := by decide +kernel
theorem dX2_clear_12 : decode cX2_clear 12 = .ok (.if_icmp .ge 23, 3) := by decide +kernel
theorem dX2_clear_15 : decode cX2_clear 15 = .ok (.aload_n 1, 1) := by decide +kernel
theorem dX2_clear_16 : decode cX2_clear 16 = .ok (.iload_n 3, 1) := by decide +kernel
theorem dX2_clear_17 : decode cX2_clear 17 = .ok (.aaload, 1) := by decide +kernel
theorem dX2_clear_18 : decode cX2_clear 18 = .ok (.astore 4, 2) := by decide +kernel
theorem dX2_clear_20 : decode cX2_clear 20 = .ok (.aload 4, 2) := by decide +kernel
theorem dX2_clear_22 : decode cX2_clear 22 = .ok (.aload_n 0, 1) := by decide +kernel
theorem dX2_clear_23 : decode cX2_clear 23 = .ok (.getfield 20, 3) := by decide +kernel
theorem dX2_clear_26 : decode cX2_clear 26 = .ok (.invokevirtual 37, 3) := by decide +kernel
theorem dX2_clear_29 : decode cX2_clear 29 = .ok (.iinc 3 1, 3) := by decide +kernel
theorem dX2_clear_32 : decode cX2_clear 32 = .ok (.goto (-22), 3) := by decide +kernel
theorem dX2_clear_35 : decode cX2_clear 35 = .ok (.aload_n 0, 1) := by decide +kernel
theorem dX2_clear_36 : decode cX2_clear 36 = .ok (.iconst 0, 1) := by decide +kernel
theorem dX2_clear_37 : decode cX2_clear 37 = .ok (.putfield 24, 3) := by decide +kernel
theorem dX2_clear_40 : decode cX2_clear 40 = .ok (.aload_n 0, 1) := by decide +kernel
theorem dX2_clear_41 : decode cX2_clear 41 = .ok (.sipush 300, 3) := by decide +kernel
theorem dX2_clear_44 : decode cX2_clear 44 = .ok (.putfield 28, 3) := by decide +kernel
theorem dX2_clear_47 : decode cX2_clear 47 = .ok (.aload_n 0, 1) := by decide +kernel
theorem dX2_clear_48 : decode cX2_clear 48 = .ok (.iconst 0, 1) := by decide +kernel
theorem dX2_clear_49 : decode cX2_clear 49 = .ok (.putfield 31, 3) := by decide +kernel
theorem dX2_clear_52 : decode cX2_clear 52 = .ok (.aload_n 0, 1) := by decide +kernel
theorem dX2_clear_53 : decode cX2_clear 53 = .ok (.iconst 0, 1) := by decide +kernel
theorem dX2_clear_54 : decode cX2_clear 54 = .ok (.putfield 34, 3) := by decide +kernel
theorem dX2_clear_57 : decode cX2_clear 57 = .ok (.return_, 1) := by decide +kernel
theorem dX2_copyFrom_0 : decode cX2_copyFrom 0 = .ok (.aload_n 0, 1) := by decide +kernel
theorem dX2_copyFrom_1 : decode cX2_copyFrom 1 = .ok (.getfield 11, 3) := by decide +kernel
theorem dX2_copyFrom_4 : decode cX2_copyFrom 4 = .ok (.astore_n 2, 1) := by decide +kernel
theorem dX2_copyFrom_5 : decode cX2_copyFrom 5 = .ok (.aload_n 2, 1) := by decide +kernel
theorem dX2_copyFrom_6 : decode cX2_copyFrom 6 = .ok (.arraylength, 1) := by decide +kernel
theorem dX2_copyFrom_7 : decode cX2_copyFrom 7 = .ok (.istore_n 3, 1) := by decide +kernel
theorem dX2_copyFrom_8 : decode cX2_copyFrom 8 = .ok (.iconst 0, 1) := by decide +kernel
theorem dX2_copyFrom_9 : decode cX2_copyFrom 9 = .ok (.istore 4, 2) := by decide +kernel
theorem dX2_copyFrom_11 : decode cX2_copyFrom 11 = .ok (.iload 4, 2) := by decide +kernel
theorem dX2_copyFrom_13 : decode cX2_copyFrom 13 = .ok (.iload_n 3, 1) := by decide +kernel
theorem dX2_copyFrom_14 : decode cX2_copyFrom 14 = .ok (.if_icmp .ge 29, 3) := by decide +kernel
theorem dX2_copyFrom_17 : decode cX2_copyFrom 17 = .ok (.aload_n 2, 1) := by decide +kernel
theorem dX2_copyFrom_18 : decode cX2_copyFrom 18 = .ok (.iload 4, 2) := by decide +kernel
theorem dX2_copyFrom_20 : decode cX2_copyFrom 20 = .ok (.aaload, 1) := by decide +kernel
theorem dX2_copyFrom_21 : decode cX2_copyFrom 21 = .ok (.astore 5, 2) := by decide +kernel
theorem dX2_copyFrom_23 : decode cX2_copyFrom 23 = .ok (.aload 5, 2) := by decide +kernel
theorem dX2_copyFrom_25 : decode cX2_copyFrom 25 = .ok (.aload_n 1, 1) := by decide +kernel
theorem dX2_copyFrom_26 : decode cX2_copyFrom 26 = .ok (.aload 5, 2) := by decide +kernel
theorem dX2_copyFrom_28 : decode cX2_copyFrom 28 = .ok (.getfield 41, 3) := by decide +kernel
theorem dX2_copyFrom_31 : decode cX2_copyFrom 31 = .ok (.invokevirtual 44, 3) := by decide +kernel
theorem dX2_copyFrom_34 : decode cX2_copyFrom 34 = .ok (.invokevirtual 37, 3) := by decide +kernel
theorem dX2_copyFrom_37 : decode cX2_copyFrom 37 = .ok (.iinc 4 1, 3) := by decide +kernel
theorem dX2_copyFrom_40 : decode cX2_copyFrom 40 = .ok (.goto (-29), 3) := by decide +kernel
theorem dX2_copyFrom_43 : decode cX2_copyFrom 43 = .ok (.aload_n 0, 1) := by decide +kernel
theorem dX2_copyFrom_44 : decode cX2_copyFrom 44 = .ok (.aload_n 1, 1) := by decide +kernel
theorem dX2_copyFrom_45 : decode cX2_copyFrom 45 = .ok (.getfield 24, 3) := by decide +kernel
theorem dX2_copyFrom_48 : decode cX2_copyFrom 48 = .ok (.putfield 24, 3) := by decide +kernel
theorem dX2_copyFrom_51 : decode cX2_copyFrom 51 = .ok (.aload_n 0, 1) := by decide +kernel
theorem dX2_copyFrom_52 : decode cX2_copyFrom 52 = .ok (.aload_n 1, 1) := by decide +kernel
theorem dX2_copyFrom_53 : decode cX2_copyFrom 53 = .ok (.getfield 28, 3) := by decide +kernel
theorem dX2_copyFrom_56 : decode cX2_copyFrom 56 = .ok (.putfield 28, 3) := by decide +kernel
theorem dX2_copyFrom_59 : decode cX2_copyFrom 59 = .ok (.aload_n 0, 1) := by decide +kernel
theorem dX2_copyFrom_60 : decode cX2_copyFrom 60 = .ok (.aload_n 1, 1) := by decide +kernel
theorem dX2_copyFrom_61 : decode cX2_copyFrom 61 = .ok (.getfield 31, 3) := by decide +kernel
theorem dX2_copyFrom_64 : decode cX2_copyFrom 64 = .ok (.putfield 31, 3) := by decide +kernel
theorem dX2_copyFrom_67 : decode cX2_copyFrom 67 = .ok (.aload_n 0, 1) := by decide +kernel
theorem dX2_copyFrom_68 : decode cX2_copyFrom 68 = .ok (.aload_n 1, 1) := by decide +kernel
theorem dX2_copyFrom_69 : decode cX2_copyFrom 69 = .ok (.getfield 34, 3) := by decide +kernel
theorem dX2_copyFrom_72 : decode cX2_copyFrom 72 = .ok (.putfield 34, 3) := by decide +kernel
theorem dX2_copyFrom_75 : decode cX2_copyFrom 75 = .ok (.return_, 1) := by decide +kernel
theorem dX2_at_0 : decode cX2_at 0 = .ok (.iload_n 1, 1) := by decide +kernel
theorem dX2_at_1 : decode cX2_at 1 = .ok (.ifCond .lt 21, 3) := by decide +kernel
theorem dX2_at_4 : decode cX2_at 4 = .ok (.iload_n 1, 1) := by decide +kernel
theorem dX2_at_5 : decode cX2_at 5 = .ok (.aload_n 0, 1) := by decide +kernel
theorem dX2_at_6 : decode cX2_at 6 = .ok (.getfield 11, 3) := by decide +kernel
theorem dX2_at_9 : decode cX2_at 9 = .ok (.arraylength, 1) := by decide +kernel
theorem dX2_at_10 : decode cX2_at 10 = .ok (.if_icmp .ge 12, 3) := by decide +kernel
theorem dX2_at_13 : decode cX2_at 13 = .ok (.aload_n 0, 1) := by decide +kernel
theorem dX2_at_14 : decode cX2_at 14 = .ok (.getfield 11, 3) := by decide +kernel
theorem dX2_at_17 : decode cX2_at 17 = .ok (.iload_n 1, 1) := by decide +kernel
theorem dX2_at_18 : decode cX2_at 18 = .ok (.aaload, 1) := by decide +kernel
theorem dX2_at_19 : decode cX2_at 19 = .ok (.goto 7, 3) := by decide +kernel
theorem dX2_at_22 : decode cX2_at 22 = .ok (.aload_n 0, 1) := by decide +kernel
theorem dX2_at_23 : decode cX2_at 23 = .ok (.getfield 20, 3) := by decide +kernel
theorem dX2_at_26 : decode cX2_at 26 = .ok (.areturn, 1) := by decide +kernel
theorem dX2_numberOf_0 : decode cX2_numberOf 0 = .ok (.aload_n 0, 1) := by decide +kernel
theorem dX2_numberOf_1 : decode cX2_numberOf 1 = .ok (.getfield 11, 3) := by decide +kernel
theorem dX2_numberOf_4 : decode cX2_numberOf 4 = .ok (.astore_n 3, 1) := by decide +kernel
theorem dX2_numberOf_5 : decode cX2_numberOf 5 = .ok (.aload_n 3, 1) := by decide +kernel
theorem dX2_numberOf_6 : decode cX2_numberOf 6 = .ok (.arraylength, 1) := by decide +kernel
theorem dX2_numberOf_7 : decode cX2_numberOf 7 = .ok (.istore 4, 2) := by decide +kernel
theorem dX2_numberOf_9 : decode cX2_numberOf 9 = .ok (.iconst 0, 1) := by decide +kernel
theorem dX2_numberOf_10 : decode cX2_numberOf 10 = .ok (.istore 5, 2) := by decide +kernel
theorem dX2_numberOf_12 : decode cX2_numberOf 12 = .ok (.iload 5, 2) := by decide +kernel
theorem dX2_numberOf_14 : decode cX2_numberOf 14 = .ok (.iload 4, 2) := by decide +kernel
theorem dX2_numberOf_16 : decode cX2_numberOf 16 = .ok (.if_icmp .ge 43, 3) := by decide +kernel
theorem dX2_numberOf_19 : decode cX2_numberOf 19 = .ok (.aload_n 3, 1) := by decide +kernel
theorem dX2_numberOf_20 : decode cX2_numberOf 20 = .ok (.iload 5, 2) := by decide +kernel
theorem dX2_numberOf_22 : decode cX2_numberOf 22 = .ok (.aaload, 1) := by decide +kernel
theorem dX2_numberOf_23 : decode cX2_numberOf 23 = .ok (.astore 6, 2) := by decide +kernel
theorem dX2_numberOf_25 : decode cX2_numberOf 25 = .ok (.aload 6, 2) := by decide +kernel
theorem dX2_numberOf_27 : decode cX2_numberOf 27 = .ok (.getfield 41, 3) := by decide +kernel
theorem dX2_numberOf_30 : decode cX2_numberOf 30 = .ok (.aload_n 0, 1) := by decide +kernel
theorem dX2_numberOf_31 : decode cX2_numberOf 31 = .ok (.getfield 24, 3) := by decide +kernel
theorem dX2_numberOf_34 : decode cX2_numberOf 34 = .ok (.if_icmp .ge 19, 3) := by decide +kernel
theorem dX2_numberOf_37 : decode cX2_numberOf 37 = .ok (.aload 6, 2) := by decide +kernel
theorem dX2_numberOf_39 : decode cX2_numberOf 39 = .ok (.getfield 48, 3) := by decide +kernel
theorem dX2_numberOf_42 : decode cX2_numberOf 42 = .ok (.lload_n 1, 1) := by decide +kernel
theorem dX2_numberOf_43 : decode cX2_numberOf 43 = .ok (.lcmp, 1) := by decide +kernel
theorem dX2_numberOf_44 : decode cX2_numberOf 44 = .ok (.ifCond .ne 9, 3) := by decide +kernel
theorem dX2_numberOf_47 : decode cX2_numberOf 47 = .ok (.aload 6, 2) := by decide +kernel
theorem dX2_numberOf_49 : decode cX2_numberOf 49 = .ok (.getfield 41, 3) := by decide +kernel
theorem dX2_numberOf_52 : decode cX2_numberOf 52 = .ok (.ireturn, 1) := by decide +kernel
theorem dX2_numberOf_53 : decode cX2_numberOf 53 = .ok (.iinc 5 1, 3) := by decide +kernel
theorem dX2_numberOf_56 : decode cX2_numberOf 56 = .ok (.goto (-44), 3) := by decide +kernel
theorem dX2_numberOf_59 : decode cX2_numberOf 59 = .ok (.iconst (-1), 1) := by decide +kernel
theorem dX2_numberOf_60 : decode cX2_numberOf 60 = .ok (.ireturn, 1) := by decide +kernel
theorem dX2_living_0 : decode cX2_living 0 = .ok (.iconst 0, 1) := by decide +kernel
theorem dX2_living_1 : decode cX2_living 1 = .ok (.istore_n 1, 1) := by decide +kernel
theorem dX2_living_2 : decode cX2_living 2 = .ok (.aload_n 0, 1) := by decide +kernel
theorem dX2_living_3 : decode cX2_living 3 = .ok (.getfield 11, 3) := by decide +kernel
theorem dX2_living_6 : decode cX2_living 6 = .ok (.astore_n 2, 1) := by decide +kernel
theorem dX2_living_7 : decode cX2_living 7 = .ok (.aload_n 2, 1) := by decide +kernel
theorem dX2_living_8 : decode cX2_living 8 = .ok (.arraylength, 1) := by decide +kernel
theorem dX2_living_9 : decode cX2_living 9 = .ok (.istore_n 3, 1) := by decide +kernel
theorem dX2_living_10 : decode cX2_living 10 = .ok (.iconst 0, 1) := by decide +kernel
theorem dX2_living_11 : decode cX2_living 11 = .ok (.istore 4, 2) := by decide +kernel
theorem dX2_living_13 : decode cX2_living 13 = .ok (.iload 4, 2) := by decide +kernel
theorem dX2_living_15 : decode cX2_living 15 = .ok (.iload_n 3, 1) := by decide +kernel
theorem dX2_living_16 : decode cX2_living 16 = .ok (.if_icmp .ge 26, 3) := by decide +kernel
theorem dX2_living_19 : decode cX2_living 19 = .ok (.aload_n 2, 1) := by decide +kernel
theorem dX2_living_20 : decode cX2_living 20 = .ok (.iload 4, 2) := by decide +kernel
theorem dX2_living_22 : decode cX2_living 22 = .ok (.aaload, 1) := by decide +kernel
theorem dX2_living_23 : decode cX2_living 23 = .ok (.astore 5, 2) := by decide +kernel
theorem dX2_living_25 : decode cX2_living 25 = .ok (.aload 5, 2) := by decide +kernel
theorem dX2_living_27 : decode cX2_living 27 = .ok (.getfield 52, 3) := by decide +kernel
theorem dX2_living_30 : decode cX2_living 30 = .ok (.ifCond .le 6, 3) := by decide +kernel
theorem dX2_living_33 : decode cX2_living 33 = .ok (.iinc 1 1, 3) := by decide +kernel
theorem dX2_living_36 : decode cX2_living 36 = .ok (.iinc 4 1, 3) := by decide +kernel
theorem dX2_living_39 : decode cX2_living 39 = .ok (.goto (-26), 3) := by decide +kernel
theorem dX2_living_42 : decode cX2_living 42 = .ok (.iload_n 1, 1) := by decide +kernel
theorem dX2_living_43 : decode cX2_living 43 = .ok (.ireturn, 1) := by decide +kernel
theorem dX2_speedOfLiving_0 : decode cX2_speedOfLiving 0 = .ok (.iconst 0, 1) := by decide +kernel
theorem dX2_speedOfLiving_1 : decode cX2_speedOfLiving 1 = .ok (.istore_n 1, 1) := by decide +kernel
theorem dX2_speedOfLiving_2 : decode cX2_speedOfLiving 2 = .ok (.aload_n 0, 1) := by decide +kernel
theorem dX2_speedOfLiving_3 : decode cX2_speedOfLiving 3 = .ok (.getfield 11, 3) := by decide +kernel
theorem dX2_speedOfLiving_6 : decode cX2_speedOfLiving 6 = .ok (.astore_n 2, 1) := by decide +kernel
theorem dX2_speedOfLiving_7 : decode cX2_speedOfLiving 7 = .ok (.aload_n 2, 1) := by decide +kernel
theorem dX2_speedOfLiving_8 : decode cX2_speedOfLiving 8 = .ok (.arraylength, 1) := by decide +kernel
theorem dX2_speedOfLiving_9 : decode cX2_speedOfLiving 9 = .ok (.istore_n 3, 1) := by decide +kernel
theorem dX2_speedOfLiving_10 : decode cX2_speedOfLiving 10 = .ok (.iconst 0, 1) := by decide +kernel
theorem dX2_speedOfLiving_11 : decode cX2_speedOfLiving 11 = .ok (.istore 4, 2) := by decide +kernel
theorem dX2_speedOfLiving_13 : decode cX2_speedOfLiving 13 = .ok (.iload 4, 2) := by decide +kernel
theorem dX2_speedOfLiving_15 : decode cX2_speedOfLiving 15 = .ok (.iload_n 3, 1) := by decide +kernel
theorem dX2_speedOfLiving_16 : decode cX2_speedOfLiving 16 = .ok (.if_icmp .ge 31, 3) := by decide +kernel
theorem dX2_speedOfLiving_19 : decode cX2_speedOfLiving 19 = .ok (.aload_n 2, 1) := by decide +kernel
theorem dX2_speedOfLiving_20 : decode cX2_speedOfLiving 20 = .ok (.iload 4, 2) := by decide +kernel
theorem dX2_speedOfLiving_22 : decode cX2_speedOfLiving 22 = .ok (.aaload, 1) := by decide +kernel
theorem dX2_speedOfLiving_23 : decode cX2_speedOfLiving 23 = .ok (.astore 5, 2) := by decide +kernel
theorem dX2_speedOfLiving_25 : decode cX2_speedOfLiving 25 = .ok (.aload 5, 2) := by decide +kernel
theorem dX2_speedOfLiving_27 : decode cX2_speedOfLiving 27 = .ok (.getfield 52, 3) := by decide +kernel
theorem dX2_speedOfLiving_30 : decode cX2_speedOfLiving 30 = .ok (.ifCond .le 11, 3) := by decide +kernel
theorem dX2_speedOfLiving_33 : decode cX2_speedOfLiving 33 = .ok (.iload_n 1, 1) := by decide +kernel
theorem dX2_speedOfLiving_34 : decode cX2_speedOfLiving 34 = .ok (.aload 5, 2) := by decide +kernel
theorem dX2_speedOfLiving_36 : decode cX2_speedOfLiving 36 = .ok (.getfield 55, 3) := by decide +kernel
theorem dX2_speedOfLiving_39 : decode cX2_speedOfLiving 39 = .ok (.iadd, 1) := by decide +kernel
theorem dX2_speedOfLiving_40 : decode cX2_speedOfLiving 40 = .ok (.istore_n 1, 1) := by decide +kernel
theorem dX2_speedOfLiving_41 : decode cX2_speedOfLiving 41 = .ok (.iinc 4 1, 3) := by decide +kernel
theorem dX2_speedOfLiving_44 : decode cX2_speedOfLiving 44 = .ok (.goto (-31), 3) := by decide +kernel
theorem dX2_speedOfLiving_47 : decode cX2_speedOfLiving 47 = .ok (.iload_n 1, 1) := by decide +kernel
theorem dX2_speedOfLiving_48 : decode cX2_speedOfLiving 48 = .ok (.ireturn, 1) := by decide +kernel
theorem dX2_sideLife_0 : decode cX2_sideLife 0 = .ok (.iconst 0, 1) := by decide +kernel
theorem dX2_sideLife_1 : decode cX2_sideLife 1 = .ok (.istore_n 2, 1) := by decide +kernel
theorem dX2_sideLife_2 : decode cX2_sideLife 2 = .ok (.aload_n 0, 1) := by decide +kernel
theorem dX2_sideLife_3 : decode cX2_sideLife 3 = .ok (.getfield 11, 3) := by decide +kernel
theorem dX2_sideLife_6 : decode cX2_sideLife 6 = .ok (.astore_n 3, 1) := by decide +kernel
theorem dX2_sideLife_7 : decode cX2_sideLife 7 = .ok (.aload_n 3, 1) := by decide +kernel
theorem dX2_sideLife_8 : decode cX2_sideLife 8 = .ok (.arraylength, 1) := by decide +kernel
theorem dX2_sideLife_9 : decode cX2_sideLife 9 = .ok (.istore 4, 2) := by decide +kernel
theorem dX2_sideLife_11 : decode cX2_sideLife 11 = .ok (.iconst 0, 1) := by decide +kernel
theorem dX2_sideLife_12 : decode cX2_sideLife 12 = .ok (.istore 5, 2) := by decide +kernel
theorem dX2_sideLife_14 : decode cX2_sideLife 14 = .ok (.iload 5, 2) := by decide +kernel
theorem dX2_sideLife_16 : decode cX2_sideLife 16 = .ok (.iload 4, 2) := by decide +kernel
theorem dX2_sideLife_18 : decode cX2_sideLife 18 = .ok (.if_icmp .ge 32, 3) := by decide +kernel
theorem dX2_sideLife_21 : decode cX2_sideLife 21 = .ok (.aload_n 3, 1) := by decide +kernel
theorem dX2_sideLife_22 : decode cX2_sideLife 22 = .ok (.iload 5, 2) := by decide +kernel
theorem dX2_sideLife_24 : decode cX2_sideLife 24 = .ok (.aaload, 1) := by decide +kernel
theorem dX2_sideLife_25 : decode cX2_sideLife 25 = .ok (.astore 6, 2) := by decide +kernel
theorem dX2_sideLife_27 : decode cX2_sideLife 27 = .ok (.aload 6, 2) := by decide +kernel
theorem dX2_sideLife_29 : decode cX2_sideLife 29 = .ok (.getfield 58, 3) := by decide +kernel
theorem dX2_sideLife_32 : decode cX2_sideLife 32 = .ok (.iload_n 1, 1) := by decide +kernel
theorem dX2_sideLife_33 : decode cX2_sideLife 33 = .ok (.if_icmp .ne 11, 3) := by decide +kernel
theorem dX2_sideLife_36 : decode cX2_sideLife 36 = .ok (.iload_n 2, 1) := by decide +kernel
theorem dX2_sideLife_37 : decode cX2_sideLife 37 = .ok (.aload 6, 2) := by decide +kernel
theorem dX2_sideLife_39 : decode cX2_sideLife 39 = .ok (.getfield 52, 3) := by decide +kernel
theorem dX2_sideLife_42 : decode cX2_sideLife 42 = .ok (.iadd, 1) := by decide +kernel
theorem dX2_sideLife_43 : decode cX2_sideLife 43 = .ok (.istore_n 2, 1) := by decide +kernel
theorem dX2_sideLife_44 : decode cX2_sideLife 44 = .ok (.iinc 5 1, 3) := by decide +kernel
theorem dX2_sideLife_47 : decode cX2_sideLife 47 = .ok (.goto (-33), 3) := by decide +kernel
theorem dX2_sideLife_50 : decode cX2_sideLife 50 = .ok (.iload_n 2, 1) := by decide +kernel
theorem dX2_sideLife_51 : decode cX2_sideLife 51 = .ok (.ireturn, 1) := by decide +kernel
theorem dX2_lives_0 : decode cX2_lives 0 = .ok (.aload_n 0, 1) := by decide +kernel
theorem dX2_lives_1 : decode cX2_lives 1 = .ok (.getfield 11, 3) := by decide +kernel
theorem dX2_lives_4 : decode cX2_lives 4 = .ok (.astore_n 2, 1) := by decide +kernel
theorem dX2_lives_5 : decode cX2_lives 5 = .ok (.aload_n 2, 1) := by decide +kernel
theorem dX2_lives_6 : decode cX2_lives 6 = .ok (.arraylength, 1) := by decide +kernel
theorem dX2_lives_7 : decode cX2_lives 7 = .ok (.istore_n 3, 1) := by decide +kernel
theorem dX2_lives_8 : decode cX2_lives 8 = .ok (.iconst 0, 1) := by decide +kernel
theorem dX2_lives_9 : decode cX2_lives 9 = .ok (.istore 4, 2) := by decide +kernel
theorem dX2_lives_11 : decode cX2_lives 11 = .ok (.iload 4, 2) := by decide +kernel
theorem dX2_lives_13 : decode cX2_lives 13 = .ok (.iload_n 3, 1) := by decide +kernel
theorem dX2_lives_14 : decode cX2_lives 14 = .ok (.if_icmp .ge 34, 3) := by decide +kernel
theorem dX2_lives_17 : decode cX2_lives 17 = .ok (.aload_n 2, 1) := by decide +kernel
theorem dX2_lives_18 : decode cX2_lives 18 = .ok (.iload 4, 2) := by decide +kernel
theorem dX2_lives_20 : decode cX2_lives 20 = .ok (.aaload, 1) := by decide +kernel
theorem dX2_lives_21 : decode cX2_lives 21 = .ok (.astore 5, 2) := by decide +kernel
theorem dX2_lives_23 : decode cX2_lives 23 = .ok (.aload 5, 2) := by decide +kernel
theorem dX2_lives_25 : decode cX2_lives 25 = .ok (.getfield 52, 3) := by decide +kernel
theorem dX2_lives_28 : decode cX2_lives 28 = .ok (.ifCond .le 14, 3) := by decide +kernel
theorem dX2_lives_31 : decode cX2_lives 31 = .ok (.aload 5, 2) := by decide +kernel
theorem dX2_lives_33 : decode cX2_lives 33 = .ok (.getfield 58, 3) := by decide +kernel
theorem dX2_lives_36 : decode cX2_lives 36 = .ok (.iload_n 1, 1) := by decide +kernel
theorem dX2_lives_37 : decode cX2_lives 37 = .ok (.if_icmp .ne 5, 3) := by decide +kernel
theorem dX2_lives_40 : decode cX2_lives 40 = .ok (.iconst 1, 1) := by decide +kernel
theorem dX2_lives_41 : decode cX2_lives 41 = .ok (.ireturn, 1) := by decide +kernel
theorem dX2_lives_42 : decode cX2_lives 42 = .ok (.iinc 4 1, 3) := by decide +kernel
theorem dX2_lives_45 : decode cX2_lives 45 = .ok (.goto (-34), 3) := by decide +kernel
theorem dX2_lives_48 : decode cX2_lives 48 = .ok (.iconst 0, 1) := by decide +kernel
theorem dX2_lives_49 : decode cX2_lives 49 = .ok (.ireturn, 1) := by decide +kernel
theorem dX2_over_0 : decode cX2_over 0 = .ok (.aload_n 0, 1) := by decide +kernel
theorem dX2_over_1 : decode cX2_over 1 = .ok (.iconst 0, 1) := by decide +kernel
theorem dX2_over_2 : decode cX2_over 2 = .ok (.invokevirtual 61, 3) := by decide +kernel
theorem dX2_over_5 : decode cX2_over 5 = .ok (.ifCond .eq 11, 3) := by decide +kernel
theorem dX2_over_8 : decode cX2_over 8 = .ok (.aload_n 0, 1) := by decide +kernel
theorem dX2_over_9 : decode cX2_over 9 = .ok (.iconst 1, 1) := by decide +kernel
theorem dX2_over_10 : decode cX2_over 10 = .ok (.invokevirtual 61, 3) := by decide +kernel
theorem dX2_over_13 : decode cX2_over 13 = .ok (.ifCond .ne 7, 3) := by decide +kernel
theorem dX2_over_16 : decode cX2_over 16 = .ok (.iconst 1, 1) := by decide +kernel
theorem dX2_over_17 : decode cX2_over 17 = .ok (.goto 4, 3) := by decide +kernel
theorem dX2_over_20 : decode cX2_over 20 = .ok (.iconst 0, 1) := by decide +kernel
theorem dX2_over_21 : decode cX2_over 21 = .ok (.ireturn, 1) := by decide +kernel
theorem dX2_wonBy_0 : decode cX2_wonBy 0 = .ok (.aload_n 0, 1) := by decide +kernel
theorem dX2_wonBy_1 : decode cX2_wonBy 1 = .ok (.iconst 0, 1) := by decide +kernel
theorem dX2_wonBy_2 : decode cX2_wonBy 2 = .ok (.invokevirtual 61, 3) := by decide +kernel
theorem dX2_wonBy_5 : decode cX2_wonBy 5 = .ok (.aload_n 0, 1) := by decide +kernel
theorem dX2_wonBy_6 : decode cX2_wonBy 6 = .ok (.iconst 1, 1) := by decide +kernel
theorem dX2_wonBy_7 : decode cX2_wonBy 7 = .ok (.invokevirtual 61, 3) := by decide +kernel
theorem dX2_wonBy_10 : decode cX2_wonBy 10 = .ok (.if_icmp .ne 5, 3) := by decide +kernel
theorem dX2_wonBy_13 : decode cX2_wonBy 13 = .ok (.iconst (-1), 1) := by decide +kernel
theorem dX2_wonBy_14 : decode cX2_wonBy 14 = .ok (.ireturn, 1) := by decide +kernel
theorem dX2_wonBy_15 : decode cX2_wonBy 15 = .ok (.aload_n 0, 1) := by decide +kernel
theorem dX2_wonBy_16 : decode cX2_wonBy 16 = .ok (.iconst 0, 1) := by decide +kernel
theorem dX2_wonBy_17 : decode cX2_wonBy 17 = .ok (.invokevirtual 61, 3) := by decide +kernel
theorem dX2_wonBy_20 : decode cX2_wonBy 20 = .ok (.ifCond .eq 7, 3) := by decide +kernel
theorem dX2_wonBy_23 : decode cX2_wonBy 23 = .ok (.iconst 0, 1) := by decide +kernel
theorem dX2_wonBy_24 : decode cX2_wonBy 24 = .ok (.goto 4, 3) := by decide +kernel
theorem dX2_wonBy_27 : decode cX2_wonBy 27 = .ok (.iconst 1, 1) := by decide +kernel
theorem dX2_wonBy_28 : decode cX2_wonBy 28 = .ok (.ireturn, 1) := by decide +kernel
theorem dX2_inRow_0 : decode cX2_inRow 0 = .ok (.aload_n 0, 1) := by decide +kernel
theorem dX2_inRow_1 : decode cX2_inRow 1 = .ok (.getfield 11, 3) := by decide +kernel
theorem dX2_inRow_4 : decode cX2_inRow 4 = .ok (.astore_n 2, 1) := by decide +kernel
theorem dX2_inRow_5 : decode cX2_inRow 5 = .ok (.aload_n 2, 1) := by decide +kernel
theorem dX2_inRow_6 : decode cX2_inRow 6 = .ok (.arraylength, 1) := by decide +kernel
theorem dX2_inRow_7 : decode cX2_inRow 7 = .ok (.istore_n 3, 1) := by decide +kernel
theorem dX2_inRow_8 : decode cX2_inRow 8 = .ok (.iconst 0, 1) := by decide +kernel
theorem dX2_inRow_9 : decode cX2_inRow 9 = .ok (.istore 4, 2) := by decide +kernel
theorem dX2_inRow_11 : decode cX2_inRow 11 = .ok (.iload 4, 2) := by decide +kernel
theorem dX2_inRow_13 : decode cX2_inRow 13 = .ok (.iload_n 3, 1) := by decide +kernel
theorem dX2_inRow_14 : decode cX2_inRow 14 = .ok (.if_icmp .ge 36, 3) := by decide +kernel
theorem dX2_inRow_17 : decode cX2_inRow 17 = .ok (.aload_n 2, 1) := by decide +kernel
theorem dX2_inRow_18 : decode cX2_inRow 18 = .ok (.iload 4, 2) := by decide +kernel
theorem dX2_inRow_20 : decode cX2_inRow 20 = .ok (.aaload, 1) := by decide +kernel
theorem dX2_inRow_21 : decode cX2_inRow 21 = .ok (.astore 5, 2) := by decide +kernel
theorem dX2_inRow_23 : decode cX2_inRow 23 = .ok (.aload 5, 2) := by decide +kernel
theorem dX2_inRow_25 : decode cX2_inRow 25 = .ok (.getfield 52, 3) := by decide +kernel
theorem dX2_inRow_28 : decode cX2_inRow 28 = .ok (.ifCond .le 16, 3) := by decide +kernel
theorem dX2_inRow_31 : decode cX2_inRow 31 = .ok (.aload_n 0, 1) := by decide +kernel
theorem dX2_inRow_32 : decode cX2_inRow 32 = .ok (.aload 5, 2) := by decide +kernel
theorem dX2_inRow_34 : decode cX2_inRow 34 = .ok (.invokevirtual 65, 3) := by decide +kernel
theorem dX2_inRow_37 : decode cX2_inRow 37 = .ok (.iload_n 1, 1) := by decide +kernel
theorem dX2_inRow_38 : decode cX2_inRow 38 = .ok (.if_icmp .ne 6, 3) := by decide +kernel
theorem dX2_inRow_41 : decode cX2_inRow 41 = .ok (.aload 5, 2) := by decide +kernel
theorem dX2_inRow_43 : decode cX2_inRow 43 = .ok (.areturn, 1) := by decide +kernel
theorem dX2_inRow_44 : decode cX2_inRow 44 = .ok (.iinc 4 1, 3) := by decide +kernel
theorem dX2_inRow_47 : decode cX2_inRow 47 = .ok (.goto (-36), 3) := by decide +kernel
theorem dX2_inRow_50 : decode cX2_inRow 50 = .ok (.aload_n 0, 1) := by decide +kernel
theorem dX2_inRow_51 : decode cX2_inRow 51 = .ok (.getfield 20, 3) := by decide +kernel
theorem dX2_inRow_54 : decode cX2_inRow 54 = .ok (.areturn, 1) := by decide +kernel
theorem dX2_aheadOf_0 : decode cX2_aheadOf 0 = .ok (.iconst 0, 1) := by decide +kernel
theorem dX2_aheadOf_1 : decode cX2_aheadOf 1 = .ok (.istore_n 2, 1) := by decide +kernel
theorem dX2_aheadOf_2 : decode cX2_aheadOf 2 = .ok (.aload_n 0, 1) := by decide +kernel
theorem dX2_aheadOf_3 : decode cX2_aheadOf 3 = .ok (.getfield 11, 3) := by decide +kernel
theorem dX2_aheadOf_6 : decode cX2_aheadOf 6 = .ok (.astore_n 3, 1) := by decide +kernel
theorem dX2_aheadOf_7 : decode cX2_aheadOf 7 = .ok (.aload_n 3, 1) := by decide +kernel
theorem dX2_aheadOf_8 : decode cX2_aheadOf 8 = .ok (.arraylength, 1) := by decide +kernel
theorem dX2_aheadOf_9 : decode cX2_aheadOf 9 = .ok (.istore 4, 2) := by decide +kernel
theorem dX2_aheadOf_11 : decode cX2_aheadOf 11 = .ok (.iconst 0, 1) := by decide +kernel
theorem dX2_aheadOf_12 : decode cX2_aheadOf 12 = .ok (.istore 5, 2) := by decide +kernel
theorem dX2_aheadOf_14 : decode cX2_aheadOf 14 = .ok (.iload 5, 2) := by decide +kernel
theorem dX2_aheadOf_16 : decode cX2_aheadOf 16 = .ok (.iload 4, 2) := by decide +kernel
theorem dX2_aheadOf_18 : decode cX2_aheadOf 18 = .ok (.if_icmp .ge 36, 3) := by decide +kernel
theorem dX2_aheadOf_21 : decode cX2_aheadOf 21 = .ok (.aload_n 3, 1) := by decide +kernel
theorem dX2_aheadOf_22 : decode cX2_aheadOf 22 = .ok (.iload 5, 2) := by decide +kernel
theorem dX2_aheadOf_24 : decode cX2_aheadOf 24 = .ok (.aaload, 1) := by decide +kernel
theorem dX2_aheadOf_25 : decode cX2_aheadOf 25 = .ok (.astore 6, 2) := by decide +kernel
theorem dX2_aheadOf_27 : decode cX2_aheadOf 27 = .ok (.aload 6, 2) := by decide +kernel
theorem dX2_aheadOf_29 : decode cX2_aheadOf 29 = .ok (.getfield 52, 3) := by decide +kernel
theorem dX2_aheadOf_32 : decode cX2_aheadOf 32 = .ok (.ifCond .le 16, 3) := by decide +kernel
theorem dX2_aheadOf_35 : decode cX2_aheadOf 35 = .ok (.aload_n 0, 1) := by decide +kernel
theorem dX2_aheadOf_36 : decode cX2_aheadOf 36 = .ok (.aload 6, 2) := by decide +kernel
theorem dX2_aheadOf_38 : decode cX2_aheadOf 38 = .ok (.aload_n 1, 1) := by decide +kernel
theorem dX2_aheadOf_39 : decode cX2_aheadOf 39 = .ok (.invokevirtual 69, 3) := by decide +kernel
theorem dX2_aheadOf_42 : decode cX2_aheadOf 42 = .ok (.ifCond .eq 6, 3) := by decide +kernel
theorem dX2_aheadOf_45 : decode cX2_aheadOf 45 = .ok (.iinc 2 1, 3) := by decide +kernel
theorem dX2_aheadOf_48 : decode cX2_aheadOf 48 = .ok (.iinc 5 1, 3) := by decide +kernel
theorem dX2_aheadOf_51 : decode cX2_aheadOf 51 = .ok (.goto (-37), 3) := by decide +kernel
theorem dX2_aheadOf_54 : decode cX2_aheadOf 54 = .ok (.iload_n 2, 1) := by decide +kernel
theorem dX2_aheadOf_55 : decode cX2_aheadOf 55 = .ok (.ireturn, 1) := by decide +kernel
theorem dX2_isAhead_0 : decode cX2_isAhead 0 = .ok (.aload_n 1, 1) := by decide +kernel
theorem dX2_isAhead_1 : decode cX2_isAhead 1 = .ok (.aload_n 0, 1) := by decide +kernel
theorem dX2_isAhead_2 : decode cX2_isAhead 2 = .ok (.getfield 28, 3) := by decide +kernel
theorem dX2_isAhead_5 : decode cX2_isAhead 5 = .ok (.invokevirtual 73, 3) := by decide +kernel
theorem dX2_isAhead_8 : decode cX2_isAhead 8 = .ok (.istore_n 3, 1) := by decide +kernel
theorem dX2_isAhead_9 : decode cX2_isAhead 9 = .ok (.aload_n 2, 1) := by decide +kernel
theorem dX2_isAhead_10 : decode cX2_isAhead 10 = .ok (.aload_n 0, 1) := by decide +kernel
theorem dX2_isAhead_11 : decode cX2_isAhead 11 = .ok (.getfield 28, 3) := by decide +kernel
theorem dX2_isAhead_14 : decode cX2_isAhead 14 = .ok (.invokevirtual 73, 3) := by decide +kernel
theorem dX2_isAhead_17 : decode cX2_isAhead 17 = .ok (.istore 4, 2) := by decide +kernel
theorem dX2_isAhead_19 : decode cX2_isAhead 19 = .ok (.iload_n 3, 1) := by decide +kernel
theorem dX2_isAhead_20 : decode cX2_isAhead 20 = .ok (.iload 4, 2) := by decide +kernel
theorem dX2_isAhead_22 : decode cX2_isAhead 22 = .ok (.if_icmp .eq 15, 3) := by decide +kernel
theorem dX2_isAhead_25 : decode cX2_isAhead 25 = .ok (.iload_n 3, 1) := by decide +kernel
theorem dX2_isAhead_26 : decode cX2_isAhead 26 = .ok (.iload 4, 2) := by decide +kernel
theorem dX2_isAhead_28 : decode cX2_isAhead 28 = .ok (.if_icmp .ge 7, 3) := by decide +kernel
theorem dX2_isAhead_31 : decode cX2_isAhead 31 = .ok (.iconst 1, 1) := by decide +kernel
theorem dX2_isAhead_32 : decode cX2_isAhead 32 = .ok (.goto 4, 3) := by decide +kernel
theorem dX2_isAhead_35 : decode cX2_isAhead 35 = .ok (.iconst 0, 1) := by decide +kernel
theorem dX2_isAhead_36 : decode cX2_isAhead 36 = .ok (.ireturn, 1) := by decide +kernel
theorem dX2_isAhead_37 : decode cX2_isAhead 37 = .ok (.aload_n 1, 1) := by decide +kernel
theorem dX2_isAhead_38 : decode cX2_isAhead 38 = .ok (.getfield 77, 3) := by decide +kernel
theorem dX2_isAhead_41 : decode cX2_isAhead 41 = .ok (.aload_n 2, 1) := by decide +kernel
theorem dX2_isAhead_42 : decode cX2_isAhead 42 = .ok (.getfield 77, 3) := by decide +kernel
theorem dX2_isAhead_45 : decode cX2_isAhead 45 = .ok (.if_icmp .eq 22, 3) := by decide +kernel
theorem dX2_isAhead_48 : decode cX2_isAhead 48 = .ok (.aload_n 1, 1) := by decide +kernel
theorem dX2_isAhead_49 : decode cX2_isAhead 49 = .ok (.getfield 77, 3) := by decide +kernel
theorem dX2_isAhead_52 : decode cX2_isAhead 52 = .ok (.aload_n 2, 1) := by decide +kernel
theorem dX2_isAhead_53 : decode cX2_isAhead 53 = .ok (.getfield 77, 3) := by decide +kernel
theorem dX2_isAhead_56 : decode cX2_isAhead 56 = .ok (.if_icmp .le 7, 3) := by decide +kernel
theorem dX2_isAhead_59 : decode cX2_isAhead 59 = .ok (.iconst 1, 1) := by decide +kernel
theorem dX2_isAhead_60 : decode cX2_isAhead 60 = .ok (.goto 23, 3) := by decide +kernel
theorem dX2_isAhead_63 : decode cX2_isAhead 63 = .ok (.iconst 0, 1) := by decide +kernel
theorem dX2_isAhead_64 : decode cX2_isAhead 64 = .ok (.goto 19, 3) := by decide +kernel
theorem dX2_isAhead_67 : decode cX2_isAhead 67 = .ok (.aload_n 1, 1) := by decide +kernel
theorem dX2_isAhead_68 : decode cX2_isAhead 68 = .ok (.getfield 41, 3) := by decide +kernel
theorem dX2_isAhead_71 : decode cX2_isAhead 71 = .ok (.aload_n 2, 1) := by decide +kernel
theorem dX2_isAhead_72 : decode cX2_isAhead 72 = .ok (.getfield 41, 3) := by decide +kernel
theorem dX2_isAhead_75 : decode cX2_isAhead 75 = .ok (.if_icmp .ge 7, 3) := by decide +kernel
theorem dX2_isAhead_78 : decode cX2_isAhead 78 = .ok (.iconst 1, 1) := by decide +kernel
theorem dX2_isAhead_79 : decode cX2_isAhead 79 = .ok (.goto 4, 3) := by decide +kernel
theorem dX2_isAhead_82 : decode cX2_isAhead 82 = .ok (.iconst 0, 1) := by decide +kernel
theorem dX2_isAhead_83 : decode cX2_isAhead 83 = .ok (.ireturn, 1) := by decide +kernel
theorem dX2_bringNext_0 : decode cX2_bringNext 0 = .ok (.aload_n 0, 1) := by decide +kernel
theorem dX2_bringNext_1 : decode cX2_bringNext 1 = .ok (.invokevirtual 80, 3) := by decide +kernel
theorem dX2_bringNext_4 : decode cX2_bringNext 4 = .ok (.ifCond .eq 8, 3) := by decide +kernel
theorem dX2_bringNext_7 : decode cX2_bringNext 7 = .ok (.aload_n 0, 1) := by decide +kernel
theorem dX2_bringNext_8 : decode cX2_bringNext 8 = .ok (.getfield 20, 3) := by decide +kernel
theorem dX2_bringNext_11 : decode cX2_bringNext 11 = .ok (.areturn, 1) := by decide +kernel
theorem dX2_bringNext_12 : decode cX2_bringNext 12 = .ok (.aload_n 0, 1) := by decide +kernel
theorem dX2_bringNext_13 : decode cX2_bringNext 13 = .ok (.invokevirtual 84, 3) := by decide +kernel
theorem dX2_bringNext_16 : decode cX2_bringNext 16 = .ok (.astore_n 1, 1) := by decide +kernel
theorem dX2_bringNext_17 : decode cX2_bringNext 17 = .ok (.aload_n 1, 1) := by decide +kernel
theorem dX2_bringNext_18 : decode cX2_bringNext 18 = .ok (.aload_n 0, 1) := by decide +kernel
theorem dX2_bringNext_19 : decode cX2_bringNext 19 = .ok (.getfield 20, 3) := by decide +kernel
theorem dX2_bringNext_22 : decode cX2_bringNext 22 = .ok (.if_acmp .eq 5, 3) := by decide +kernel
theorem dX2_bringNext_25 : decode cX2_bringNext 25 = .ok (.aload_n 1, 1) := by decide +kernel
theorem dX2_bringNext_26 : decode cX2_bringNext 26 = .ok (.areturn, 1) := by decide +kernel
theorem dX2_bringNext_27 : decode cX2_bringNext 27 = .ok (.aload_n 0, 1) := by decide +kernel
theorem dX2_bringNext_28 : decode cX2_bringNext 28 = .ok (.aload_n 0, 1) := by decide +kernel
theorem dX2_bringNext_29 : decode cX2_bringNext 29 = .ok (.invokevirtual 88, 3) := by decide +kernel
theorem dX2_bringNext_32 : decode cX2_bringNext 32 = .ok (.invokevirtual 92, 3) := by decide +kernel
theorem dX2_bringNext_35 : decode cX2_bringNext 35 = .ok (.aload_n 0, 1) := by decide +kernel
theorem dX2_bringNext_36 : decode cX2_bringNext 36 = .ok (.invokevirtual 95, 3) := by decide +kernel
theorem dX2_bringNext_39 : decode cX2_bringNext 39 = .ok (.areturn, 1) := by decide +kernel
theorem dX2_firstWithExtra_0 : decode cX2_firstWithExtra 0 = .ok (.aload_n 0, 1) := by decide +kernel
theorem dX2_firstWithExtra_1 : decode cX2_firstWithExtra 1 = .ok (.getfield 11, 3) := by decide +kernel
theorem dX2_firstWithExtra_4 : decode cX2_firstWithExtra 4 = .ok (.astore_n 1, 1) := by decide +kernel
theorem dX2_firstWithExtra_5 : decode cX2_firstWithExtra 5 = .ok (.aload_n 1, 1) := by decide +kernel
theorem dX2_firstWithExtra_6 : decode cX2_firstWithExtra 6 = .ok (.arraylength, 1) := by decide +kernel
theorem dX2_firstWithExtra_7 : decode cX2_firstWithExtra 7 = .ok (.istore_n 2, 1) := by decide +kernel
theorem dX2_firstWithExtra_8 : decode cX2_firstWithExtra 8 = .ok (.iconst 0, 1) := by decide +kernel
theorem dX2_firstWithExtra_9 : decode cX2_firstWithExtra 9 = .ok (.istore_n 3, 1) := by decide +kernel
theorem dX2_firstWithExtra_10 : decode cX2_firstWithExtra 10 = .ok (.iload_n 3, 1) := by decide +kernel
theorem dX2_firstWithExtra_11 : decode cX2_firstWithExtra 11 = .ok (.iload_n 2, 1) := by decide +kernel
theorem dX2_firstWithExtra_12 : decode cX2_firstWithExtra 12 = .ok (.if_icmp .ge 33, 3) := by decide +kernel
theorem dX2_firstWithExtra_15 : decode cX2_firstWithExtra 15 = .ok (.aload_n 1, 1) := by decide +kernel
theorem dX2_firstWithExtra_16 : decode cX2_firstWithExtra 16 = .ok (.iload_n 3, 1) := by decide +kernel
theorem dX2_firstWithExtra_17 : decode cX2_firstWithExtra 17 = .ok (.aaload, 1) := by decide +kernel
theorem dX2_firstWithExtra_18 : decode cX2_firstWithExtra 18 = .ok (.astore 4, 2) := by decide +kernel
theorem dX2_firstWithExtra_20 : decode cX2_firstWithExtra 20 = .ok (.aload 4, 2) := by decide +kernel
theorem dX2_firstWithExtra_22 : decode cX2_firstWithExtra 22 = .ok (.getfield 52, 3) := by decide +kernel
theorem dX2_firstWithExtra_25 : decode cX2_firstWithExtra 25 = .ok (.ifCond .le 14, 3) := by decide +kernel
theorem dX2_firstWithExtra_28 : decode cX2_firstWithExtra 28 = .ok (.aload 4, 2) := by decide +kernel
theorem dX2_firstWithExtra_30 : decode cX2_firstWithExtra 30 = .ok (.getfield 98, 3) := by decide +kernel
theorem dX2_firstWithExtra_33 : decode cX2_firstWithExtra 33 = .ok (.ifCond .le 6, 3) := by decide +kernel
theorem dX2_firstWithExtra_36 : decode cX2_firstWithExtra 36 = .ok (.aload 4, 2) := by decide +kernel
theorem dX2_firstWithExtra_38 : decode cX2_firstWithExtra 38 = .ok (.areturn, 1) := by decide +kernel
theorem dX2_firstWithExtra_39 : decode cX2_firstWithExtra 39 = .ok (.iinc 3 1, 3) := by decide +kernel
theorem dX2_firstWithExtra_42 : decode cX2_firstWithExtra 42 = .ok (.goto (-32), 3) := by decide +kernel
theorem dX2_firstWithExtra_45 : decode cX2_firstWithExtra 45 = .ok (.aload_n 0, 1) := by decide +kernel
theorem dX2_firstWithExtra_46 : decode cX2_firstWithExtra 46 = .ok (.getfield 20, 3) := by decide +kernel
theorem dX2_firstWithExtra_49 : decode cX2_firstWithExtra 49 = .ok (.areturn, 1) := by decide +kernel
theorem dX2_firstReady_0 : decode cX2_firstReady 0 = .ok (.aload_n 0, 1) := by decide +kernel
theorem dX2_firstReady_1 : decode cX2_firstReady 1 = .ok (.getfield 20, 3) := by decide +kernel
theorem dX2_firstReady_4 : decode cX2_firstReady 4 = .ok (.astore_n 1, 1) := by decide +kernel
theorem dX2_firstReady_5 : decode cX2_firstReady 5 = .ok (.aload_n 0, 1) := by decide +kernel
theorem dX2_firstReady_6 : decode cX2_firstReady 6 = .ok (.getfield 11, 3) := by decide +kernel
theorem dX2_firstReady_9 : decode cX2_firstReady 9 = .ok (.astore_n 2, 1) := by decide +kernel
theorem dX2_firstReady_10 : decode cX2_firstReady 10 = .ok (.aload_n 2, 1) := by decide +kernel
theorem dX2_firstReady_11 : decode cX2_firstReady 11 = .ok (.arraylength, 1) := by decide +kernel
theorem dX2_firstReady_12 : decode cX2_firstReady 12 = .ok (.istore_n 3, 1) := by decide +kernel
theorem dX2_firstReady_13 : decode cX2_firstReady 13 = .ok (.iconst 0, 1) := by decide +kernel
theorem dX2_firstReady_14 : decode cX2_firstReady 14 = .ok (.istore 4, 2) := by decide +kernel
theorem dX2_firstReady_16 : decode cX2_firstReady 16 = .ok (.iload 4, 2) := by decide +kernel
theorem dX2_firstReady_18 : decode cX2_firstReady 18 = .ok (.iload_n 3, 1) := by decide +kernel
theorem dX2_firstReady_19 : decode cX2_firstReady 19 = .ok (.if_icmp .ge 82, 3) := by decide +kernel
theorem dX2_firstReady_22 : decode cX2_firstReady 22 = .ok (.aload_n 2, 1) := by decide +kernel
theorem dX2_firstReady_23 : decode cX2_firstReady 23 = .ok (.iload 4, 2) := by decide +kernel
theorem dX2_firstReady_25 : decode cX2_firstReady 25 = .ok (.aaload, 1) := by decide +kernel
theorem dX2_firstReady_26 : decode cX2_firstReady 26 = .ok (.astore 5, 2) := by decide +kernel
theorem dX2_firstReady_28 : decode cX2_firstReady 28 = .ok (.aload 5, 2) := by decide +kernel
theorem dX2_firstReady_30 : decode cX2_firstReady 30 = .ok (.getfield 52, 3) := by decide +kernel
theorem dX2_firstReady_33 : decode cX2_firstReady 33 = .ok (.ifCond .le 62, 3) := by decide +kernel
theorem dX2_firstReady_36 : decode cX2_firstReady 36 = .ok (.aload 5, 2) := by decide +kernel
theorem dX2_firstReady_38 : decode cX2_firstReady 38 = .ok (.getfield 101, 3) := by decide +kernel
theorem dX2_firstReady_41 : decode cX2_firstReady 41 = .ok (.aload_n 0, 1) := by decide +kernel
theorem dX2_firstReady_42 : decode cX2_firstReady 42 = .ok (.getfield 28, 3) := by decide +kernel
theorem dX2_firstReady_45 : decode cX2_firstReady 45 = .ok (.if_icmp .lt 50, 3) := by decide +kernel
theorem dX2_firstReady_48 : decode cX2_firstReady 48 = .ok (.aload_n 1, 1) := by decide +kernel
theorem dX2_firstReady_49 : decode cX2_firstReady 49 = .ok (.aload_n 0, 1) := by decide +kernel
theorem dX2_firstReady_50 : decode cX2_firstReady 50 = .ok (.getfield 20, 3) := by decide +kernel
theorem dX2_firstReady_53 : decode cX2_firstReady 53 = .ok (.if_acmp .eq 39, 3) := by decide +kernel
theorem dX2_firstReady_56 : decode cX2_firstReady 56 = .ok (.aload 5, 2) := by decide +kernel
theorem dX2_firstReady_58 : decode cX2_firstReady 58 = .ok (.getfield 101, 3) := by decide +kernel
theorem dX2_firstReady_61 : decode cX2_firstReady 61 = .ok (.aload_n 1, 1) := by decide +kernel
theorem dX2_firstReady_62 : decode cX2_firstReady 62 = .ok (.getfield 101, 3) := by decide +kernel
theorem dX2_firstReady_65 : decode cX2_firstReady 65 = .ok (.if_icmp .gt 27, 3) := by decide +kernel
theorem dX2_firstReady_68 : decode cX2_firstReady 68 = .ok (.aload 5, 2) := by decide +kernel
theorem dX2_firstReady_70 : decode cX2_firstReady 70 = .ok (.getfield 101, 3) := by decide +kernel
theorem dX2_firstReady_73 : decode cX2_firstReady 73 = .ok (.aload_n 1, 1) := by decide +kernel
theorem dX2_firstReady_74 : decode cX2_firstReady 74 = .ok (.getfield 101, 3) := by decide +kernel
theorem dX2_firstReady_77 : decode cX2_firstReady 77 = .ok (.if_icmp .ne 18, 3) := by decide +kernel
theorem dX2_firstReady_80 : decode cX2_firstReady 80 = .ok (.aload 5, 2) := by decide +kernel
theorem dX2_firstReady_82 : decode cX2_firstReady 82 = .ok (.getfield 77, 3) := by decide +kernel
theorem dX2_firstReady_85 : decode cX2_firstReady 85 = .ok (.aload_n 1, 1) := by decide +kernel
theorem dX2_firstReady_86 : decode cX2_firstReady 86 = .ok (.getfield 77, 3) := by decide +kernel
theorem dX2_firstReady_89 : decode cX2_firstReady 89 = .ok (.if_icmp .le 6, 3) := by decide +kernel
theorem dX2_firstReady_92 : decode cX2_firstReady 92 = .ok (.aload 5, 2) := by decide +kernel
theorem dX2_firstReady_94 : decode cX2_firstReady 94 = .ok (.astore_n 1, 1) := by decide +kernel
theorem dX2_firstReady_95 : decode cX2_firstReady 95 = .ok (.iinc 4 1, 3) := by decide +kernel
theorem dX2_firstReady_98 : decode cX2_firstReady 98 = .ok (.goto (-82), 3) := by decide +kernel
theorem dX2_firstReady_101 : decode cX2_firstReady 101 = .ok (.aload_n 1, 1) := by decide +kernel
theorem dX2_firstReady_102 : decode cX2_firstReady 102 = .ok (.areturn, 1) := by decide +kernel
theorem dX2_ticksToFirst_0 : decode cX2_ticksToFirst 0 = .ok (.sipush 999, 3) := by decide +kernel
theorem dX2_ticksToFirst_3 : decode cX2_ticksToFirst 3 = .ok (.istore_n 1, 1) := by decide +kernel
theorem dX2_ticksToFirst_4 : decode cX2_ticksToFirst 4 = .ok (.aload_n 0, 1) := by decide +kernel
theorem dX2_ticksToFirst_5 : decode cX2_ticksToFirst 5 = .ok (.getfield 11, 3) := by decide +kernel
theorem dX2_ticksToFirst_8 : decode cX2_ticksToFirst 8 = .ok (.astore_n 2, 1) := by decide +kernel
theorem dX2_ticksToFirst_9 : decode cX2_ticksToFirst 9 = .ok (.aload_n 2, 1) := by decide +kernel
theorem dX2_ticksToFirst_10 : decode cX2_ticksToFirst 10 = .ok (.arraylength, 1) := by decide +kernel
theorem dX2_ticksToFirst_11 : decode cX2_ticksToFirst 11 = .ok (.istore_n 3, 1) := by decide +kernel
theorem dX2_ticksToFirst_12 : decode cX2_ticksToFirst 12 = .ok (.iconst 0, 1) := by decide +kernel
theorem dX2_ticksToFirst_13 : decode cX2_ticksToFirst 13 = .ok (.istore 4, 2) := by decide +kernel
theorem dX2_ticksToFirst_15 : decode cX2_ticksToFirst 15 = .ok (.iload 4, 2) := by decide +kernel
theorem dX2_ticksToFirst_17 : decode cX2_ticksToFirst 17 = .ok (.iload_n 3, 1) := by decide +kernel
theorem dX2_ticksToFirst_18 : decode cX2_ticksToFirst 18 = .ok (.if_icmp .ge 37, 3) := by decide +kernel
theorem dX2_ticksToFirst_21 : decode cX2_ticksToFirst 21 = .ok (.aload_n 2, 1) := by decide +kernel
theorem dX2_ticksToFirst_22 : decode cX2_ticksToFirst 22 = .ok (.iload 4, 2) := by decide +kernel
theorem dX2_ticksToFirst_24 : decode cX2_ticksToFirst 24 = .ok (.aaload, 1) := by decide +kernel
theorem dX2_ticksToFirst_25 : decode cX2_ticksToFirst 25 = .ok (.astore 5, 2) := by decide +kernel
theorem dX2_ticksToFirst_27 : decode cX2_ticksToFirst 27 = .ok (.aload 5, 2) := by decide +kernel
theorem dX2_ticksToFirst_29 : decode cX2_ticksToFirst 29 = .ok (.getfield 52, 3) := by decide +kernel
theorem dX2_ticksToFirst_32 : decode cX2_ticksToFirst 32 = .ok (.ifCond .le 17, 3) := by decide +kernel
theorem dX2_ticksToFirst_35 : decode cX2_ticksToFirst 35 = .ok (.iload_n 1, 1) := by decide +kernel
theorem dX2_ticksToFirst_36 : decode cX2_ticksToFirst 36 = .ok (.aload 5, 2) := by decide +kernel
theorem dX2_ticksToFirst_38 : decode cX2_ticksToFirst 38 = .ok (.aload_n 0, 1) := by decide +kernel
theorem dX2_ticksToFirst_39 : decode cX2_ticksToFirst 39 = .ok (.getfield 28, 3) := by decide +kernel
theorem dX2_ticksToFirst_42 : decode cX2_ticksToFirst 42 = .ok (.invokevirtual 73, 3) := by decide +kernel
theorem dX2_ticksToFirst_45 : decode cX2_ticksToFirst 45 = .ok (.invokestatic 104, 3) := by decide +kernel
theorem dX2_ticksToFirst_48 : decode cX2_ticksToFirst 48 = .ok (.istore_n 1, 1) := by decide +kernel
theorem dX2_ticksToFirst_49 : decode cX2_ticksToFirst 49 = .ok (.iinc 4 1, 3) := by decide +kernel
theorem dX2_ticksToFirst_52 : decode cX2_ticksToFirst 52 = .ok (.goto (-37), 3) := by decide +kernel
theorem dX2_ticksToFirst_55 : decode cX2_ticksToFirst 55 = .ok (.iload_n 1, 1) := by decide +kernel
theorem dX2_ticksToFirst_56 : decode cX2_ticksToFirst 56 = .ok (.ireturn, 1) := by decide +kernel
theorem dX2_pass_0 : decode cX2_pass 0 = .ok (.aload_n 0, 1) := by decide +kernel
theorem dX2_pass_1 : decode cX2_pass 1 = .ok (.dup, 1) := by decide +kernel
theorem dX2_pass_2 : decode cX2_pass 2 = .ok (.getfield 31, 3) := by decide +kernel
theorem dX2_pass_5 : decode cX2_pass 5 = .ok (.iload_n 1, 1) := by decide +kernel
theorem dX2_pass_6 : decode cX2_pass 6 = .ok (.iadd, 1) := by decide +kernel
theorem dX2_pass_7 : decode cX2_pass 7 = .ok (.putfield 31, 3) := by decide +kernel
theorem dX2_pass_10 : decode cX2_pass 10 = .ok (.aload_n 0, 1) := by decide +kernel
theorem dX2_pass_11 : decode cX2_pass 11 = .ok (.getfield 11, 3) := by decide +kernel
theorem dX2_pass_14 : decode cX2_pass 14 = .ok (.astore_n 2, 1) := by decide +kernel
theorem dX2_pass_15 : decode cX2_pass 15 = .ok (.aload_n 2, 1) := by decide +kernel
theorem dX2_pass_16 : decode cX2_pass 16 = .ok (.arraylength, 1) := by decide +kernel
theorem dX2_pass_17 : decode cX2_pass 17 = .ok (.istore_n 3, 1) := by decide +kernel
theorem dX2_pass_18 : decode cX2_pass 18 = .ok (.iconst 0, 1) := by decide +kernel
theorem dX2_pass_19 : decode cX2_pass 19 = .ok (.istore 4, 2) := by decide +kernel
theorem dX2_pass_21 : decode cX2_pass 21 = .ok (.iload 4, 2) := by decide +kernel
theorem dX2_pass_23 : decode cX2_pass 23 = .ok (.iload_n 3, 1) := by decide +kernel
theorem dX2_pass_24 : decode cX2_pass 24 = .ok (.if_icmp .ge 40, 3) := by decide +kernel
theorem dX2_pass_27 : decode cX2_pass 27 = .ok (.aload_n 2, 1) := by decide +kernel
theorem dX2_pass_28 : decode cX2_pass 28 = .ok (.iload 4, 2) := by decide +kernel
theorem dX2_pass_30 : decode cX2_pass 30 = .ok (.aaload, 1) := by decide +kernel
theorem dX2_pass_31 : decode cX2_pass 31 = .ok (.astore 5, 2) := by decide +kernel
theorem dX2_pass_33 : decode cX2_pass 33 = .ok (.aload 5, 2) := by decide +kernel
theorem dX2_pass_35 : decode cX2_pass 35 = .ok (.getfield 52, 3) := by decide +kernel
theorem dX2_pass_38 : decode cX2_pass 38 = .ok (.ifCond .le 20, 3) := by decide +kernel
theorem dX2_pass_41 : decode cX2_pass 41 = .ok (.aload 5, 2) := by decide +kernel
theorem dX2_pass_43 : decode cX2_pass 43 = .ok (.dup, 1) := by decide +kernel
theorem dX2_pass_44 : decode cX2_pass 44 = .ok (.getfield 101, 3) := by decide +kernel
theorem dX2_pass_47 : decode cX2_pass 47 = .ok (.iload_n 1, 1) := by decide +kernel
theorem dX2_pass_48 : decode cX2_pass 48 = .ok (.aload 5, 2) := by decide +kernel
theorem dX2_pass_50 : decode cX2_pass 50 = .ok (.getfield 55, 3) := by decide +kernel
theorem dX2_pass_53 : decode cX2_pass 53 = .ok (.imul, 1) := by decide +kernel
theorem dX2_pass_54 : decode cX2_pass 54 = .ok (.iadd, 1) := by decide +kernel
theorem dX2_pass_55 : decode cX2_pass 55 = .ok (.putfield 101, 3) := by decide +kernel
theorem dX2_pass_58 : decode cX2_pass 58 = .ok (.iinc 4 1, 3) := by decide +kernel
theorem dX2_pass_61 : decode cX2_pass 61 = .ok (.goto (-40), 3) := by decide +kernel
theorem dX2_pass_64 : decode cX2_pass 64 = .ok (.return_, 1) := by decide +kernel
theorem dX2_takeTurn_0 : decode cX2_takeTurn 0 = .ok (.aload_n 0, 1) := by decide +kernel
theorem dX2_takeTurn_1 : decode cX2_takeTurn 1 = .ok (.dup, 1) := by decide +kernel
theorem dX2_takeTurn_2 : decode cX2_takeTurn 2 = .ok (.getfield 34, 3) := by decide +kernel
theorem dX2_takeTurn_5 : decode cX2_takeTurn 5 = .ok (.iconst 1, 1) := by decide +kernel
theorem dX2_takeTurn_6 : decode cX2_takeTurn 6 = .ok (.iadd, 1) := by decide +kernel
theorem dX2_takeTurn_7 : decode cX2_takeTurn 7 = .ok (.putfield 34, 3) := by decide +kernel
theorem dX2_takeTurn_10 : decode cX2_takeTurn 10 = .ok (.aload_n 1, 1) := by decide +kernel
theorem dX2_takeTurn_11 : decode cX2_takeTurn 11 = .ok (.dup, 1) := by decide +kernel
theorem dX2_takeTurn_12 : decode cX2_takeTurn 12 = .ok (.getfield 110, 3) := by decide +kernel
theorem dX2_takeTurn_15 : decode cX2_takeTurn 15 = .ok (.iconst 1, 1) := by decide +kernel
theorem dX2_takeTurn_16 : decode cX2_takeTurn 16 = .ok (.iadd, 1) := by decide +kernel
theorem dX2_takeTurn_17 : decode cX2_takeTurn 17 = .ok (.putfield 110, 3) := by decide +kernel
theorem dX2_takeTurn_20 : decode cX2_takeTurn 20 = .ok (.aload_n 1, 1) := by decide +kernel
theorem dX2_takeTurn_21 : decode cX2_takeTurn 21 = .ok (.getfield 98, 3) := by decide +kernel
theorem dX2_takeTurn_24 : decode cX2_takeTurn 24 = .ok (.ifCond .le 26, 3) := by decide +kernel
theorem dX2_takeTurn_27 : decode cX2_takeTurn 27 = .ok (.aload_n 1, 1) := by decide +kernel
theorem dX2_takeTurn_28 : decode cX2_takeTurn 28 = .ok (.dup, 1) := by decide +kernel
theorem dX2_takeTurn_29 : decode cX2_takeTurn 29 = .ok (.getfield 98, 3) := by decide +kernel
theorem dX2_takeTurn_32 : decode cX2_takeTurn 32 = .ok (.iconst 1, 1) := by decide +kernel
theorem dX2_takeTurn_33 : decode cX2_takeTurn 33 = .ok (.isub, 1) := by decide +kernel
theorem dX2_takeTurn_34 : decode cX2_takeTurn 34 = .ok (.putfield 98, 3) := by decide +kernel
theorem dX2_takeTurn_37 : decode cX2_takeTurn 37 = .ok (.aload_n 1, 1) := by decide +kernel
theorem dX2_takeTurn_38 : decode cX2_takeTurn 38 = .ok (.dup, 1) := by decide +kernel
theorem dX2_takeTurn_39 : decode cX2_takeTurn 39 = .ok (.getfield 111, 3) := by decide +kernel
theorem dX2_takeTurn_42 : decode cX2_takeTurn 42 = .ok (.iconst 1, 1) := by decide +kernel
theorem dX2_takeTurn_43 : decode cX2_takeTurn 43 = .ok (.iadd, 1) := by decide +kernel
theorem dX2_takeTurn_44 : decode cX2_takeTurn 44 = .ok (.putfield 111, 3) := by decide +kernel
theorem dX2_takeTurn_47 : decode cX2_takeTurn 47 = .ok (.goto 16, 3) := by decide +kernel
theorem dX2_takeTurn_50 : decode cX2_takeTurn 50 = .ok (.aload_n 1, 1) := by decide +kernel
theorem dX2_takeTurn_51 : decode cX2_takeTurn 51 = .ok (.dup, 1) := by decide +kernel
theorem dX2_takeTurn_52 : decode cX2_takeTurn 52 = .ok (.getfield 101, 3) := by decide +kernel
theorem dX2_takeTurn_55 : decode cX2_takeTurn 55 = .ok (.aload_n 0, 1) := by decide +kernel
theorem dX2_takeTurn_56 : decode cX2_takeTurn 56 = .ok (.getfield 28, 3) := by decide +kernel
theorem dX2_takeTurn_59 : decode cX2_takeTurn 59 = .ok (.isub, 1) := by decide +kernel
theorem dX2_takeTurn_60 : decode cX2_takeTurn 60 = .ok (.putfield 101, 3) := by decide +kernel
theorem dX2_takeTurn_63 : decode cX2_takeTurn 63 = .ok (.aload_n 1, 1) := by decide +kernel
theorem dX2_takeTurn_64 : decode cX2_takeTurn 64 = .ok (.iconst 0, 1) := by decide +kernel
theorem dX2_takeTurn_65 : decode cX2_takeTurn 65 = .ok (.putfield 114, 3) := by decide +kernel
theorem dX2_takeTurn_68 : decode cX2_takeTurn 68 = .ok (.aload_n 0, 1) := by decide +kernel
theorem dX2_takeTurn_69 : decode cX2_takeTurn 69 = .ok (.aload_n 1, 1) := by decide +kernel
theorem dX2_takeTurn_70 : decode cX2_takeTurn 70 = .ok (.aload_n 1, 1) := by decide +kernel
theorem dX2_takeTurn_71 : decode cX2_takeTurn 71 = .ok (.aload_n 1, 1) := by decide +kernel
theorem dX2_takeTurn_72 : decode cX2_takeTurn 72 = .ok (.getfield 117, 3) := by decide +kernel
theorem dX2_takeTurn_75 : decode cX2_takeTurn 75 = .ok (.invokevirtual 120, 3) := by decide +kernel
theorem dX2_takeTurn_78 : decode cX2_takeTurn 78 = .ok (.invokevirtual 123, 3) := by decide +kernel
theorem dX2_takeTurn_81 : decode cX2_takeTurn 81 = .ok (.aload_n 1, 1) := by decide +kernel
theorem dX2_takeTurn_82 : decode cX2_takeTurn 82 = .ok (.aload_n 1, 1) := by decide +kernel
theorem dX2_takeTurn_83 : decode cX2_takeTurn 83 = .ok (.getfield 117, 3) := by decide +kernel
theorem dX2_takeTurn_86 : decode cX2_takeTurn 86 = .ok (.iconst 1, 1) := by decide +kernel
theorem dX2_takeTurn_87 : decode cX2_takeTurn 87 = .ok (.iadd, 1) := by decide +kernel
theorem dX2_takeTurn_88 : decode cX2_takeTurn 88 = .ok (.aload_n 1, 1) := by decide +kernel
theorem dX2_takeTurn_89 : decode cX2_takeTurn 89 = .ok (.getfield 127, 3) := by decide +kernel
theorem dX2_takeTurn_92 : decode cX2_takeTurn 92 = .ok (.if_icmp .ge 12, 3) := by decide +kernel
theorem dX2_takeTurn_95 : decode cX2_takeTurn 95 = .ok (.aload_n 1, 1) := by decide +kernel
theorem dX2_takeTurn_96 : decode cX2_takeTurn 96 = .ok (.getfield 117, 3) := by decide +kernel
theorem dX2_takeTurn_99 : decode cX2_takeTurn 99 = .ok (.iconst 1, 1) := by decide +kernel
theorem dX2_takeTurn_100 : decode cX2_takeTurn 100 = .ok (.iadd, 1) := by decide +kernel
theorem dX2_takeTurn_101 : decode cX2_takeTurn 101 = .ok (.goto 4, 3) := by decide +kernel
theorem dX2_takeTurn_104 : decode cX2_takeTurn 104 = .ok (.iconst 0, 1) := by decide +kernel
theorem dX2_takeTurn_105 : decode cX2_takeTurn 105 = .ok (.putfield 117, 3) := by decide +kernel
theorem dX2_takeTurn_108 : decode cX2_takeTurn 108 = .ok (.return_, 1) := by decide +kernel
theorem dX2_act_0 : decode cX2_act 0 = .ok (.aload_n 1, 1) := by decide +kernel
theorem dX2_act_1 : decode cX2_act 1 = .ok (.aload_n 1, 1) := by decide +kernel
theorem dX2_act_2 : decode cX2_act 2 = .ok (.getfield 117, 3) := by decide +kernel
theorem dX2_act_5 : decode cX2_act 5 = .ok (.invokevirtual 130, 3) := by decide +kernel
theorem dX2_act_8 : decode cX2_act 8 = .ok (.tableswitch 131 0 6 #[44, 70, 87, 99, 107, 115, 123], 44) := by decide +kernel
theorem dX2_act_52 : decode cX2_act 52 = .ok (.aload_n 1, 1) := by decide +kernel
theorem dX2_act_53 : decode cX2_act 53 = .ok (.dup, 1) := by decide +kernel
theorem dX2_act_54 : decode cX2_act 54 = .ok (.getfield 133, 3) := by decide +kernel
theorem dX2_act_57 : decode cX2_act 57 = .ok (.aload_n 0, 1) := by decide +kernel
theorem dX2_act_58 : decode cX2_act 58 = .ok (.iconst 1, 1) := by decide +kernel
theorem dX2_act_59 : decode cX2_act 59 = .ok (.aload_n 1, 1) := by decide +kernel
theorem dX2_act_60 : decode cX2_act 60 = .ok (.getfield 58, 3) := by decide +kernel
theorem dX2_act_63 : decode cX2_act 63 = .ok (.isub, 1) := by decide +kernel
theorem dX2_act_64 : decode cX2_act 64 = .ok (.invokevirtual 136, 3) := by decide +kernel
theorem dX2_act_67 : decode cX2_act 67 = .ok (.iload_n 2, 1) := by decide +kernel
theorem dX2_act_68 : decode cX2_act 68 = .ok (.invokevirtual 139, 3) := by decide +kernel
theorem dX2_act_71 : decode cX2_act 71 = .ok (.iadd, 1) := by decide +kernel
theorem dX2_act_72 : decode cX2_act 72 = .ok (.putfield 133, 3) := by decide +kernel
theorem dX2_act_75 : decode cX2_act 75 = .ok (.goto 64, 3) := by decide +kernel
theorem dX2_act_78 : decode cX2_act 78 = .ok (.aload_n 0, 1) := by decide +kernel
theorem dX2_act_79 : decode cX2_act 79 = .ok (.iconst 1, 1) := by decide +kernel
theorem dX2_act_80 : decode cX2_act 80 = .ok (.aload_n 1, 1) := by decide +kernel
theorem dX2_act_81 : decode cX2_act 81 = .ok (.getfield 58, 3) := by decide +kernel
theorem dX2_act_84 : decode cX2_act 84 = .ok (.isub, 1) := by decide +kernel
theorem dX2_act_85 : decode cX2_act 85 = .ok (.invokevirtual 142, 3) := by decide +kernel
theorem dX2_act_88 : decode cX2_act 88 = .ok (.iload_n 2, 1) := by decide +kernel
theorem dX2_act_89 : decode cX2_act 89 = .ok (.invokevirtual 145, 3) := by decide +kernel
theorem dX2_act_92 : decode cX2_act 92 = .ok (.goto 47, 3) := by decide +kernel
theorem dX2_act_95 : decode cX2_act 95 = .ok (.aload_n 0, 1) := by decide +kernel
theorem dX2_act_96 : decode cX2_act 96 = .ok (.aload_n 1, 1) := by decide +kernel
theorem dX2_act_97 : decode cX2_act 97 = .ok (.invokevirtual 148, 3) := by decide +kernel
theorem dX2_act_100 : decode cX2_act 100 = .ok (.iload_n 2, 1) := by decide +kernel
theorem dX2_act_101 : decode cX2_act 101 = .ok (.invokevirtual 152, 3) := by decide +kernel
theorem dX2_act_104 : decode cX2_act 104 = .ok (.goto 35, 3) := by decide +kernel
theorem dX2_act_107 : decode cX2_act 107 = .ok (.aload_n 1, 1) := by decide +kernel
theorem dX2_act_108 : decode cX2_act 108 = .ok (.iload_n 2, 1) := by decide +kernel
theorem dX2_act_109 : decode cX2_act 109 = .ok (.putfield 114, 3) := by decide +kernel
theorem dX2_act_112 : decode cX2_act 112 = .ok (.goto 27, 3) := by decide +kernel
theorem dX2_act_115 : decode cX2_act 115 = .ok (.aload_n 1, 1) := by decide +kernel
theorem dX2_act_116 : decode cX2_act 116 = .ok (.iload_n 2, 1) := by decide +kernel
theorem dX2_act_117 : decode cX2_act 117 = .ok (.invokevirtual 155, 3) := by decide +kernel
theorem dX2_act_120 : decode cX2_act 120 = .ok (.goto 19, 3) := by decide +kernel
theorem dX2_act_123 : decode cX2_act 123 = .ok (.aload_n 1, 1) := by decide +kernel
theorem dX2_act_124 : decode cX2_act 124 = .ok (.iload_n 2, 1) := by decide +kernel
theorem dX2_act_125 : decode cX2_act 125 = .ok (.putfield 55, 3) := by decide +kernel
theorem dX2_act_128 : decode cX2_act 128 = .ok (.goto 11, 3) := by decide +kernel
theorem dX2_act_131 : decode cX2_act 131 = .ok (.aload_n 1, 1) := by decide +kernel
theorem dX2_act_132 : decode cX2_act 132 = .ok (.iload_n 2, 1) := by decide +kernel
theorem dX2_act_133 : decode cX2_act 133 = .ok (.invokevirtual 158, 3) := by decide +kernel
theorem dX2_act_136 : decode cX2_act 136 = .ok (.goto 3, 3) := by decide +kernel
theorem dX2_act_139 : decode cX2_act 139 = .ok (.return_, 1) := by decide +kernel
theorem dX2_weakest_0 : decode cX2_weakest 0 = .ok (.aload_n 0, 1) := by decide +kernel
theorem dX2_weakest_1 : decode cX2_weakest 1 = .ok (.getfield 20, 3) := by decide +kernel
theorem dX2_weakest_4 : decode cX2_weakest 4 = .ok (.astore_n 2, 1) := by decide +kernel
theorem dX2_weakest_5 : decode cX2_weakest 5 = .ok (.aload_n 0, 1) := by decide +kernel
theorem dX2_weakest_6 : decode cX2_weakest 6 = .ok (.getfield 11, 3) := by decide +kernel
theorem dX2_weakest_9 : decode cX2_weakest 9 = .ok (.astore_n 3, 1) := by decide +kernel
theorem dX2_weakest_10 : decode cX2_weakest 10 = .ok (.aload_n 3, 1) := by decide +kernel
theorem dX2_weakest_11 : decode cX2_weakest 11 = .ok (.arraylength, 1) := by decide +kernel
theorem dX2_weakest_12 : decode cX2_weakest 12 = .ok (.istore 4, 2) := by decide +kernel
theorem dX2_weakest_14 : decode cX2_weakest 14 = .ok (.iconst 0, 1) := by decide +kernel
theorem dX2_weakest_15 : decode cX2_weakest 15 = .ok (.istore 5, 2) := by decide +kernel
theorem dX2_weakest_17 : decode cX2_weakest 17 = .ok (.iload 5, 2) := by decide +kernel
theorem dX2_weakest_19 : decode cX2_weakest 19 = .ok (.iload 4, 2) := by decide +kernel
theorem dX2_weakest_21 : decode cX2_weakest 21 = .ok (.if_icmp .ge 55, 3) := by decide +kernel
theorem dX2_weakest_24 : decode cX2_weakest 24 = .ok (.aload_n 3, 1) := by decide +kernel
theorem dX2_weakest_25 : decode cX2_weakest 25 = .ok (.iload 5, 2) := by decide +kernel
theorem dX2_weakest_27 : decode cX2_weakest 27 = .ok (.aaload, 1) := by decide +kernel
theorem dX2_weakest_28 : decode cX2_weakest 28 = .ok (.astore 6, 2) := by decide +kernel
theorem dX2_weakest_30 : decode cX2_weakest 30 = .ok (.aload 6, 2) := by decide +kernel
theorem dX2_weakest_32 : decode cX2_weakest 32 = .ok (.getfield 52, 3) := by decide +kernel
theorem dX2_weakest_35 : decode cX2_weakest 35 = .ok (.ifCond .le 35, 3) := by decide +kernel
theorem dX2_weakest_38 : decode cX2_weakest 38 = .ok (.aload 6, 2) := by decide +kernel
theorem dX2_weakest_40 : decode cX2_weakest 40 = .ok (.getfield 58, 3) := by decide +kernel
theorem dX2_weakest_43 : decode cX2_weakest 43 = .ok (.iload_n 1, 1) := by decide +kernel
theorem dX2_weakest_44 : decode cX2_weakest 44 = .ok (.if_icmp .ne 26, 3) := by decide +kernel
theorem dX2_weakest_47 : decode cX2_weakest 47 = .ok (.aload_n 2, 1) := by decide +kernel
theorem dX2_weakest_48 : decode cX2_weakest 48 = .ok (.aload_n 0, 1) := by decide +kernel
theorem dX2_weakest_49 : decode cX2_weakest 49 = .ok (.getfield 20, 3) := by decide +kernel
theorem dX2_weakest_52 : decode cX2_weakest 52 = .ok (.if_acmp .eq 15, 3) := by decide +kernel
theorem dX2_weakest_55 : decode cX2_weakest 55 = .ok (.aload 6, 2) := by decide +kernel
theorem dX2_weakest_57 : decode cX2_weakest 57 = .ok (.getfield 52, 3) := by decide +kernel
theorem dX2_weakest_60 : decode cX2_weakest 60 = .ok (.aload_n 2, 1) := by decide +kernel
theorem dX2_weakest_61 : decode cX2_weakest 61 = .ok (.getfield 52, 3) := by decide +kernel
theorem dX2_weakest_64 : decode cX2_weakest 64 = .ok (.if_icmp .ge 6, 3) := by decide +kernel
theorem dX2_weakest_67 : decode cX2_weakest 67 = .ok (.aload 6, 2) := by decide +kernel
theorem dX2_weakest_69 : decode cX2_weakest 69 = .ok (.astore_n 2, 1) := by decide +kernel
theorem dX2_weakest_70 : decode cX2_weakest 70 = .ok (.iinc 5 1, 3) := by decide +kernel
theorem dX2_weakest_73 : decode cX2_weakest 73 = .ok (.goto (-56), 3) := by decide +kernel
theorem dX2_weakest_76 : decode cX2_weakest 76 = .ok (.aload_n 2, 1) := by decide +kernel
theorem dX2_weakest_77 : decode cX2_weakest 77 = .ok (.areturn, 1) := by decide +kernel
theorem dX2_fullest_0 : decode cX2_fullest 0 = .ok (.aload_n 0, 1) := by decide +kernel
theorem dX2_fullest_1 : decode cX2_fullest 1 = .ok (.getfield 20, 3) := by decide +kernel
theorem dX2_fullest_4 : decode cX2_fullest 4 = .ok (.astore_n 2, 1) := by decide +kernel
theorem dX2_fullest_5 : decode cX2_fullest 5 = .ok (.aload_n 0, 1) := by decide +kernel
theorem dX2_fullest_6 : decode cX2_fullest 6 = .ok (.getfield 11, 3) := by decide +kernel
theorem dX2_fullest_9 : decode cX2_fullest 9 = .ok (.astore_n 3, 1) := by decide +kernel
theorem dX2_fullest_10 : decode cX2_fullest 10 = .ok (.aload_n 3, 1) := by decide +kernel
theorem dX2_fullest_11 : decode cX2_fullest 11 = .ok (.arraylength, 1) := by decide +kernel
theorem dX2_fullest_12 : decode cX2_fullest 12 = .ok (.istore 4, 2) := by decide +kernel
theorem dX2_fullest_14 : decode cX2_fullest 14 = .ok (.iconst 0, 1) := by decide +kernel
theorem dX2_fullest_15 : decode cX2_fullest 15 = .ok (.istore 5, 2) := by decide +kernel
theorem dX2_fullest_17 : decode cX2_fullest 17 = .ok (.iload 5, 2) := by decide +kernel
theorem dX2_fullest_19 : decode cX2_fullest 19 = .ok (.iload 4, 2) := by decide +kernel
theorem dX2_fullest_21 : decode cX2_fullest 21 = .ok (.if_icmp .ge 55, 3) := by decide +kernel
theorem dX2_fullest_24 : decode cX2_fullest 24 = .ok (.aload_n 3, 1) := by decide +kernel
theorem dX2_fullest_25 : decode cX2_fullest 25 = .ok (.iload 5, 2) := by decide +kernel
theorem dX2_fullest_27 : decode cX2_fullest 27 = .ok (.aaload, 1) := by decide +kernel
theorem dX2_fullest_28 : decode cX2_fullest 28 = .ok (.astore 6, 2) := by decide +kernel
theorem dX2_fullest_30 : decode cX2_fullest 30 = .ok (.aload 6, 2) := by decide +kernel
theorem dX2_fullest_32 : decode cX2_fullest 32 = .ok (.getfield 52, 3) := by decide +kernel
theorem dX2_fullest_35 : decode cX2_fullest 35 = .ok (.ifCond .le 35, 3) := by decide +kernel
theorem dX2_fullest_38 : decode cX2_fullest 38 = .ok (.aload 6, 2) := by decide +kernel
theorem dX2_fullest_40 : decode cX2_fullest 40 = .ok (.getfield 58, 3) := by decide +kernel
theorem dX2_fullest_43 : decode cX2_fullest 43 = .ok (.iload_n 1, 1) := by decide +kernel
theorem dX2_fullest_44 : decode cX2_fullest 44 = .ok (.if_icmp .ne 26, 3) := by decide +kernel
theorem dX2_fullest_47 : decode cX2_fullest 47 = .ok (.aload_n 2, 1) := by decide +kernel
theorem dX2_fullest_48 : decode cX2_fullest 48 = .ok (.aload_n 0, 1) := by decide +kernel
theorem dX2_fullest_49 : decode cX2_fullest 49 = .ok (.getfield 20, 3) := by decide +kernel
theorem dX2_fullest_52 : decode cX2_fullest 52 = .ok (.if_acmp .eq 15, 3) := by decide +kernel
theorem dX2_fullest_55 : decode cX2_fullest 55 = .ok (.aload 6, 2) := by decide +kernel
theorem dX2_fullest_57 : decode cX2_fullest 57 = .ok (.getfield 101, 3) := by decide +kernel
theorem dX2_fullest_60 : decode cX2_fullest 60 = .ok (.aload_n 2, 1) := by decide +kernel
theorem dX2_fullest_61 : decode cX2_fullest 61 = .ok (.getfield 101, 3) := by decide +kernel
theorem dX2_fullest_64 : decode cX2_fullest 64 = .ok (.if_icmp .le 6, 3) := by decide +kernel
theorem dX2_fullest_67 : decode cX2_fullest 67 = .ok (.aload 6, 2) := by decide +kernel
theorem dX2_fullest_69 : decode cX2_fullest 69 = .ok (.astore_n 2, 1) := by decide +kernel
theorem dX2_fullest_70 : decode cX2_fullest 70 = .ok (.iinc 5 1, 3) := by decide +kernel
theorem dX2_fullest_73 : decode cX2_fullest 73 = .ok (.goto (-56), 3) := by decide +kernel
theorem dX2_fullest_76 : decode cX2_fullest 76 = .ok (.aload_n 2, 1) := by decide +kernel
theorem dX2_fullest_77 : decode cX2_fullest 77 = .ok (.areturn, 1) := by decide +kernel
theorem dX2_emptiestFriend_0 : decode cX2_emptiestFriend 0 = .ok (.aload_n 0, 1) := by decide +kernel
theorem dX2_emptiestFriend_1 : decode cX2_emptiestFriend 1 = .ok (.getfield 20, 3) := by decide +kernel
theorem dX2_emptiestFriend_4 : decode cX2_emptiestFriend 4 = .ok (.astore_n 2, 1) := by decide +kernel
theorem dX2_emptiestFriend_5 : decode cX2_emptiestFriend 5 = .ok (.aload_n 0, 1) := by decide +kernel
theorem dX2_emptiestFriend_6 : decode cX2_emptiestFriend 6 = .ok (.getfield 11, 3) := by decide +kernel
theorem dX2_emptiestFriend_9 : decode cX2_emptiestFriend 9 = .ok (.astore_n 3, 1) := by decide +kernel
theorem dX2_emptiestFriend_10 : decode cX2_emptiestFriend 10 = .ok (.aload_n 3, 1) := by decide +kernel
theorem dX2_emptiestFriend_11 : decode cX2_emptiestFriend 11 = .ok (.arraylength, 1) := by decide +kernel
theorem dX2_emptiestFriend_12 : decode cX2_emptiestFriend 12 = .ok (.istore 4, 2) := by decide +kernel
theorem dX2_emptiestFriend_14 : decode cX2_emptiestFriend 14 = .ok (.iconst 0, 1) := by decide +kernel
theorem dX2_emptiestFriend_15 : decode cX2_emptiestFriend 15 = .ok (.istore 5, 2) := by decide +kernel
theorem dX2_emptiestFriend_17 : decode cX2_emptiestFriend 17 = .ok (.iload 5, 2) := by decide +kernel
theorem dX2_emptiestFriend_19 : decode cX2_emptiestFriend 19 = .ok (.iload 4, 2) := by decide +kernel
theorem dX2_emptiestFriend_21 : decode cX2_emptiestFriend 21 = .ok (.if_icmp .ge 64, 3) := by decide +kernel
theorem dX2_emptiestFriend_24 : decode cX2_emptiestFriend 24 = .ok (.aload_n 3, 1) := by decide +kernel
theorem dX2_emptiestFriend_25 : decode cX2_emptiestFriend 25 = .ok (.iload 5, 2) := by decide +kernel
theorem dX2_emptiestFriend_27 : decode cX2_emptiestFriend 27 = .ok (.aaload, 1) := by decide +kernel
theorem dX2_emptiestFriend_28 : decode cX2_emptiestFriend 28 = .ok (.astore 6, 2) := by decide +kernel
theorem dX2_emptiestFriend_30 : decode cX2_emptiestFriend 30 = .ok (.aload 6, 2) := by decide +kernel
theorem dX2_emptiestFriend_32 : decode cX2_emptiestFriend 32 = .ok (.aload_n 1, 1) := by decide +kernel
theorem dX2_emptiestFriend_33 : decode cX2_emptiestFriend 33 = .ok (.if_acmp .eq 46, 3) := by decide +kernel
theorem dX2_emptiestFriend_36 : decode cX2_emptiestFriend 36 = .ok (.aload 6, 2) := by decide +kernel
theorem dX2_emptiestFriend_38 : decode cX2_emptiestFriend 38 = .ok (.getfield 52, 3) := by decide +kernel
theorem dX2_emptiestFriend_41 : decode cX2_emptiestFriend 41 = .ok (.ifCond .le 38, 3) := by decide +kernel
theorem dX2_emptiestFriend_44 : decode cX2_emptiestFriend 44 = .ok (.aload 6, 2) := by decide +kernel
theorem dX2_emptiestFriend_46 : decode cX2_emptiestFriend 46 = .ok (.getfield 58, 3) := by decide +kernel
theorem dX2_emptiestFriend_49 : decode cX2_emptiestFriend 49 = .ok (.aload_n 1, 1) := by decide +kernel
theorem dX2_emptiestFriend_50 : decode cX2_emptiestFriend 50 = .ok (.getfield 58, 3) := by decide +kernel
theorem dX2_emptiestFriend_53 : decode cX2_emptiestFriend 53 = .ok (.if_icmp .ne 26, 3) := by decide +kernel
theorem dX2_emptiestFriend_56 : decode cX2_emptiestFriend 56 = .ok (.aload_n 2, 1) := by decide +kernel
theorem dX2_emptiestFriend_57 : decode cX2_emptiestFriend 57 = .ok (.aload_n 0, 1) := by decide +kernel
theorem dX2_emptiestFriend_58 : decode cX2_emptiestFriend 58 = .ok (.getfield 20, 3) := by decide +kernel
theorem dX2_emptiestFriend_61 : decode cX2_emptiestFriend 61 = .ok (.if_acmp .eq 15, 3) := by decide +kernel
theorem dX2_emptiestFriend_64 : decode cX2_emptiestFriend 64 = .ok (.aload 6, 2) := by decide +kernel
theorem dX2_emptiestFriend_66 : decode cX2_emptiestFriend 66 = .ok (.getfield 101, 3) := by decide +kernel
theorem dX2_emptiestFriend_69 : decode cX2_emptiestFriend 69 = .ok (.aload_n 2, 1) := by decide +kernel
theorem dX2_emptiestFriend_70 : decode cX2_emptiestFriend 70 = .ok (.getfield 101, 3) := by decide +kernel
theorem dX2_emptiestFriend_73 : decode cX2_emptiestFriend 73 = .ok (.if_icmp .ge 6, 3) := by decide +kernel
theorem dX2_emptiestFriend_76 : decode cX2_emptiestFriend 76 = .ok (.aload 6, 2) := by decide +kernel
theorem dX2_emptiestFriend_78 : decode cX2_emptiestFriend 78 = .ok (.astore_n 2, 1) := by decide +kernel
theorem dX2_emptiestFriend_79 : decode cX2_emptiestFriend 79 = .ok (.iinc 5 1, 3) := by decide +kernel
theorem dX2_emptiestFriend_82 : decode cX2_emptiestFriend 82 = .ok (.goto (-65), 3) := by decide +kernel
theorem dX2_emptiestFriend_85 : decode cX2_emptiestFriend 85 = .ok (.aload_n 2, 1) := by decide +kernel
theorem dX2_emptiestFriend_86 : decode cX2_emptiestFriend 86 = .ok (.areturn, 1) := by decide +kernel
theorem dX2_playOn_0 : decode cX2_playOn 0 = .ok (.iconst 0, 1) := by decide +kernel
theorem dX2_playOn_1 : decode cX2_playOn 1 = .ok (.istore_n 2, 1) := by decide +kernel
theorem dX2_playOn_2 : decode cX2_playOn 2 = .ok (.iload_n 2, 1) := by decide +kernel
theorem dX2_playOn_3 : decode cX2_playOn 3 = .ok (.iload_n 1, 1) := by decide +kernel
theorem dX2_playOn_4 : decode cX2_playOn 4 = .ok (.if_icmp .ge 29, 3) := by decide +kernel
theorem dX2_playOn_7 : decode cX2_playOn 7 = .ok (.aload_n 0, 1) := by decide +kernel
theorem dX2_playOn_8 : decode cX2_playOn 8 = .ok (.invokevirtual 161, 3) := by decide +kernel
theorem dX2_playOn_11 : decode cX2_playOn 11 = .ok (.astore_n 3, 1) := by decide +kernel
theorem dX2_playOn_12 : decode cX2_playOn 12 = .ok (.aload_n 3, 1) := by decide +kernel
theorem dX2_playOn_13 : decode cX2_playOn 13 = .ok (.aload_n 0, 1) := by decide +kernel
theorem dX2_playOn_14 : decode cX2_playOn 14 = .ok (.getfield 20, 3) := by decide +kernel
theorem dX2_playOn_17 : decode cX2_playOn 17 = .ok (.if_acmp .ne 5, 3) := by decide +kernel
theorem dX2_playOn_20 : decode cX2_playOn 20 = .ok (.iload_n 2, 1) := by decide +kernel
theorem dX2_playOn_21 : decode cX2_playOn 21 = .ok (.ireturn, 1) := by decide +kernel
theorem dX2_playOn_22 : decode cX2_playOn 22 = .ok (.aload_n 0, 1) := by decide +kernel
theorem dX2_playOn_23 : decode cX2_playOn 23 = .ok (.aload_n 3, 1) := by decide +kernel
theorem dX2_playOn_24 : decode cX2_playOn 24 = .ok (.invokevirtual 164, 3) := by decide +kernel
theorem dX2_playOn_27 : decode cX2_playOn 27 = .ok (.iinc 2 1, 3) := by decide +kernel
theorem dX2_playOn_30 : decode cX2_playOn 30 = .ok (.goto (-28), 3) := by decide +kernel
theorem dX2_playOn_33 : decode cX2_playOn 33 = .ok (.iload_n 1, 1) := by decide +kernel
theorem dX2_playOn_34 : decode cX2_playOn 34 = .ok (.ireturn, 1) := by decide +kernel
theorem dX2_faultOfPlay_0 : decode cX2_faultOfPlay 0 = .ok (.iload_n 1, 1) := by decide +kernel
theorem dX2_faultOfPlay_1 : decode cX2_faultOfPlay 1 = .ok (.iconst 1, 1) := by decide +kernel
theorem dX2_faultOfPlay_2 : decode cX2_faultOfPlay 2 = .ok (.if_icmp .lt 9, 3) := by decide +kernel
theorem dX2_faultOfPlay_5 : decode cX2_faultOfPlay 5 = .ok (.iload_n 1, 1) := by decide +kernel
theorem dX2_faultOfPlay_6 : decode cX2_faultOfPlay 6 = .ok (.bipush 99, 2) := by decide +kernel
theorem dX2_faultOfPlay_8 : decode cX2_faultOfPlay 8 = .ok (.if_icmp .le 5, 3) := by decide +kernel
theorem dX2_faultOfPlay_11 : decode cX2_faultOfPlay 11 = .ok (.iconst 1, 1) := by decide +kernel
theorem dX2_faultOfPlay_12 : decode cX2_faultOfPlay 12 = .ok (.ireturn, 1) := by decide +kernel
theorem dX2_faultOfPlay_13 : decode cX2_faultOfPlay 13 = .ok (.aload_n 0, 1) := by decide +kernel
theorem dX2_faultOfPlay_14 : decode cX2_faultOfPlay 14 = .ok (.invokevirtual 80, 3) := by decide +kernel
theorem dX2_faultOfPlay_17 : decode cX2_faultOfPlay 17 = .ok (.ifCond .ne 15, 3) := by decide +kernel
theorem dX2_faultOfPlay_20 : decode cX2_faultOfPlay 20 = .ok (.aload_n 0, 1) := by decide +kernel
theorem dX2_faultOfPlay_21 : decode cX2_faultOfPlay 21 = .ok (.getfield 34, 3) := by decide +kernel
theorem dX2_faultOfPlay_24 : decode cX2_faultOfPlay 24 = .ok (.iload_n 1, 1) := by decide +kernel
theorem dX2_faultOfPlay_25 : decode cX2_faultOfPlay 25 = .ok (.iadd, 1) := by decide +kernel
theorem dX2_faultOfPlay_26 : decode cX2_faultOfPlay 26 = .ok (.sipush 9999, 3) := by decide +kernel
theorem dX2_faultOfPlay_29 : decode cX2_faultOfPlay 29 = .ok (.if_icmp .le 7, 3) := by decide +kernel
theorem dX2_faultOfPlay_32 : decode cX2_faultOfPlay 32 = .ok (.iconst 2, 1) := by decide +kernel
theorem dX2_faultOfPlay_33 : decode cX2_faultOfPlay 33 = .ok (.goto 4, 3) := by decide +kernel
theorem dX2_faultOfPlay_36 : decode cX2_faultOfPlay 36 = .ok (.iconst 0, 1) := by decide +kernel
theorem dX2_faultOfPlay_37 : decode cX2_faultOfPlay 37 = .ok (.ireturn, 1) := by decide +kernel
theorem dX2_faultOfWheel_0 : decode cX2_faultOfWheel 0 = .ok (.iload_n 1, 1) := by decide +kernel
theorem dX2_faultOfWheel_1 : decode cX2_faultOfWheel 1 = .ok (.bipush 100, 2) := by decide +kernel
theorem dX2_faultOfWheel_3 : decode cX2_faultOfWheel 3 = .ok (.if_icmp .lt 14, 3) := by decide +kernel
theorem dX2_faultOfWheel_6 : decode cX2_faultOfWheel 6 = .ok (.iload_n 1, 1) := by decide +kernel
theorem dX2_faultOfWheel_7 : decode cX2_faultOfWheel 7 = .ok (.sipush 999, 3) := by decide +kernel
theorem dX2_faultOfWheel_10 : decode cX2_faultOfWheel 10 = .ok (.if_icmp .gt 7, 3) := by decide +kernel
theorem dX2_faultOfWheel_13 : decode cX2_faultOfWheel 13 = .ok (.iconst 0, 1) := by decide +kernel
theorem dX2_faultOfWheel_14 : decode cX2_faultOfWheel 14 = .ok (.goto 4, 3) := by decide +kernel
theorem dX2_faultOfWheel_17 : decode cX2_faultOfWheel 17 = .ok (.iconst 1, 1) := by decide +kernel
theorem dX2_faultOfWheel_18 : decode cX2_faultOfWheel 18 = .ok (.ireturn, 1) := by decide +kernel
theorem dX3_init_0 : decode cX3_init 0 = .ok (.aload_n 0, 1) := by decide +kernel
theorem dX3_init_1 : decode cX3_init 1 = .ok (.invokespecial 3, 3) := by decide +kernel
theorem dX3_init_4 : decode cX3_init 4 = .ok (.aload_n 0, 1) := by decide +kernel
theorem dX3_init_5 : decode cX3_init 5 = .ok (.bipush 6, 2) := by decide +kernel
theorem dX3_init_7 : decode cX3_init 7 = .ok (.newarray .int, 2) := by decide +kernel
theorem dX3_init_9 : decode cX3_init 9 = .ok (.putfield 9, 3) := by decide +kernel
theorem dX3_init_12 : decode cX3_init 12 = .ok (.aload_n 0, 1) := by decide +kernel
theorem dX3_init_13 : decode cX3_init 13 = .ok (.bipush 6, 2) := by decide +kernel
theorem dX3_init_15 : decode cX3_init 15 = .ok (.newarray .int, 2) := by decide +kernel
theorem dX3_init_17 : decode cX3_init 17 = .ok (.putfield 15, 3) := by decide +kernel
theorem dX3_init_20 : decode cX3_init 20 = .ok (.aload_n 0, 1) := by decide +kernel
theorem dX3_init_21 : decode cX3_init 21 = .ok (.iconst 0, 1) := by decide +kernel
theorem dX3_init_22 : decode cX3_init 22 = .ok (.putfield 18, 3) := by decide +kernel
theorem dX3_init_25 : decode cX3_init 25 = .ok (.aload_n 0, 1) := by decide +kernel
theorem dX3_init_26 : decode cX3_init 26 = .ok (.lconst 0, 1) := by decide +kernel
theorem dX3_init_27 : decode cX3_init 27 = .ok (.putfield 22, 3) := by decide +kernel
theorem dX3_init_30 : decode cX3_init 30 = .ok (.aload_n 0, 1) := by decide +kernel
theorem dX3_init_31 : decode cX3_init 31 = .ok (.iconst 0, 1) := by decide +kernel
theorem dX3_init_32 : decode cX3_init 32 = .ok (.putfield 26, 3) := by decide +kernel
theorem dX3_init_35 : decode cX3_init 35 = .ok (.aload_n 0, 1) := by decide +kernel
theorem dX3_init_36 : decode cX3_init 36 = .ok (.iconst 0, 1) := by decide +kernel
theorem dX3_init_37 : decode cX3_init 37 = .ok (.putfield 29, 3) := by decide +kernel
theorem dX3_init_40 : decode cX3_init 40 = .ok (.aload_n 0, 1) := by decide +kernel
theorem dX3_init_41 : decode cX3_init 41 = .ok (.iconst 0, 1) := by decide +kernel
theorem dX3_init_42 : decode cX3_init 42 = .ok (.putfield 32, 3) := by decide +kernel
theorem dX3_init_45 : decode cX3_init 45 = .ok (.aload_n 0, 1) := by decide +kernel
theorem dX3_init_46 : decode cX3_init 46 = .ok (.iconst 0, 1) := by decide +kernel
theorem dX3_init_47 : decode cX3_init 47 = .ok (.putfield 35, 3) := by decide +kernel
theorem dX3_init_50 : decode cX3_init 50 = .ok (.aload_n 0, 1) := by decide +kernel
theorem dX3_init_51 : decode cX3_init 51 = .ok (.iconst 0, 1) := by decide +kernel
theorem dX3_init_52 : decode cX3_init 52 = .ok (.putfield 38, 3) := by decide +kernel
theorem dX3_init_55 : decode cX3_init 55 = .ok (.aload_n 0, 1) := by decide +kernel
theorem dX3_init_56 : decode cX3_init 56 = .ok (.iconst 0, 1) := by decide +kernel
theorem dX3_init_57 : decode cX3_init 57 = .ok (.putfield 41, 3) := by decide +kernel
theorem dX3_init_60 : decode cX3_init 60 = .ok (.aload_n 0, 1) := by decide +kernel
theorem dX3_init_61 : decode cX3_init 61 = .ok (.iconst 0, 1) := by decide +kernel
theorem dX3_init_62 : decode cX3_init 62 = .ok (.putfield 44, 3) := by decide +kernel
theorem dX3_init_65 : decode cX3_init 65 = .ok (.aload_n 0, 1) := by decide +kernel
theorem dX3_init_66 : decode cX3_init 66 = .ok (.iconst 0, 1) := by decide +kernel
theorem dX3_init_67 : decode cX3_init 67 = .ok (.putfield 47, 3) := by decide +kernel
theorem dX3_init_70 : decode cX3_init 70 = .ok (.aload_n 0, 1) := by decide +kernel
theorem dX3_init_71 : decode cX3_init 71 = .ok (.iconst 0, 1) := by decide +kernel
theorem dX3_init_72 : decode cX3_init 72 = .ok (.putfield 50, 3) := by decide +kernel
theorem dX3_init_75 : decode cX3_init 75 = .ok (.aload_n 0, 1) := by decide +kernel
theorem dX3_init_76 : decode cX3_init 76 = .ok (.iconst 0, 1) := by decide +kernel
theorem dX3_init_77 : decode cX3_init 77 = .ok (.putfield 53, 3) := by decide +kernel
theorem dX3_init_80 : decode cX3_init 80 = .ok (.aload_n 0, 1) := by decide +kernel
theorem dX3_init_81 : decode cX3_init 81 = .ok (.iconst 0, 1) := by decide +kernel
theorem dX3_init_82 : decode cX3_init 82 = .ok (.putfield 56, 3) := by decide +kernel
theorem dX3_init_85 : decode cX3_init 85 = .ok (.aload_n 0, 1) := by decide +kernel
theorem dX3_init_86 : decode cX3_init 86 = .ok (.iload_n 1, 1) := by decide +kernel
theorem dX3_init_87 : decode cX3_init 87 = .ok (.putfield 59, 3) := by decide +kernel
theorem dX3_init_90 : decode cX3_init 90 = .ok (.return_, 1) := by decide +kernel
theorem dX3_copyFrom_0 : decode cX3_copyFrom 0 = .ok (.aload_n 0, 1) := by decide +kernel
theorem dX3_copyFrom_1 : decode cX3_copyFrom 1 = .ok (.aload_n 1, 1) := by decide +kernel
theorem dX3_copyFrom_2 : decode cX3_copyFrom 2 = .ok (.getfield 18, 3) := by decide +kernel
theorem dX3_copyFrom_5 : decode cX3_copyFrom 5 = .ok (.putfield 18, 3) := by decide +kernel
theorem dX3_copyFrom_8 : decode cX3_copyFrom 8 = .ok (.aload_n 1, 1) := by decide +kernel
theorem dX3_copyFrom_9 : decode cX3_copyFrom 9 = .ok (.getfield 9, 3) := by decide +kernel
theorem dX3_copyFrom_12 : decode cX3_copyFrom 12 = .ok (.aload_n 0, 1) := by decide +kernel
theorem dX3_copyFrom_13 : decode cX3_copyFrom 13 = .ok (.getfield 9, 3) := by decide +kernel
theorem dX3_copyFrom_16 : decode cX3_copyFrom 16 = .ok (.invokestatic 62, 3) := by decide +kernel
theorem dX3_copyFrom_19 : decode cX3_copyFrom 19 = .ok (.aload_n 1, 1) := by decide +kernel
theorem dX3_copyFrom_20 : decode cX3_copyFrom 20 = .ok (.getfield 15, 3) := by decide +kernel
theorem dX3_copyFrom_23 : decode cX3_copyFrom 23 = .ok (.aload_n 0, 1) := by decide +kernel
theorem dX3_copyFrom_24 : decode cX3_copyFrom 24 = .ok (.getfield 15, 3) := by decide +kernel
theorem dX3_copyFrom_27 : decode cX3_copyFrom 27 = .ok (.invokestatic 62, 3) := by decide +kernel
theorem dX3_copyFrom_30 : decode cX3_copyFrom 30 = .ok (.aload_n 0, 1) := by decide +kernel
theorem dX3_copyFrom_31 : decode cX3_copyFrom 31 = .ok (.aload_n 1, 1) := by decide +kernel
theorem dX3_copyFrom_32 : decode cX3_copyFrom 32 = .ok (.getfield 22, 3) := by decide +kernel
theorem dX3_copyFrom_35 : decode cX3_copyFrom 35 = .ok (.putfield 22, 3) := by decide +kernel
theorem dX3_copyFrom_38 : decode cX3_copyFrom 38 = .ok (.aload_n 0, 1) := by decide +kernel
theorem dX3_copyFrom_39 : decode cX3_copyFrom 39 = .ok (.aload_n 1, 1) := by decide +kernel
theorem dX3_copyFrom_40 : decode cX3_copyFrom 40 = .ok (.getfield 26, 3) := by decide +kernel
theorem dX3_copyFrom_43 : decode cX3_copyFrom 43 = .ok (.putfield 26, 3) := by decide +kernel
theorem dX3_copyFrom_46 : decode cX3_copyFrom 46 = .ok (.aload_n 0, 1) := by decide +kernel
theorem dX3_copyFrom_47 : decode cX3_copyFrom 47 = .ok (.aload_n 1, 1) := by decide +kernel
theorem dX3_copyFrom_48 : decode cX3_copyFrom 48 = .ok (.getfield 29, 3) := by decide +kernel
theorem dX3_copyFrom_51 : decode cX3_copyFrom 51 = .ok (.putfield 29, 3) := by decide +kernel
theorem dX3_copyFrom_54 : decode cX3_copyFrom 54 = .ok (.aload_n 0, 1) := by decide +kernel
theorem dX3_copyFrom_55 : decode cX3_copyFrom 55 = .ok (.aload_n 1, 1) := by decide +kernel
theorem dX3_copyFrom_56 : decode cX3_copyFrom 56 = .ok (.getfield 32, 3) := by decide +kernel
theorem dX3_copyFrom_59 : decode cX3_copyFrom 59 = .ok (.putfield 32, 3) := by decide +kernel
theorem dX3_copyFrom_62 : decode cX3_copyFrom 62 = .ok (.aload_n 0, 1) := by decide +kernel
theorem dX3_copyFrom_63 : decode cX3_copyFrom 63 = .ok (.aload_n 1, 1) := by decide +kernel
theorem dX3_copyFrom_64 : decode cX3_copyFrom 64 = .ok (.getfield 35, 3) := by decide +kernel
theorem dX3_copyFrom_67 : decode cX3_copyFrom 67 = .ok (.putfield 35, 3) := by decide +kernel
theorem dX3_copyFrom_70 : decode cX3_copyFrom 70 = .ok (.aload_n 0, 1) := by decide +kernel
theorem dX3_copyFrom_71 : decode cX3_copyFrom 71 = .ok (.aload_n 1, 1) := by decide +kernel
theorem dX3_copyFrom_72 : decode cX3_copyFrom 72 = .ok (.getfield 38, 3) := by decide +kernel
theorem dX3_copyFrom_75 : decode cX3_copyFrom 75 = .ok (.putfield 38, 3) := by decide +kernel
theorem dX3_copyFrom_78 : decode cX3_copyFrom 78 = .ok (.aload_n 0, 1) := by decide +kernel
theorem dX3_copyFrom_79 : decode cX3_copyFrom 79 = .ok (.aload_n 1, 1) := by decide +kernel
theorem dX3_copyFrom_80 : decode cX3_copyFrom 80 = .ok (.getfield 41, 3) := by decide +kernel
theorem dX3_copyFrom_83 : decode cX3_copyFrom 83 = .ok (.putfield 41, 3) := by decide +kernel
theorem dX3_copyFrom_86 : decode cX3_copyFrom 86 = .ok (.aload_n 0, 1) := by decide +kernel
theorem dX3_copyFrom_87 : decode cX3_copyFrom 87 = .ok (.aload_n 1, 1) := by decide +kernel
theorem dX3_copyFrom_88 : decode cX3_copyFrom 88 = .ok (.getfield 44, 3) := by decide +kernel
theorem dX3_copyFrom_91 : decode cX3_copyFrom 91 = .ok (.putfield 44, 3) := by decide +kernel
theorem dX3_copyFrom_94 : decode cX3_copyFrom 94 = .ok (.aload_n 0, 1) := by decide +kernel
theorem dX3_copyFrom_95 : decode cX3_copyFrom 95 = .ok (.aload_n 1, 1) := by decide +kernel
theorem dX3_copyFrom_96 : decode cX3_copyFrom 96 = .ok (.getfield 47, 3) := by decide +kernel
theorem dX3_copyFrom_99 : decode cX3_copyFrom 99 = .ok (.putfield 47, 3) := by decide +kernel
theorem dX3_copyFrom_102 : decode cX3_copyFrom 102 = .ok (.aload_n 0, 1) := by decide +kernel
theorem dX3_copyFrom_103 : decode cX3_copyFrom 103 = .ok (.aload_n 1, 1) := by decide +kernel
theorem dX3_copyFrom_104 : decode cX3_copyFrom 104 = .ok (.getfield 50, 3) := by decide +kernel
theorem dX3_copyFrom_107 : decode cX3_copyFrom 107 = .ok (.putfield 50, 3) := by decide +kernel
theorem dX3_copyFrom_110 : decode cX3_copyFrom 110 = .ok (.aload_n 0, 1) := by decide +kernel
theorem dX3_copyFrom_111 : decode cX3_copyFrom 111 = .ok (.aload_n 1, 1) := by decide +kernel
theorem dX3_copyFrom_112 : decode cX3_copyFrom 112 = .ok (.getfield 53, 3) := by decide +kernel
theorem dX3_copyFrom_115 : decode cX3_copyFrom 115 = .ok (.putfield 53, 3) := by decide +kernel
theorem dX3_copyFrom_118 : decode cX3_copyFrom 118 = .ok (.aload_n 0, 1) := by decide +kernel
theorem dX3_copyFrom_119 : decode cX3_copyFrom 119 = .ok (.aload_n 1, 1) := by decide +kernel
theorem dX3_copyFrom_120 : decode cX3_copyFrom 120 = .ok (.getfield 56, 3) := by decide +kernel
theorem dX3_copyFrom_123 : decode cX3_copyFrom 123 = .ok (.putfield 56, 3) := by decide +kernel
theorem dX3_copyFrom_126 : decode cX3_copyFrom 126 = .ok (.return_, 1) := by decide +kernel
theorem dX3_copyActs_0 : decode cX3_copyActs 0 = .ok (.iconst 0, 1) := by decide +kernel
theorem dX3_copyActs_1 : decode cX3_copyActs 1 = .ok (.istore_n 2, 1) := by decide +kernel
theorem dX3_copyActs_2 : decode cX3_copyActs 2 = .ok (.iload_n 2, 1) := by decide +kernel
theorem dX3_copyActs_3 : decode cX3_copyActs 3 = .ok (.aload_n 0, 1) := by decide +kernel
theorem dX3_copyActs_4 : decode cX3_copyActs 4 = .ok (.arraylength, 1) := by decide +kernel
theorem dX3_copyActs_5 : decode cX3_copyActs 5 = .ok (.if_icmp .ge 21, 3) := by decide +kernel
theorem dX3_copyActs_8 : decode cX3_copyActs 8 = .ok (.iload_n 2, 1) := by decide +kernel
theorem dX3_copyActs_9 : decode cX3_copyActs 9 = .ok (.aload_n 1, 1) := by decide +kernel
theorem dX3_copyActs_10 : decode cX3_copyActs 10 = .ok (.arraylength, 1) := by decide +kernel
theorem dX3_copyActs_11 : decode cX3_copyActs 11 = .ok (.if_icmp .ge 15, 3) := by decide +kernel
theorem dX3_copyActs_14 : decode cX3_copyActs 14 = .ok (.aload_n 1, 1) := by decide +kernel
theorem dX3_copyActs_15 : decode cX3_copyActs 15 = .ok (.iload_n 2, 1) := by decide +kernel
theorem dX3_copyActs_16 : decode cX3_copyActs 16 = .ok (.aload_n 0, 1) := by decide +kernel
theorem dX3_copyActs_17 : decode cX3_copyActs 17 = .ok (.iload_n 2, 1) := by decide +kernel
theorem dX3_copyActs_18 : decode cX3_copyActs 18 = .ok (.iaload, 1) := by decide +kernel
theorem dX3_copyActs_19 : decode cX3_copyActs 19 = .ok (.iastore, 1) := by decide +kernel
theorem dX3_copyActs_20 : decode cX3_copyActs 20 = .ok (.iinc 2 1, 3) := by decide +kernel
theorem dX3_copyActs_23 : decode cX3_copyActs 23 = .ok (.goto (-21), 3) := by decide +kernel
theorem dX3_copyActs_26 : decode cX3_copyActs 26 = .ok (.return_, 1) := by decide +kernel
theorem dX3_hasAct_0 : decode cX3_hasAct 0 = .ok (.iload_n 1, 1) := by decide +kernel
theorem dX3_hasAct_1 : decode cX3_hasAct 1 = .ok (.ifCond .lt 21, 3) := by decide +kernel
theorem dX3_hasAct_4 : decode cX3_hasAct 4 = .ok (.iload_n 1, 1) := by decide +kernel
theorem dX3_hasAct_5 : decode cX3_hasAct 5 = .ok (.aload_n 0, 1) := by decide +kernel
theorem dX3_hasAct_6 : decode cX3_hasAct 6 = .ok (.getfield 18, 3) := by decide +kernel
theorem dX3_hasAct_9 : decode cX3_hasAct 9 = .ok (.if_icmp .ge 13, 3) := by decide +kernel
theorem dX3_hasAct_12 : decode cX3_hasAct 12 = .ok (.iload_n 1, 1) := by decide +kernel
theorem dX3_hasAct_13 : decode cX3_hasAct 13 = .ok (.bipush 6, 2) := by decide +kernel
theorem dX3_hasAct_15 : decode cX3_hasAct 15 = .ok (.if_icmp .ge 7, 3) := by decide +kernel
theorem dX3_hasAct_18 : decode cX3_hasAct 18 = .ok (.iconst 1, 1) := by decide +kernel
theorem dX3_hasAct_19 : decode cX3_hasAct 19 = .ok (.goto 4, 3) := by decide +kernel
theorem dX3_hasAct_22 : decode cX3_hasAct 22 = .ok (.iconst 0, 1) := by decide +kernel
theorem dX3_hasAct_23 : decode cX3_hasAct 23 = .ok (.ireturn, 1) := by decide +kernel
theorem dX3_kindAt_0 : decode cX3_kindAt 0 = .ok (.aload_n 0, 1) := by decide +kernel
theorem dX3_kindAt_1 : decode cX3_kindAt 1 = .ok (.iload_n 1, 1) := by decide +kernel
theorem dX3_kindAt_2 : decode cX3_kindAt 2 = .ok (.invokevirtual 66, 3) := by decide +kernel
theorem dX3_kindAt_5 : decode cX3_kindAt 5 = .ok (.ifCond .eq 12, 3) := by decide +kernel
theorem dX3_kindAt_8 : decode cX3_kindAt 8 = .ok (.aload_n 0, 1) := by decide +kernel
theorem dX3_kindAt_9 : decode cX3_kindAt 9 = .ok (.getfield 9, 3) := by decide +kernel
theorem dX3_kindAt_12 : decode cX3_kindAt 12 = .ok (.iload_n 1, 1) := by decide +kernel
theorem dX3_kindAt_13 : decode cX3_kindAt 13 = .ok (.iaload, 1) := by decide +kernel
theorem dX3_kindAt_14 : decode cX3_kindAt 14 = .ok (.goto 4, 3) := by decide +kernel
theorem dX3_kindAt_17 : decode cX3_kindAt 17 = .ok (.iconst (-1), 1) := by decide +kernel
theorem dX3_kindAt_18 : decode cX3_kindAt 18 = .ok (.ireturn, 1) := by decide +kernel
theorem dX3_amountAt_0 : decode cX3_amountAt 0 = .ok (.aload_n 0, 1) := by decide +kernel
theorem dX3_amountAt_1 : decode cX3_amountAt 1 = .ok (.iload_n 1, 1) := by decide +kernel
theorem dX3_amountAt_2 : decode cX3_amountAt 2 = .ok (.invokevirtual 66, 3) := by decide +kernel
theorem dX3_amountAt_5 : decode cX3_amountAt 5 = .ok (.ifCond .eq 12, 3) := by decide +kernel
theorem dX3_amountAt_8 : decode cX3_amountAt 8 = .ok (.aload_n 0, 1) := by decide +kernel
theorem dX3_amountAt_9 : decode cX3_amountAt 9 = .ok (.getfield 15, 3) := by decide +kernel
theorem dX3_amountAt_12 : decode cX3_amountAt 12 = .ok (.iload_n 1, 1) := by decide +kernel
theorem dX3_amountAt_13 : decode cX3_amountAt 13 = .ok (.iaload, 1) := by decide +kernel
theorem dX3_amountAt_14 : decode cX3_amountAt 14 = .ok (.goto 4, 3) := by decide +kernel
theorem dX3_amountAt_17 : decode cX3_amountAt 17 = .ok (.iconst (-1), 1) := by decide +kernel
theorem dX3_amountAt_18 : decode cX3_amountAt 18 = .ok (.ireturn, 1) := by decide +kernel
theorem dX3_putAct_0 : decode cX3_putAct 0 = .ok (.aload_n 0, 1) := by decide +kernel
theorem dX3_putAct_1 : decode cX3_putAct 1 = .ok (.iload_n 1, 1) := by decide +kernel
theorem dX3_putAct_2 : decode cX3_putAct 2 = .ok (.invokevirtual 66, 3) := by decide +kernel
theorem dX3_putAct_5 : decode cX3_putAct 5 = .ok (.ifCond .eq 17, 3) := by decide +kernel
theorem dX3_putAct_8 : decode cX3_putAct 8 = .ok (.aload_n 0, 1) := by decide +kernel
theorem dX3_putAct_9 : decode cX3_putAct 9 = .ok (.getfield 9, 3) := by decide +kernel
theorem dX3_putAct_12 : decode cX3_putAct 12 = .ok (.iload_n 1, 1) := by decide +kernel
theorem dX3_putAct_13 : decode cX3_putAct 13 = .ok (.iload_n 2, 1) := by decide +kernel
theorem dX3_putAct_14 : decode cX3_putAct 14 = .ok (.iastore, 1) := by decide +kernel
theorem dX3_putAct_15 : decode cX3_putAct 15 = .ok (.aload_n 0, 1) := by decide +kernel
theorem dX3_putAct_16 : decode cX3_putAct 16 = .ok (.getfield 15, 3) := by decide +kernel
theorem dX3_putAct_19 : decode cX3_putAct 19 = .ok (.iload_n 1, 1) := by decide +kernel
theorem dX3_putAct_20 : decode cX3_putAct 20 = .ok (.iload_n 3, 1) := by decide +kernel
theorem dX3_putAct_21 : decode cX3_putAct 21 = .ok (.iastore, 1) := by decide +kernel
theorem dX3_putAct_22 : decode cX3_putAct 22 = .ok (.return_, 1) := by decide +kernel
theorem dX3_addAct_0 : decode cX3_addAct 0 = .ok (.aload_n 0, 1) := by decide +kernel
theorem dX3_addAct_1 : decode cX3_addAct 1 = .ok (.getfield 18, 3) := by decide +kernel
theorem dX3_addAct_4 : decode cX3_addAct 4 = .ok (.bipush 6, 2) := by decide +kernel
theorem dX3_addAct_6 : decode cX3_addAct 6 = .ok (.if_icmp .ge 25, 3) := by decide +kernel
theorem dX3_addAct_9 : decode cX3_addAct 9 = .ok (.aload_n 0, 1) := by decide +kernel
theorem dX3_addAct_10 : decode cX3_addAct 10 = .ok (.dup, 1) := by decide +kernel
theorem dX3_addAct_11 : decode cX3_addAct 11 = .ok (.getfield 18, 3) := by decide +kernel
theorem dX3_addAct_14 : decode cX3_addAct 14 = .ok (.iconst 1, 1) := by decide +kernel
theorem dX3_addAct_15 : decode cX3_addAct 15 = .ok (.iadd, 1) := by decide +kernel
theorem dX3_addAct_16 : decode cX3_addAct 16 = .ok (.putfield 18, 3) := by decide +kernel
theorem dX3_addAct_19 : decode cX3_addAct 19 = .ok (.aload_n 0, 1) := by decide +kernel
theorem dX3_addAct_20 : decode cX3_addAct 20 = .ok (.aload_n 0, 1) := by decide +kernel
theorem dX3_addAct_21 : decode cX3_addAct 21 = .ok (.getfield 18, 3) := by decide +kernel
theorem dX3_addAct_24 : decode cX3_addAct 24 = .ok (.iconst 1, 1) := by decide +kernel
theorem dX3_addAct_25 : decode cX3_addAct 25 = .ok (.isub, 1) := by decide +kernel
theorem dX3_addAct_26 : decode cX3_addAct 26 = .ok (.iload_n 1, 1) := by decide +kernel
theorem dX3_addAct_27 : decode cX3_addAct 27 = .ok (.iload_n 2, 1) := by decide +kernel
theorem dX3_addAct_28 : decode cX3_addAct 28 = .ok (.invokevirtual 70, 3) := by decide +kernel
theorem dX3_addAct_31 : decode cX3_addAct 31 = .ok (.return_, 1) := by decide +kernel
theorem dX3_ticksLeft_0 : decode cX3_ticksLeft 0 = .ok (.aload_n 0, 1) := by decide +kernel
theorem dX3_ticksLeft_1 : decode cX3_ticksLeft 1 = .ok (.getfield 38, 3) := by decide +kernel
theorem dX3_ticksLeft_4 : decode cX3_ticksLeft 4 = .ok (.iload_n 1, 1) := by decide +kernel
theorem dX3_ticksLeft_5 : decode cX3_ticksLeft 5 = .ok (.if_icmp .ge 11, 3) := by decide +kernel
theorem dX3_ticksLeft_8 : decode cX3_ticksLeft 8 = .ok (.aload_n 0, 1) := by decide +kernel
theorem dX3_ticksLeft_9 : decode cX3_ticksLeft 9 = .ok (.getfield 29, 3) := by decide +kernel
theorem dX3_ticksLeft_12 : decode cX3_ticksLeft 12 = .ok (.iconst 1, 1) := by decide +kernel
theorem dX3_ticksLeft_13 : decode cX3_ticksLeft 13 = .ok (.if_icmp .ge 5, 3) := by decide +kernel
theorem dX3_ticksLeft_16 : decode cX3_ticksLeft 16 = .ok (.iconst 0, 1) := by decide +kernel
theorem dX3_ticksLeft_17 : decode cX3_ticksLeft 17 = .ok (.ireturn, 1) := by decide +kernel
theorem dX3_ticksLeft_18 : decode cX3_ticksLeft 18 = .ok (.iload_n 1, 1) := by decide +kernel
theorem dX3_ticksLeft_19 : decode cX3_ticksLeft 19 = .ok (.aload_n 0, 1) := by decide +kernel
theorem dX3_ticksLeft_20 : decode cX3_ticksLeft 20 = .ok (.getfield 38, 3) := by decide +kernel
theorem dX3_ticksLeft_23 : decode cX3_ticksLeft 23 = .ok (.isub, 1) := by decide +kernel
theorem dX3_ticksLeft_24 : decode cX3_ticksLeft 24 = .ok (.aload_n 0, 1) := by decide +kernel
theorem dX3_ticksLeft_25 : decode cX3_ticksLeft 25 = .ok (.getfield 29, 3) := by decide +kernel
theorem dX3_ticksLeft_28 : decode cX3_ticksLeft 28 = .ok (.iadd, 1) := by decide +kernel
theorem dX3_ticksLeft_29 : decode cX3_ticksLeft 29 = .ok (.iconst 1, 1) := by decide +kernel
theorem dX3_ticksLeft_30 : decode cX3_ticksLeft 30 = .ok (.isub, 1) := by decide +kernel
theorem dX3_ticksLeft_31 : decode cX3_ticksLeft 31 = .ok (.aload_n 0, 1) := by decide +kernel
theorem dX3_ticksLeft_32 : decode cX3_ticksLeft 32 = .ok (.getfield 29, 3) := by decide +kernel
theorem dX3_ticksLeft_35 : decode cX3_ticksLeft 35 = .ok (.idiv, 1) := by decide +kernel
theorem dX3_ticksLeft_36 : decode cX3_ticksLeft 36 = .ok (.ireturn, 1) := by decide +kernel
theorem dX3_loseGauge_0 : decode cX3_loseGauge 0 = .ok (.aload_n 0, 1) := by decide +kernel
theorem dX3_loseGauge_1 : decode cX3_loseGauge 1 = .ok (.aload_n 0, 1) := by decide +kernel
theorem dX3_loseGauge_2 : decode cX3_loseGauge 2 = .ok (.getfield 38, 3) := by decide +kernel
theorem dX3_loseGauge_5 : decode cX3_loseGauge 5 = .ok (.iload_n 1, 1) := by decide +kernel
theorem dX3_loseGauge_6 : decode cX3_loseGauge 6 = .ok (.isub, 1) := by decide +kernel
theorem dX3_loseGauge_7 : decode cX3_loseGauge 7 = .ok (.iconst 0, 1) := by decide +kernel
theorem dX3_loseGauge_8 : decode cX3_loseGauge 8 = .ok (.invokestatic 74, 3) := by decide +kernel
theorem dX3_loseGauge_11 : decode cX3_loseGauge 11 = .ok (.putfield 38, 3) := by decide +kernel
theorem dX3_loseGauge_14 : decode cX3_loseGauge 14 = .ok (.return_, 1) := by decide +kernel
theorem dX3_gainGauge_0 : decode cX3_gainGauge 0 = .ok (.aload_n 0, 1) := by decide +kernel
theorem dX3_gainGauge_1 : decode cX3_gainGauge 1 = .ok (.getfield 32, 3) := by decide +kernel
theorem dX3_gainGauge_4 : decode cX3_gainGauge 4 = .ok (.ifCond .le 19, 3) := by decide +kernel
theorem dX3_gainGauge_7 : decode cX3_gainGauge 7 = .ok (.aload_n 0, 1) := by decide +kernel
theorem dX3_gainGauge_8 : decode cX3_gainGauge 8 = .ok (.aload_n 0, 1) := by decide +kernel
theorem dX3_gainGauge_9 : decode cX3_gainGauge 9 = .ok (.getfield 38, 3) := by decide +kernel
theorem dX3_gainGauge_12 : decode cX3_gainGauge 12 = .ok (.iload_n 1, 1) := by decide +kernel
theorem dX3_gainGauge_13 : decode cX3_gainGauge 13 = .ok (.iadd, 1) := by decide +kernel
theorem dX3_gainGauge_14 : decode cX3_gainGauge 14 = .ok (.sipush 9999, 3) := by decide +kernel
theorem dX3_gainGauge_17 : decode cX3_gainGauge 17 = .ok (.invokestatic 80, 3) := by decide +kernel
theorem dX3_gainGauge_20 : decode cX3_gainGauge 20 = .ok (.putfield 38, 3) := by decide +kernel
theorem dX3_gainGauge_23 : decode cX3_gainGauge 23 = .ok (.return_, 1) := by decide +kernel
theorem dX3_gainExtras_0 : decode cX3_gainExtras 0 = .ok (.aload_n 0, 1) := by decide +kernel
theorem dX3_gainExtras_1 : decode cX3_gainExtras 1 = .ok (.aload_n 0, 1) := by decide +kernel
theorem dX3_gainExtras_2 : decode cX3_gainExtras 2 = .ok (.getfield 44, 3) := by decide +kernel
theorem dX3_gainExtras_5 : decode cX3_gainExtras 5 = .ok (.iload_n 1, 1) := by decide +kernel
theorem dX3_gainExtras_6 : decode cX3_gainExtras 6 = .ok (.iadd, 1) := by decide +kernel
theorem dX3_gainExtras_7 : decode cX3_gainExtras 7 = .ok (.iconst 3, 1) := by decide +kernel
theorem dX3_gainExtras_8 : decode cX3_gainExtras 8 = .ok (.invokestatic 80, 3) := by decide +kernel
theorem dX3_gainExtras_11 : decode cX3_gainExtras 11 = .ok (.putfield 44, 3) := by decide +kernel
theorem dX3_gainExtras_14 : decode cX3_gainExtras 14 = .ok (.return_, 1) := by decide +kernel
theorem dX3_gainLife_0 : decode cX3_gainLife 0 = .ok (.aload_n 0, 1) := by decide +kernel
theorem dX3_gainLife_1 : decode cX3_gainLife 1 = .ok (.aload_n 0, 1) := by decide +kernel
theorem dX3_gainLife_2 : decode cX3_gainLife 2 = .ok (.getfield 32, 3) := by decide +kernel
theorem dX3_gainLife_5 : decode cX3_gainLife 5 = .ok (.iload_n 1, 1) := by decide +kernel
theorem dX3_gainLife_6 : decode cX3_gainLife 6 = .ok (.iadd, 1) := by decide +kernel
theorem dX3_gainLife_7 : decode cX3_gainLife 7 = .ok (.sipush 999, 3) := by decide +kernel
theorem dX3_gainLife_10 : decode cX3_gainLife 10 = .ok (.invokestatic 80, 3) := by decide +kernel
theorem dX3_gainLife_13 : decode cX3_gainLife 13 = .ok (.putfield 32, 3) := by decide +kernel
theorem dX3_gainLife_16 : decode cX3_gainLife 16 = .ok (.return_, 1) := by decide +kernel
theorem dX3_loseLife_0 : decode cX3_loseLife 0 = .ok (.iload_n 1, 1) := by decide +kernel
theorem dX3_loseLife_1 : decode cX3_loseLife 1 = .ok (.aload_n 0, 1) := by decide +kernel
theorem dX3_loseLife_2 : decode cX3_loseLife 2 = .ok (.getfield 41, 3) := by decide +kernel
theorem dX3_loseLife_5 : decode cX3_loseLife 5 = .ok (.isub, 1) := by decide +kernel
theorem dX3_loseLife_6 : decode cX3_loseLife 6 = .ok (.iconst 0, 1) := by decide +kernel
theorem dX3_loseLife_7 : decode cX3_loseLife 7 = .ok (.invokestatic 74, 3) := by decide +kernel
theorem dX3_loseLife_10 : decode cX3_loseLife 10 = .ok (.aload_n 0, 1) := by decide +kernel
theorem dX3_loseLife_11 : decode cX3_loseLife 11 = .ok (.getfield 32, 3) := by decide +kernel
theorem dX3_loseLife_14 : decode cX3_loseLife 14 = .ok (.invokestatic 80, 3) := by decide +kernel
theorem dX3_loseLife_17 : decode cX3_loseLife 17 = .ok (.istore_n 2, 1) := by decide +kernel
theorem dX3_loseLife_18 : decode cX3_loseLife 18 = .ok (.aload_n 0, 1) := by decide +kernel
theorem dX3_loseLife_19 : decode cX3_loseLife 19 = .ok (.dup, 1) := by decide +kernel
theorem dX3_loseLife_20 : decode cX3_loseLife 20 = .ok (.getfield 32, 3) := by decide +kernel
theorem dX3_loseLife_23 : decode cX3_loseLife 23 = .ok (.iload_n 2, 1) := by decide +kernel
theorem dX3_loseLife_24 : decode cX3_loseLife 24 = .ok (.isub, 1) := by decide +kernel
theorem dX3_loseLife_25 : decode cX3_loseLife 25 = .ok (.putfield 32, 3) := by decide +kernel
theorem dX3_loseLife_28 : decode cX3_loseLife 28 = .ok (.aload_n 0, 1) := by decide +kernel
theorem dX3_loseLife_29 : decode cX3_loseLife 29 = .ok (.getfield 32, 3) := by decide +kernel
theorem dX3_loseLife_32 : decode cX3_loseLife 32 = .ok (.ifCond .ne 18, 3) := by decide +kernel
theorem dX3_loseLife_35 : decode cX3_loseLife 35 = .ok (.aload_n 0, 1) := by decide +kernel
theorem dX3_loseLife_36 : decode cX3_loseLife 36 = .ok (.iconst 0, 1) := by decide +kernel
theorem dX3_loseLife_37 : decode cX3_loseLife 37 = .ok (.putfield 38, 3) := by decide +kernel
theorem dX3_loseLife_40 : decode cX3_loseLife 40 = .ok (.aload_n 0, 1) := by decide +kernel
theorem dX3_loseLife_41 : decode cX3_loseLife 41 = .ok (.iconst 0, 1) := by decide +kernel
theorem dX3_loseLife_42 : decode cX3_loseLife 42 = .ok (.putfield 41, 3) := by decide +kernel
theorem dX3_loseLife_45 : decode cX3_loseLife 45 = .ok (.aload_n 0, 1) := by decide +kernel
theorem dX3_loseLife_46 : decode cX3_loseLife 46 = .ok (.iconst 0, 1) := by decide +kernel
theorem dX3_loseLife_47 : decode cX3_loseLife 47 = .ok (.putfield 44, 3) := by decide +kernel
theorem dX3_loseLife_50 : decode cX3_loseLife 50 = .ok (.iload_n 2, 1) := by decide +kernel
theorem dX3_loseLife_51 : decode cX3_loseLife 51 = .ok (.ireturn, 1) := by decide +kernel
theorem dX3_likeness_0 : decode cX3_likeness 0 = .ok (.aload_n 0, 1) := by decide +kernel
theorem dX3_likeness_1 : decode cX3_likeness 1 = .ok (.getfield 32, 3) := by decide +kernel
theorem dX3_likeness_4 : decode cX3_likeness 4 = .ok (.i2l, 1) := by decide +kernel
theorem dX3_likeness_5 : decode cX3_likeness 5 = .ok (.lstore_n 1, 1) := by decide +kernel
theorem dX3_likeness_6 : decode cX3_likeness 6 = .ok (.lload_n 1, 1) := by decide +kernel
theorem dX3_likeness_7 : decode cX3_likeness 7 = .ok (.bipush 7, 2) := by decide +kernel
theorem dX3_likeness_9 : decode cX3_likeness 9 = .ok (.lshl, 1) := by decide +kernel
theorem dX3_likeness_10 : decode cX3_likeness 10 = .ok (.aload_n 0, 1) := by decide +kernel
theorem dX3_likeness_11 : decode cX3_likeness 11 = .ok (.getfield 29, 3) := by decide +kernel
theorem dX3_likeness_14 : decode cX3_likeness 14 = .ok (.i2l, 1) := by decide +kernel
theorem dX3_likeness_15 : decode cX3_likeness 15 = .ok (.lor, 1) := by decide +kernel
theorem dX3_likeness_16 : decode cX3_likeness 16 = .ok (.lstore_n 1, 1) := by decide +kernel
theorem dX3_likeness_17 : decode cX3_likeness 17 = .ok (.lload_n 1, 1) := by decide +kernel
theorem dX3_likeness_18 : decode cX3_likeness 18 = .ok (.bipush 14, 2) := by decide +kernel
theorem dX3_likeness_20 : decode cX3_likeness 20 = .ok (.lshl, 1) := by decide +kernel
theorem dX3_likeness_21 : decode cX3_likeness 21 = .ok (.aload_n 0, 1) := by decide +kernel
theorem dX3_likeness_22 : decode cX3_likeness 22 = .ok (.getfield 38, 3) := by decide +kernel
theorem dX3_likeness_25 : decode cX3_likeness 25 = .ok (.i2l, 1) := by decide +kernel
theorem dX3_likeness_26 : decode cX3_likeness 26 = .ok (.lor, 1) := by decide +kernel
theorem dX3_likeness_27 : decode cX3_likeness 27 = .ok (.lstore_n 1, 1) := by decide +kernel
theorem dX3_likeness_28 : decode cX3_likeness 28 = .ok (.lload_n 1, 1) := by decide +kernel
theorem dX3_likeness_29 : decode cX3_likeness 29 = .ok (.bipush 7, 2) := by decide +kernel
theorem dX3_likeness_31 : decode cX3_likeness 31 = .ok (.lshl, 1) := by decide +kernel
theorem dX3_likeness_32 : decode cX3_likeness 32 = .ok (.aload_n 0, 1) := by decide +kernel
theorem dX3_likeness_33 : decode cX3_likeness 33 = .ok (.getfield 41, 3) := by decide +kernel
theorem dX3_likeness_36 : decode cX3_likeness 36 = .ok (.i2l, 1) := by decide +kernel
theorem dX3_likeness_37 : decode cX3_likeness 37 = .ok (.lor, 1) := by decide +kernel
theorem dX3_likeness_38 : decode cX3_likeness 38 = .ok (.lstore_n 1, 1) := by decide +kernel
theorem dX3_likeness_39 : decode cX3_likeness 39 = .ok (.lload_n 1, 1) := by decide +kernel
theorem dX3_likeness_40 : decode cX3_likeness 40 = .ok (.iconst 2, 1) := by decide +kernel
theorem dX3_likeness_41 : decode cX3_likeness 41 = .ok (.lshl, 1) := by decide +kernel
theorem dX3_likeness_42 : decode cX3_likeness 42 = .ok (.aload_n 0, 1) := by decide +kernel
theorem dX3_likeness_43 : decode cX3_likeness 43 = .ok (.getfield 44, 3) := by decide +kernel
theorem dX3_likeness_46 : decode cX3_likeness 46 = .ok (.i2l, 1) := by decide +kernel
theorem dX3_likeness_47 : decode cX3_likeness 47 = .ok (.lor, 1) := by decide +kernel
theorem dX3_likeness_48 : decode cX3_likeness 48 = .ok (.lstore_n 1, 1) := by decide +kernel
theorem dX3_likeness_49 : decode cX3_likeness 49 = .ok (.lload_n 1, 1) := by decide +kernel
theorem dX3_likeness_50 : decode cX3_likeness 50 = .ok (.iconst 3, 1) := by decide +kernel
theorem dX3_likeness_51 : decode cX3_likeness 51 = .ok (.lshl, 1) := by decide +kernel
theorem dX3_likeness_52 : decode cX3_likeness 52 = .ok (.aload_n 0, 1) := by decide +kernel
theorem dX3_likeness_53 : decode cX3_likeness 53 = .ok (.getfield 47, 3) := by decide +kernel
theorem dX3_likeness_56 : decode cX3_likeness 56 = .ok (.i2l, 1) := by decide +kernel
theorem dX3_likeness_57 : decode cX3_likeness 57 = .ok (.lor, 1) := by decide +kernel
theorem dX3_likeness_58 : decode cX3_likeness 58 = .ok (.lreturn, 1) := by decide +kernel
theorem dX3_faultOfShift_0 : decode cX3_faultOfShift 0 = .ok (.iload_n 1, 1) := by decide +kernel
theorem dX3_faultOfShift_1 : decode cX3_faultOfShift 1 = .ok (.iconst 1, 1) := by decide +kernel
theorem dX3_faultOfShift_2 : decode cX3_faultOfShift 2 = .ok (.if_icmp .lt 10, 3) := by decide +kernel
theorem dX3_faultOfShift_5 : decode cX3_faultOfShift 5 = .ok (.iload_n 1, 1) := by decide +kernel
theorem dX3_faultOfShift_6 : decode cX3_faultOfShift 6 = .ok (.sipush 999, 3) := by decide +kernel
theorem dX3_faultOfShift_9 : decode cX3_faultOfShift 9 = .ok (.if_icmp .le 5, 3) := by decide +kernel
theorem dX3_faultOfShift_12 : decode cX3_faultOfShift 12 = .ok (.iconst 1, 1) := by decide +kernel
theorem dX3_faultOfShift_13 : decode cX3_faultOfShift 13 = .ok (.ireturn, 1) := by decide +kernel
theorem dX3_faultOfShift_14 : decode cX3_faultOfShift 14 = .ok (.aload_n 0, 1) := by decide +kernel
theorem dX3_faultOfShift_15 : decode cX3_faultOfShift 15 = .ok (.getfield 32, 3) := by decide +kernel
theorem dX3_faultOfShift_18 : decode cX3_faultOfShift 18 = .ok (.ifCond .le 7, 3) := by decide +kernel
theorem dX3_faultOfShift_21 : decode cX3_faultOfShift 21 = .ok (.iconst 0, 1) := by decide +kernel
theorem dX3_faultOfShift_22 : decode cX3_faultOfShift 22 = .ok (.goto 4, 3) := by decide +kernel
theorem dX3_faultOfShift_25 : decode cX3_faultOfShift 25 = .ok (.iconst 2, 1) := by decide +kernel
theorem dX3_faultOfShift_26 : decode cX3_faultOfShift 26 = .ok (.ireturn, 1) := by decide +kernel
theorem dX3_faultOfExtra_0 : decode cX3_faultOfExtra 0 = .ok (.aload_n 0, 1) := by decide +kernel
theorem dX3_faultOfExtra_1 : decode cX3_faultOfExtra 1 = .ok (.getfield 32, 3) := by decide +kernel
theorem dX3_faultOfExtra_4 : decode cX3_faultOfExtra 4 = .ok (.ifCond .le 7, 3) := by decide +kernel
theorem dX3_faultOfExtra_7 : decode cX3_faultOfExtra 7 = .ok (.iconst 0, 1) := by decide +kernel
theorem dX3_faultOfExtra_8 : decode cX3_faultOfExtra 8 = .ok (.goto 4, 3) := by decide +kernel
theorem dX3_faultOfExtra_11 : decode cX3_faultOfExtra 11 = .ok (.iconst 2, 1) := by decide +kernel
theorem dX3_faultOfExtra_12 : decode cX3_faultOfExtra 12 = .ok (.ireturn, 1) := by decide +kernel
theorem dX3_faultOfSpeed_0 : decode cX3_faultOfSpeed 0 = .ok (.iload_n 1, 1) := by decide +kernel
theorem dX3_faultOfSpeed_1 : decode cX3_faultOfSpeed 1 = .ok (.iconst 1, 1) := by decide +kernel
theorem dX3_faultOfSpeed_2 : decode cX3_faultOfSpeed 2 = .ok (.if_icmp .lt 13, 3) := by decide +kernel
theorem dX3_faultOfSpeed_5 : decode cX3_faultOfSpeed 5 = .ok (.iload_n 1, 1) := by decide +kernel
theorem dX3_faultOfSpeed_6 : decode cX3_faultOfSpeed 6 = .ok (.bipush 99, 2) := by decide +kernel
theorem dX3_faultOfSpeed_8 : decode cX3_faultOfSpeed 8 = .ok (.if_icmp .gt 7, 3) := by decide +kernel
theorem dX3_faultOfSpeed_11 : decode cX3_faultOfSpeed 11 = .ok (.iconst 0, 1) := by decide +kernel
theorem dX3_faultOfSpeed_12 : decode cX3_faultOfSpeed 12 = .ok (.goto 4, 3) := by decide +kernel
theorem dX3_faultOfSpeed_15 : decode cX3_faultOfSpeed 15 = .ok (.iconst 1, 1) := by decide +kernel
theorem dX3_faultOfSpeed_16 : decode cX3_faultOfSpeed 16 = .ok (.ireturn, 1) := by decide +kernel
theorem dX3_faultOfHeal_0 : decode cX3_faultOfHeal 0 = .ok (.iload_n 1, 1) := by decide +kernel
theorem dX3_faultOfHeal_1 : decode cX3_faultOfHeal 1 = .ok (.iconst 1, 1) := by decide +kernel
theorem dX3_faultOfHeal_2 : decode cX3_faultOfHeal 2 = .ok (.if_icmp .lt 14, 3) := by decide +kernel
theorem dX3_faultOfHeal_5 : decode cX3_faultOfHeal 5 = .ok (.iload_n 1, 1) := by decide +kernel
theorem dX3_faultOfHeal_6 : decode cX3_faultOfHeal 6 = .ok (.sipush 999, 3) := by decide +kernel
theorem dX3_faultOfHeal_9 : decode cX3_faultOfHeal 9 = .ok (.if_icmp .gt 7, 3) := by decide +kernel
theorem dX3_faultOfHeal_12 : decode cX3_faultOfHeal 12 = .ok (.iconst 0, 1) := by decide +kernel
theorem dX3_faultOfHeal_13 : decode cX3_faultOfHeal 13 = .ok (.goto 4, 3) := by decide +kernel
theorem dX3_faultOfHeal_16 : decode cX3_faultOfHeal 16 = .ok (.iconst 1, 1) := by decide +kernel
theorem dX3_faultOfHeal_17 : decode cX3_faultOfHeal 17 = .ok (.ireturn, 1) := by decide +kernel
theorem dX3_faultOfAct_0 : decode cX3_faultOfAct 0 = .ok (.aload_n 0, 1) := by decide +kernel
theorem dX3_faultOfAct_1 : decode cX3_faultOfAct 1 = .ok (.iload_n 1, 1) := by decide +kernel
theorem dX3_faultOfAct_2 : decode cX3_faultOfAct 2 = .ok (.invokevirtual 66, 3) := by decide +kernel
theorem dX3_faultOfAct_5 : decode cX3_faultOfAct 5 = .ok (.ifCond .eq 30, 3) := by decide +kernel
theorem dX3_faultOfAct_8 : decode cX3_faultOfAct 8 = .ok (.iload_n 2, 1) := by decide +kernel
theorem dX3_faultOfAct_9 : decode cX3_faultOfAct 9 = .ok (.ifCond .lt 26, 3) := by decide +kernel
theorem dX3_faultOfAct_12 : decode cX3_faultOfAct 12 = .ok (.iload_n 2, 1) := by decide +kernel
theorem dX3_faultOfAct_13 : decode cX3_faultOfAct 13 = .ok (.bipush 7, 2) := by decide +kernel
theorem dX3_faultOfAct_15 : decode cX3_faultOfAct 15 = .ok (.if_icmp .ge 20, 3) := by decide +kernel
theorem dX3_faultOfAct_18 : decode cX3_faultOfAct 18 = .ok (.iload_n 3, 1) := by decide +kernel
theorem dX3_faultOfAct_19 : decode cX3_faultOfAct 19 = .ok (.iconst 1, 1) := by decide +kernel
theorem dX3_faultOfAct_20 : decode cX3_faultOfAct 20 = .ok (.if_icmp .lt 15, 3) := by decide +kernel
theorem dX3_faultOfAct_23 : decode cX3_faultOfAct 23 = .ok (.iload_n 3, 1) := by decide +kernel
theorem dX3_faultOfAct_24 : decode cX3_faultOfAct 24 = .ok (.iload_n 2, 1) := by decide +kernel
theorem dX3_faultOfAct_25 : decode cX3_faultOfAct 25 = .ok (.invokestatic 85, 3) := by decide +kernel
theorem dX3_faultOfAct_28 : decode cX3_faultOfAct 28 = .ok (.if_icmp .gt 7, 3) := by decide +kernel
theorem dX3_faultOfAct_31 : decode cX3_faultOfAct 31 = .ok (.iconst 1, 1) := by decide +kernel
theorem dX3_faultOfAct_32 : decode cX3_faultOfAct 32 = .ok (.goto 4, 3) := by decide +kernel
theorem dX3_faultOfAct_35 : decode cX3_faultOfAct 35 = .ok (.iconst 0, 1) := by decide +kernel
theorem dX3_faultOfAct_36 : decode cX3_faultOfAct 36 = .ok (.istore 4, 2) := by decide +kernel
theorem dX3_faultOfAct_38 : decode cX3_faultOfAct 38 = .ok (.iload 4, 2) := by decide +kernel
theorem dX3_faultOfAct_40 : decode cX3_faultOfAct 40 = .ok (.ifCond .eq 7, 3) := by decide +kernel
theorem dX3_faultOfAct_43 : decode cX3_faultOfAct 43 = .ok (.iconst 0, 1) := by decide +kernel
theorem dX3_faultOfAct_44 : decode cX3_faultOfAct 44 = .ok (.goto 4, 3) := by decide +kernel
theorem dX3_faultOfAct_47 : decode cX3_faultOfAct 47 = .ok (.iconst 1, 1) := by decide +kernel
theorem dX3_faultOfAct_48 : decode cX3_faultOfAct 48 = .ok (.ireturn, 1) := by decide +kernel
theorem dX4_init_0 : decode cX4_init 0 = .ok (.aload_n 0, 1) := by decide +kernel
theorem dX4_init_1 : decode cX4_init 1 = .ok (.invokespecial 3, 3) := by decide +kernel
theorem dX4_init_4 : decode cX4_init 4 = .ok (.aload_n 0, 1) := by decide +kernel
theorem dX4_init_5 : decode cX4_init 5 = .ok (.new 9, 3) := by decide +kernel
theorem dX4_init_8 : decode cX4_init 8 = .ok (.dup, 1) := by decide +kernel
theorem dX4_init_9 : decode cX4_init 9 = .ok (.invokespecial 11, 3) := by decide +kernel
theorem dX4_init_12 : decode cX4_init 12 = .ok (.putfield 12, 3) := by decide +kernel
theorem dX4_init_15 : decode cX4_init 15 = .ok (.aload_n 0, 1) := by decide +kernel
theorem dX4_init_16 : decode cX4_init 16 = .ok (.sipush 1608, 3) := by decide +kernel
theorem dX4_init_19 : decode cX4_init 19 = .ok (.newarray .long, 2) := by decide +kernel
theorem dX4_init_21 : decode cX4_init 21 = .ok (.putfield 18, 3) := by decide +kernel
theorem dX4_init_24 : decode cX4_init 24 = .ok (.aload_n 0, 1) := by decide +kernel
theorem dX4_init_25 : decode cX4_init 25 = .ok (.iconst (-1), 1) := by decide +kernel
theorem dX4_init_26 : decode cX4_init 26 = .ok (.putfield 22, 3) := by decide +kernel
theorem dX4_init_29 : decode cX4_init 29 = .ok (.aload_n 0, 1) := by decide +kernel
theorem dX4_init_30 : decode cX4_init 30 = .ok (.iconst (-1), 1) := by decide +kernel
theorem dX4_init_31 : decode cX4_init 31 = .ok (.putfield 26, 3) := by decide +kernel
theorem dX4_init_34 : decode cX4_init 34 = .ok (.return_, 1) := by decide +kernel
theorem dX4_afterTurns_0 : decode cX4_afterTurns 0 = .ok (.aload_n 0, 1) := by decide +kernel
theorem dX4_afterTurns_1 : decode cX4_afterTurns 1 = .ok (.getfield 12, 3) := by decide +kernel
theorem dX4_afterTurns_4 : decode cX4_afterTurns 4 = .ok (.aload_n 1, 1) := by decide +kernel
theorem dX4_afterTurns_5 : decode cX4_afterTurns 5 = .ok (.invokevirtual 29, 3) := by decide +kernel
theorem dX4_afterTurns_8 : decode cX4_afterTurns 8 = .ok (.aload_n 0, 1) := by decide +kernel
theorem dX4_afterTurns_9 : decode cX4_afterTurns 9 = .ok (.getfield 12, 3) := by decide +kernel
theorem dX4_afterTurns_12 : decode cX4_afterTurns 12 = .ok (.iload_n 2, 1) := by decide +kernel
theorem dX4_afterTurns_13 : decode cX4_afterTurns 13 = .ok (.invokevirtual 33, 3) := by decide +kernel
theorem dX4_afterTurns_16 : decode cX4_afterTurns 16 = .ok (.pop, 1) := by decide +kernel
theorem dX4_afterTurns_17 : decode cX4_afterTurns 17 = .ok (.aload_n 0, 1) := by decide +kernel
theorem dX4_afterTurns_18 : decode cX4_afterTurns 18 = .ok (.getfield 12, 3) := by decide +kernel
theorem dX4_afterTurns_21 : decode cX4_afterTurns 21 = .ok (.areturn, 1) := by decide +kernel
theorem dX4_actorOf_0 : decode cX4_actorOf 0 = .ok (.aload_n 0, 1) := by decide +kernel
theorem dX4_actorOf_1 : decode cX4_actorOf 1 = .ok (.aload_n 1, 1) := by decide +kernel
theorem dX4_actorOf_2 : decode cX4_actorOf 2 = .ok (.iload_n 2, 1) := by decide +kernel
theorem dX4_actorOf_3 : decode cX4_actorOf 3 = .ok (.invokevirtual 37, 3) := by decide +kernel
theorem dX4_actorOf_6 : decode cX4_actorOf 6 = .ok (.invokevirtual 41, 3) := by decide +kernel
theorem dX4_actorOf_9 : decode cX4_actorOf 9 = .ok (.areturn, 1) := by decide +kernel
theorem dX4_timeOf_0 : decode cX4_timeOf 0 = .ok (.aload_n 0, 1) := by decide +kernel
theorem dX4_timeOf_1 : decode cX4_timeOf 1 = .ok (.aload_n 1, 1) := by decide +kernel
theorem dX4_timeOf_2 : decode cX4_timeOf 2 = .ok (.iload_n 2, 1) := by decide +kernel
theorem dX4_timeOf_3 : decode cX4_timeOf 3 = .ok (.invokevirtual 37, 3) := by decide +kernel
theorem dX4_timeOf_6 : decode cX4_timeOf 6 = .ok (.invokevirtual 41, 3) := by decide +kernel
theorem dX4_timeOf_9 : decode cX4_timeOf 9 = .ok (.astore_n 3, 1) := by decide +kernel
theorem dX4_timeOf_10 : decode cX4_timeOf 10 = .ok (.aload_n 3, 1) := by decide +kernel
theorem dX4_timeOf_11 : decode cX4_timeOf 11 = .ok (.aload_n 0, 1) := by decide +kernel
theorem dX4_timeOf_12 : decode cX4_timeOf 12 = .ok (.getfield 12, 3) := by decide +kernel
theorem dX4_timeOf_15 : decode cX4_timeOf 15 = .ok (.getfield 45, 3) := by decide +kernel
theorem dX4_timeOf_18 : decode cX4_timeOf 18 = .ok (.if_acmp .ne 7, 3) := by decide +kernel
theorem dX4_timeOf_21 : decode cX4_timeOf 21 = .ok (.iconst (-1), 1) := by decide +kernel
theorem dX4_timeOf_22 : decode cX4_timeOf 22 = .ok (.goto 10, 3) := by decide +kernel
theorem dX4_timeOf_25 : decode cX4_timeOf 25 = .ok (.aload_n 0, 1) := by decide +kernel
theorem dX4_timeOf_26 : decode cX4_timeOf 26 = .ok (.getfield 12, 3) := by decide +kernel
theorem dX4_timeOf_29 : decode cX4_timeOf 29 = .ok (.getfield 49, 3) := by decide +kernel
theorem dX4_timeOf_32 : decode cX4_timeOf 32 = .ok (.ireturn, 1) := by decide +kernel
theorem dX4_kindOf_0 : decode cX4_kindOf 0 = .ok (.aload_n 0, 1) := by decide +kernel
theorem dX4_kindOf_1 : decode cX4_kindOf 1 = .ok (.aload_n 1, 1) := by decide +kernel
theorem dX4_kindOf_2 : decode cX4_kindOf 2 = .ok (.iload_n 2, 1) := by decide +kernel
theorem dX4_kindOf_3 : decode cX4_kindOf 3 = .ok (.invokevirtual 37, 3) := by decide +kernel
theorem dX4_kindOf_6 : decode cX4_kindOf 6 = .ok (.invokevirtual 41, 3) := by decide +kernel
theorem dX4_kindOf_9 : decode cX4_kindOf 9 = .ok (.astore_n 3, 1) := by decide +kernel
theorem dX4_kindOf_10 : decode cX4_kindOf 10 = .ok (.aload_n 3, 1) := by decide +kernel
theorem dX4_kindOf_11 : decode cX4_kindOf 11 = .ok (.aload_n 3, 1) := by decide +kernel
theorem dX4_kindOf_12 : decode cX4_kindOf 12 = .ok (.getfield 52, 3) := by decide +kernel
theorem dX4_kindOf_15 : decode cX4_kindOf 15 = .ok (.invokevirtual 57, 3) := by decide +kernel
theorem dX4_kindOf_18 : decode cX4_kindOf 18 = .ok (.ireturn, 1) := by decide +kernel
theorem dX4_mostInARow_0 : decode cX4_mostInARow 0 = .ok (.aload_n 0, 1) := by decide +kernel
theorem dX4_mostInARow_1 : decode cX4_mostInARow 1 = .ok (.getfield 12, 3) := by decide +kernel
theorem dX4_mostInARow_4 : decode cX4_mostInARow 4 = .ok (.aload_n 1, 1) := by decide +kernel
theorem dX4_mostInARow_5 : decode cX4_mostInARow 5 = .ok (.invokevirtual 29, 3) := by decide +kernel
theorem dX4_mostInARow_8 : decode cX4_mostInARow 8 = .ok (.aload_n 0, 1) := by decide +kernel
theorem dX4_mostInARow_9 : decode cX4_mostInARow 9 = .ok (.getfield 12, 3) := by decide +kernel
theorem dX4_mostInARow_12 : decode cX4_mostInARow 12 = .ok (.getfield 45, 3) := by decide +kernel
theorem dX4_mostInARow_15 : decode cX4_mostInARow 15 = .ok (.astore_n 3, 1) := by decide +kernel
theorem dX4_mostInARow_16 : decode cX4_mostInARow 16 = .ok (.iconst 0, 1) := by decide +kernel
theorem dX4_mostInARow_17 : decode cX4_mostInARow 17 = .ok (.istore 4, 2) := by decide +kernel
theorem dX4_mostInARow_19 : decode cX4_mostInARow 19 = .ok (.iconst 0, 1) := by decide +kernel
theorem dX4_mostInARow_20 : decode cX4_mostInARow 20 = .ok (.istore 5, 2) := by decide +kernel
theorem dX4_mostInARow_22 : decode cX4_mostInARow 22 = .ok (.iconst 0, 1) := by decide +kernel
theorem dX4_mostInARow_23 : decode cX4_mostInARow 23 = .ok (.istore 6, 2) := by decide +kernel
theorem dX4_mostInARow_25 : decode cX4_mostInARow 25 = .ok (.iload 6, 2) := by decide +kernel
theorem dX4_mostInARow_27 : decode cX4_mostInARow 27 = .ok (.iload_n 2, 1) := by decide +kernel
theorem dX4_mostInARow_28 : decode cX4_mostInARow 28 = .ok (.if_icmp .ge 70, 3) := by decide +kernel
theorem dX4_mostInARow_31 : decode cX4_mostInARow 31 = .ok (.aload_n 0, 1) := by decide +kernel
theorem dX4_mostInARow_32 : decode cX4_mostInARow 32 = .ok (.getfield 12, 3) := by decide +kernel
theorem dX4_mostInARow_35 : decode cX4_mostInARow 35 = .ok (.invokevirtual 41, 3) := by decide +kernel
theorem dX4_mostInARow_38 : decode cX4_mostInARow 38 = .ok (.astore 7, 2) := by decide +kernel
theorem dX4_mostInARow_40 : decode cX4_mostInARow 40 = .ok (.aload 7, 2) := by decide +kernel
theorem dX4_mostInARow_42 : decode cX4_mostInARow 42 = .ok (.aload_n 0, 1) := by decide +kernel
theorem dX4_mostInARow_43 : decode cX4_mostInARow 43 = .ok (.getfield 12, 3) := by decide +kernel
theorem dX4_mostInARow_46 : decode cX4_mostInARow 46 = .ok (.getfield 45, 3) := by decide +kernel
theorem dX4_mostInARow_49 : decode cX4_mostInARow 49 = .ok (.if_acmp .ne 6, 3) := by decide +kernel
theorem dX4_mostInARow_52 : decode cX4_mostInARow 52 = .ok (.iload 5, 2) := by decide +kernel
theorem dX4_mostInARow_54 : decode cX4_mostInARow 54 = .ok (.ireturn, 1) := by decide +kernel
theorem dX4_mostInARow_55 : decode cX4_mostInARow 55 = .ok (.aload_n 0, 1) := by decide +kernel
theorem dX4_mostInARow_56 : decode cX4_mostInARow 56 = .ok (.getfield 12, 3) := by decide +kernel
theorem dX4_mostInARow_59 : decode cX4_mostInARow 59 = .ok (.aload 7, 2) := by decide +kernel
theorem dX4_mostInARow_61 : decode cX4_mostInARow 61 = .ok (.invokevirtual 60, 3) := by decide +kernel
theorem dX4_mostInARow_64 : decode cX4_mostInARow 64 = .ok (.aload 7, 2) := by decide +kernel
theorem dX4_mostInARow_66 : decode cX4_mostInARow 66 = .ok (.aload_n 3, 1) := by decide +kernel
theorem dX4_mostInARow_67 : decode cX4_mostInARow 67 = .ok (.if_acmp .ne 10, 3) := by decide +kernel
theorem dX4_mostInARow_70 : decode cX4_mostInARow 70 = .ok (.iload 4, 2) := by decide +kernel
theorem dX4_mostInARow_72 : decode cX4_mostInARow 72 = .ok (.iconst 1, 1) := by decide +kernel
theorem dX4_mostInARow_73 : decode cX4_mostInARow 73 = .ok (.iadd, 1) := by decide +kernel
theorem dX4_mostInARow_74 : decode cX4_mostInARow 74 = .ok (.goto 4, 3) := by decide +kernel
theorem dX4_mostInARow_77 : decode cX4_mostInARow 77 = .ok (.iconst 1, 1) := by decide +kernel
theorem dX4_mostInARow_78 : decode cX4_mostInARow 78 = .ok (.istore 4, 2) := by decide +kernel
theorem dX4_mostInARow_80 : decode cX4_mostInARow 80 = .ok (.iload 5, 2) := by decide +kernel
theorem dX4_mostInARow_82 : decode cX4_mostInARow 82 = .ok (.iload 4, 2) := by decide +kernel
theorem dX4_mostInARow_84 : decode cX4_mostInARow 84 = .ok (.invokestatic 64, 3) := by decide +kernel
theorem dX4_mostInARow_87 : decode cX4_mostInARow 87 = .ok (.istore 5, 2) := by decide +kernel
theorem dX4_mostInARow_89 : decode cX4_mostInARow 89 = .ok (.aload 7, 2) := by decide +kernel
theorem dX4_mostInARow_91 : decode cX4_mostInARow 91 = .ok (.astore_n 3, 1) := by decide +kernel
theorem dX4_mostInARow_92 : decode cX4_mostInARow 92 = .ok (.iinc 6 1, 3) := by decide +kernel
theorem dX4_mostInARow_95 : decode cX4_mostInARow 95 = .ok (.goto (-70), 3) := by decide +kernel
theorem dX4_mostInARow_98 : decode cX4_mostInARow 98 = .ok (.iload 5, 2) := by decide +kernel
theorem dX4_mostInARow_100 : decode cX4_mostInARow 100 = .ok (.ireturn, 1) := by decide +kernel
theorem dX4_turnsToEnd_0 : decode cX4_turnsToEnd 0 = .ok (.aload_n 0, 1) := by decide +kernel
theorem dX4_turnsToEnd_1 : decode cX4_turnsToEnd 1 = .ok (.getfield 12, 3) := by decide +kernel
theorem dX4_turnsToEnd_4 : decode cX4_turnsToEnd 4 = .ok (.aload_n 1, 1) := by decide +kernel
theorem dX4_turnsToEnd_5 : decode cX4_turnsToEnd 5 = .ok (.invokevirtual 29, 3) := by decide +kernel
theorem dX4_turnsToEnd_8 : decode cX4_turnsToEnd 8 = .ok (.aload_n 0, 1) := by decide +kernel
theorem dX4_turnsToEnd_9 : decode cX4_turnsToEnd 9 = .ok (.getfield 12, 3) := by decide +kernel
theorem dX4_turnsToEnd_12 : decode cX4_turnsToEnd 12 = .ok (.sipush 200, 3) := by decide +kernel
theorem dX4_turnsToEnd_15 : decode cX4_turnsToEnd 15 = .ok (.invokevirtual 33, 3) := by decide +kernel
theorem dX4_turnsToEnd_18 : decode cX4_turnsToEnd 18 = .ok (.istore_n 2, 1) := by decide +kernel
theorem dX4_turnsToEnd_19 : decode cX4_turnsToEnd 19 = .ok (.aload_n 0, 1) := by decide +kernel
theorem dX4_turnsToEnd_20 : decode cX4_turnsToEnd 20 = .ok (.getfield 12, 3) := by decide +kernel
theorem dX4_turnsToEnd_23 : decode cX4_turnsToEnd 23 = .ok (.invokevirtual 70, 3) := by decide +kernel
theorem dX4_turnsToEnd_26 : decode cX4_turnsToEnd 26 = .ok (.ifCond .eq 7, 3) := by decide +kernel
theorem dX4_turnsToEnd_29 : decode cX4_turnsToEnd 29 = .ok (.iload_n 2, 1) := by decide +kernel
theorem dX4_turnsToEnd_30 : decode cX4_turnsToEnd 30 = .ok (.goto 4, 3) := by decide +kernel
theorem dX4_turnsToEnd_33 : decode cX4_turnsToEnd 33 = .ok (.iconst (-1), 1) := by decide +kernel
theorem dX4_turnsToEnd_34 : decode cX4_turnsToEnd 34 = .ok (.ireturn, 1) := by decide +kernel
theorem dX4_turnOfLoss_0 : decode cX4_turnOfLoss 0 = .ok (.aload_n 0, 1) := by decide +kernel
theorem dX4_turnOfLoss_1 : decode cX4_turnOfLoss 1 = .ok (.getfield 12, 3) := by decide +kernel
theorem dX4_turnOfLoss_4 : decode cX4_turnOfLoss 4 = .ok (.aload_n 1, 1) := by decide +kernel
theorem dX4_turnOfLoss_5 : decode cX4_turnOfLoss 5 = .ok (.invokevirtual 29, 3) := by decide +kernel
theorem dX4_turnOfLoss_8 : decode cX4_turnOfLoss 8 = .ok (.aload_n 0, 1) := by decide +kernel
theorem dX4_turnOfLoss_9 : decode cX4_turnOfLoss 9 = .ok (.getfield 12, 3) := by decide +kernel
theorem dX4_turnOfLoss_12 : decode cX4_turnOfLoss 12 = .ok (.iload_n 2, 1) := by decide +kernel
theorem dX4_turnOfLoss_13 : decode cX4_turnOfLoss 13 = .ok (.invokevirtual 74, 3) := by decide +kernel
theorem dX4_turnOfLoss_16 : decode cX4_turnOfLoss 16 = .ok (.astore_n 3, 1) := by decide +kernel
theorem dX4_turnOfLoss_17 : decode cX4_turnOfLoss 17 = .ok (.iconst 1, 1) := by decide +kernel
theorem dX4_turnOfLoss_18 : decode cX4_turnOfLoss 18 = .ok (.istore 4, 2) := by decide +kernel
theorem dX4_turnOfLoss_20 : decode cX4_turnOfLoss 20 = .ok (.iload 4, 2) := by decide +kernel
theorem dX4_turnOfLoss_22 : decode cX4_turnOfLoss 22 = .ok (.sipush 200, 3) := by decide +kernel
theorem dX4_turnOfLoss_25 : decode cX4_turnOfLoss 25 = .ok (.if_icmp .gt 36, 3) := by decide +kernel
theorem dX4_turnOfLoss_28 : decode cX4_turnOfLoss 28 = .ok (.aload_n 3, 1) := by decide +kernel
theorem dX4_turnOfLoss_29 : decode cX4_turnOfLoss 29 = .ok (.getfield 78, 3) := by decide +kernel
theorem dX4_turnOfLoss_32 : decode cX4_turnOfLoss 32 = .ok (.istore 5, 2) := by decide +kernel
theorem dX4_turnOfLoss_34 : decode cX4_turnOfLoss 34 = .ok (.aload_n 0, 1) := by decide +kernel
theorem dX4_turnOfLoss_35 : decode cX4_turnOfLoss 35 = .ok (.getfield 12, 3) := by decide +kernel
theorem dX4_turnOfLoss_38 : decode cX4_turnOfLoss 38 = .ok (.iconst 1, 1) := by decide +kernel
theorem dX4_turnOfLoss_39 : decode cX4_turnOfLoss 39 = .ok (.invokevirtual 33, 3) := by decide +kernel
theorem dX4_turnOfLoss_42 : decode cX4_turnOfLoss 42 = .ok (.pop, 1) := by decide +kernel
theorem dX4_turnOfLoss_43 : decode cX4_turnOfLoss 43 = .ok (.aload_n 3, 1) := by decide +kernel
theorem dX4_turnOfLoss_44 : decode cX4_turnOfLoss 44 = .ok (.getfield 78, 3) := by decide +kernel
theorem dX4_turnOfLoss_47 : decode cX4_turnOfLoss 47 = .ok (.iload 5, 2) := by decide +kernel
theorem dX4_turnOfLoss_49 : decode cX4_turnOfLoss 49 = .ok (.if_icmp .ge 6, 3) := by decide +kernel
theorem dX4_turnOfLoss_52 : decode cX4_turnOfLoss 52 = .ok (.iload 4, 2) := by decide +kernel
theorem dX4_turnOfLoss_54 : decode cX4_turnOfLoss 54 = .ok (.ireturn, 1) := by decide +kernel
theorem dX4_turnOfLoss_55 : decode cX4_turnOfLoss 55 = .ok (.iinc 4 1, 3) := by decide +kernel
theorem dX4_turnOfLoss_58 : decode cX4_turnOfLoss 58 = .ok (.goto (-38), 3) := by decide +kernel
theorem dX4_turnOfLoss_61 : decode cX4_turnOfLoss 61 = .ok (.iconst (-1), 1) := by decide +kernel
theorem dX4_turnOfLoss_62 : decode cX4_turnOfLoss 62 = .ok (.ireturn, 1) := by decide +kernel
theorem dX4_findRepeat_0 : decode cX4_findRepeat 0 = .ok (.aload_n 0, 1) := by decide +kernel
theorem dX4_findRepeat_1 : decode cX4_findRepeat 1 = .ok (.iconst (-1), 1) := by decide +kernel
theorem dX4_findRepeat_2 : decode cX4_findRepeat 2 = .ok (.putfield 22, 3) := by decide +kernel
theorem dX4_findRepeat_5 : decode cX4_findRepeat 5 = .ok (.aload_n 0, 1) := by decide +kernel
theorem dX4_findRepeat_6 : decode cX4_findRepeat 6 = .ok (.iconst (-1), 1) := by decide +kernel
theorem dX4_findRepeat_7 : decode cX4_findRepeat 7 = .ok (.putfield 26, 3) := by decide +kernel
theorem dX4_findRepeat_10 : decode cX4_findRepeat 10 = .ok (.aload_n 0, 1) := by decide +kernel
theorem dX4_findRepeat_11 : decode cX4_findRepeat 11 = .ok (.getfield 12, 3) := by decide +kernel
theorem dX4_findRepeat_14 : decode cX4_findRepeat 14 = .ok (.aload_n 1, 1) := by decide +kernel
theorem dX4_findRepeat_15 : decode cX4_findRepeat 15 = .ok (.invokevirtual 29, 3) := by decide +kernel
theorem dX4_findRepeat_18 : decode cX4_findRepeat 18 = .ok (.aload_n 0, 1) := by decide +kernel
theorem dX4_findRepeat_19 : decode cX4_findRepeat 19 = .ok (.iconst 0, 1) := by decide +kernel
theorem dX4_findRepeat_20 : decode cX4_findRepeat 20 = .ok (.invokevirtual 81, 3) := by decide +kernel
theorem dX4_findRepeat_23 : decode cX4_findRepeat 23 = .ok (.iconst 1, 1) := by decide +kernel
theorem dX4_findRepeat_24 : decode cX4_findRepeat 24 = .ok (.istore_n 2, 1) := by decide +kernel
theorem dX4_findRepeat_25 : decode cX4_findRepeat 25 = .ok (.iload_n 2, 1) := by decide +kernel
theorem dX4_findRepeat_26 : decode cX4_findRepeat 26 = .ok (.sipush 200, 3) := by decide +kernel
theorem dX4_findRepeat_29 : decode cX4_findRepeat 29 = .ok (.if_icmp .gt 51, 3) := by decide +kernel
theorem dX4_findRepeat_32 : decode cX4_findRepeat 32 = .ok (.aload_n 0, 1) := by decide +kernel
theorem dX4_findRepeat_33 : decode cX4_findRepeat 33 = .ok (.getfield 12, 3) := by decide +kernel
theorem dX4_findRepeat_36 : decode cX4_findRepeat 36 = .ok (.iconst 1, 1) := by decide +kernel
theorem dX4_findRepeat_37 : decode cX4_findRepeat 37 = .ok (.invokevirtual 33, 3) := by decide +kernel
theorem dX4_findRepeat_40 : decode cX4_findRepeat 40 = .ok (.iconst 1, 1) := by decide +kernel
theorem dX4_findRepeat_41 : decode cX4_findRepeat 41 = .ok (.if_icmp .ge 4, 3) := by decide +kernel
theorem dX4_findRepeat_44 : decode cX4_findRepeat 44 = .ok (.return_, 1) := by decide +kernel
theorem dX4_findRepeat_45 : decode cX4_findRepeat 45 = .ok (.aload_n 0, 1) := by decide +kernel
theorem dX4_findRepeat_46 : decode cX4_findRepeat 46 = .ok (.iload_n 2, 1) := by decide +kernel
theorem dX4_findRepeat_47 : decode cX4_findRepeat 47 = .ok (.invokevirtual 81, 3) := by decide +kernel
theorem dX4_findRepeat_50 : decode cX4_findRepeat 50 = .ok (.aload_n 0, 1) := by decide +kernel
theorem dX4_findRepeat_51 : decode cX4_findRepeat 51 = .ok (.iload_n 2, 1) := by decide +kernel
theorem dX4_findRepeat_52 : decode cX4_findRepeat 52 = .ok (.invokevirtual 85, 3) := by decide +kernel
theorem dX4_findRepeat_55 : decode cX4_findRepeat 55 = .ok (.istore_n 3, 1) := by decide +kernel
theorem dX4_findRepeat_56 : decode cX4_findRepeat 56 = .ok (.iload_n 3, 1) := by decide +kernel
theorem dX4_findRepeat_57 : decode cX4_findRepeat 57 = .ok (.iconst (-1), 1) := by decide +kernel
theorem dX4_findRepeat_58 : decode cX4_findRepeat 58 = .ok (.if_icmp .eq 16, 3) := by decide +kernel
theorem dX4_findRepeat_61 : decode cX4_findRepeat 61 = .ok (.aload_n 0, 1) := by decide +kernel
theorem dX4_findRepeat_62 : decode cX4_findRepeat 62 = .ok (.iload_n 2, 1) := by decide +kernel
theorem dX4_findRepeat_63 : decode cX4_findRepeat 63 = .ok (.putfield 22, 3) := by decide +kernel
theorem dX4_findRepeat_66 : decode cX4_findRepeat 66 = .ok (.aload_n 0, 1) := by decide +kernel
theorem dX4_findRepeat_67 : decode cX4_findRepeat 67 = .ok (.iload_n 2, 1) := by decide +kernel
theorem dX4_findRepeat_68 : decode cX4_findRepeat 68 = .ok (.iload_n 3, 1) := by decide +kernel
theorem dX4_findRepeat_69 : decode cX4_findRepeat 69 = .ok (.isub, 1) := by decide +kernel
theorem dX4_findRepeat_70 : decode cX4_findRepeat 70 = .ok (.putfield 26, 3) := by decide +kernel
theorem dX4_findRepeat_73 : decode cX4_findRepeat 73 = .ok (.return_, 1) := by decide +kernel
theorem dX4_findRepeat_74 : decode cX4_findRepeat 74 = .ok (.iinc 2 1, 3) := by decide +kernel
theorem dX4_findRepeat_77 : decode cX4_findRepeat 77 = .ok (.goto (-52), 3) := by decide +kernel
theorem dX4_findRepeat_80 : decode cX4_findRepeat 80 = .ok (.return_, 1) := by decide +kernel
theorem dX4_note_0 : decode cX4_note 0 = .ok (.aload_n 0, 1) := by decide +kernel
theorem dX4_note_1 : decode cX4_note 1 = .ok (.getfield 12, 3) := by decide +kernel
theorem dX4_note_4 : decode cX4_note 4 = .ok (.getfield 88, 3) := by decide +kernel
theorem dX4_note_7 : decode cX4_note 7 = .ok (.astore_n 2, 1) := by decide +kernel
theorem dX4_note_8 : decode cX4_note 8 = .ok (.aload_n 2, 1) := by decide +kernel
theorem dX4_note_9 : decode cX4_note 9 = .ok (.arraylength, 1) := by decide +kernel
theorem dX4_note_10 : decode cX4_note 10 = .ok (.istore_n 3, 1) := by decide +kernel
theorem dX4_note_11 : decode cX4_note 11 = .ok (.iconst 0, 1) := by decide +kernel
theorem dX4_note_12 : decode cX4_note 12 = .ok (.istore 4, 2) := by decide +kernel
theorem dX4_note_14 : decode cX4_note 14 = .ok (.iload 4, 2) := by decide +kernel
theorem dX4_note_16 : decode cX4_note 16 = .ok (.iload_n 3, 1) := by decide +kernel
theorem dX4_note_17 : decode cX4_note 17 = .ok (.if_icmp .ge 54, 3) := by decide +kernel
theorem dX4_note_20 : decode cX4_note 20 = .ok (.aload_n 2, 1) := by decide +kernel
theorem dX4_note_21 : decode cX4_note 21 = .ok (.iload 4, 2) := by decide +kernel
theorem dX4_note_23 : decode cX4_note 23 = .ok (.aaload, 1) := by decide +kernel
theorem dX4_note_24 : decode cX4_note 24 = .ok (.astore 5, 2) := by decide +kernel
theorem dX4_note_26 : decode cX4_note 26 = .ok (.iload_n 1, 1) := by decide +kernel
theorem dX4_note_27 : decode cX4_note 27 = .ok (.bipush 8, 2) := by decide +kernel
theorem dX4_note_29 : decode cX4_note 29 = .ok (.imul, 1) := by decide +kernel
theorem dX4_note_30 : decode cX4_note 30 = .ok (.aload 5, 2) := by decide +kernel
theorem dX4_note_32 : decode cX4_note 32 = .ok (.getfield 92, 3) := by decide +kernel
theorem dX4_note_35 : decode cX4_note 35 = .ok (.iadd, 1) := by decide +kernel
theorem dX4_note_36 : decode cX4_note 36 = .ok (.istore 6, 2) := by decide +kernel
theorem dX4_note_38 : decode cX4_note 38 = .ok (.iload 6, 2) := by decide +kernel
theorem dX4_note_40 : decode cX4_note 40 = .ok (.ifCond .lt 25, 3) := by decide +kernel
theorem dX4_note_43 : decode cX4_note 43 = .ok (.iload 6, 2) := by decide +kernel
theorem dX4_note_45 : decode cX4_note 45 = .ok (.aload_n 0, 1) := by decide +kernel
theorem dX4_note_46 : decode cX4_note 46 = .ok (.getfield 18, 3) := by decide +kernel
theorem dX4_note_49 : decode cX4_note 49 = .ok (.arraylength, 1) := by decide +kernel
theorem dX4_note_50 : decode cX4_note 50 = .ok (.if_icmp .ge 15, 3) := by decide +kernel
theorem dX4_note_53 : decode cX4_note 53 = .ok (.aload_n 0, 1) := by decide +kernel
theorem dX4_note_54 : decode cX4_note 54 = .ok (.getfield 18, 3) := by decide +kernel
theorem dX4_note_57 : decode cX4_note 57 = .ok (.iload 6, 2) := by decide +kernel
theorem dX4_note_59 : decode cX4_note 59 = .ok (.aload 5, 2) := by decide +kernel
theorem dX4_note_61 : decode cX4_note 61 = .ok (.invokevirtual 95, 3) := by decide +kernel
theorem dX4_note_64 : decode cX4_note 64 = .ok (.lastore, 1) := by decide +kernel
theorem dX4_note_65 : decode cX4_note 65 = .ok (.iinc 4 1, 3) := by decide +kernel
theorem dX4_note_68 : decode cX4_note 68 = .ok (.goto (-54), 3) := by decide +kernel
theorem dX4_note_71 : decode cX4_note 71 = .ok (.return_, 1) := by decide +kernel
theorem dX4_sameBefore_0 : decode cX4_sameBefore 0 = .ok (.iload_n 1, 1) := by decide +kernel
theorem dX4_sameBefore_1 : decode cX4_sameBefore 1 = .ok (.iconst 1, 1) := by decide +kernel
theorem dX4_sameBefore_2 : decode cX4_sameBefore 2 = .ok (.isub, 1) := by decide +kernel
theorem dX4_sameBefore_3 : decode cX4_sameBefore 3 = .ok (.istore_n 2, 1) := by decide +kernel
theorem dX4_sameBefore_4 : decode cX4_sameBefore 4 = .ok (.iload_n 2, 1) := by decide +kernel
theorem dX4_sameBefore_5 : decode cX4_sameBefore 5 = .ok (.ifCond .lt 26, 3) := by decide +kernel
theorem dX4_sameBefore_8 : decode cX4_sameBefore 8 = .ok (.aload_n 0, 1) := by decide +kernel
theorem dX4_sameBefore_9 : decode cX4_sameBefore 9 = .ok (.iload_n 2, 1) := by decide +kernel
theorem dX4_sameBefore_10 : decode cX4_sameBefore 10 = .ok (.bipush 8, 2) := by decide +kernel
theorem dX4_sameBefore_12 : decode cX4_sameBefore 12 = .ok (.imul, 1) := by decide +kernel
theorem dX4_sameBefore_13 : decode cX4_sameBefore 13 = .ok (.iload_n 1, 1) := by decide +kernel
theorem dX4_sameBefore_14 : decode cX4_sameBefore 14 = .ok (.bipush 8, 2) := by decide +kernel
theorem dX4_sameBefore_16 : decode cX4_sameBefore 16 = .ok (.imul, 1) := by decide +kernel
theorem dX4_sameBefore_17 : decode cX4_sameBefore 17 = .ok (.invokevirtual 99, 3) := by decide +kernel
theorem dX4_sameBefore_20 : decode cX4_sameBefore 20 = .ok (.ifCond .eq 5, 3) := by decide +kernel
theorem dX4_sameBefore_23 : decode cX4_sameBefore 23 = .ok (.iload_n 2, 1) := by decide +kernel
theorem dX4_sameBefore_24 : decode cX4_sameBefore 24 = .ok (.ireturn, 1) := by decide +kernel
theorem dX4_sameBefore_25 : decode cX4_sameBefore 25 = .ok (.iinc 2 (-1), 3) := by decide +kernel
theorem dX4_sameBefore_28 : decode cX4_sameBefore 28 = .ok (.goto (-24), 3) := by decide +kernel
theorem dX4_sameBefore_31 : decode cX4_sameBefore 31 = .ok (.iconst (-1), 1) := by decide +kernel
theorem dX4_sameBefore_32 : decode cX4_sameBefore 32 = .ok (.ireturn, 1) := by decide +kernel
theorem dX4_isSame_0 : decode cX4_isSame 0 = .ok (.iload_n 1, 1) := by decide +kernel
theorem dX4_isSame_1 : decode cX4_isSame 1 = .ok (.ifCond .lt 31, 3) := by decide +kernel
theorem dX4_isSame_4 : decode cX4_isSame 4 = .ok (.iload_n 2, 1) := by decide +kernel
theorem dX4_isSame_5 : decode cX4_isSame 5 = .ok (.ifCond .lt 27, 3) := by decide +kernel
theorem dX4_isSame_8 : decode cX4_isSame 8 = .ok (.iload_n 1, 1) := by decide +kernel
theorem dX4_isSame_9 : decode cX4_isSame 9 = .ok (.aload_n 0, 1) := by decide +kernel
theorem dX4_isSame_10 : decode cX4_isSame 10 = .ok (.getfield 18, 3) := by decide +kernel
theorem dX4_isSame_13 : decode cX4_isSame 13 = .ok (.arraylength, 1) := by decide +kernel
theorem dX4_isSame_14 : decode cX4_isSame 14 = .ok (.bipush 8, 2) := by decide +kernel
theorem dX4_isSame_16 : decode cX4_isSame 16 = .ok (.isub, 1) := by decide +kernel
theorem dX4_isSame_17 : decode cX4_isSame 17 = .ok (.if_icmp .gt 15, 3) := by decide +kernel
theorem dX4_isSame_20 : decode cX4_isSame 20 = .ok (.iload_n 2, 1) := by decide +kernel
theorem dX4_isSame_21 : decode cX4_isSame 21 = .ok (.aload_n 0, 1) := by decide +kernel
theorem dX4_isSame_22 : decode cX4_isSame 22 = .ok (.getfield 18, 3) := by decide +kernel
theorem dX4_isSame_25 : decode cX4_isSame 25 = .ok (.arraylength, 1) := by decide +kernel
theorem dX4_isSame_26 : decode cX4_isSame 26 = .ok (.bipush 8, 2) := by decide +kernel
theorem dX4_isSame_28 : decode cX4_isSame 28 = .ok (.isub, 1) := by decide +kernel
theorem dX4_isSame_29 : decode cX4_isSame 29 = .ok (.if_icmp .le 5, 3) := by decide +kernel
theorem dX4_isSame_32 : decode cX4_isSame 32 = .ok (.iconst 0, 1) := by decide +kernel
theorem dX4_isSame_33 : decode cX4_isSame 33 = .ok (.ireturn, 1) := by decide +kernel
theorem dX4_isSame_34 : decode cX4_isSame 34 = .ok (.iconst 0, 1) := by decide +kernel
theorem dX4_isSame_35 : decode cX4_isSame 35 = .ok (.istore_n 3, 1) := by decide +kernel
theorem dX4_isSame_36 : decode cX4_isSame 36 = .ok (.iload_n 3, 1) := by decide +kernel
theorem dX4_isSame_37 : decode cX4_isSame 37 = .ok (.bipush 8, 2) := by decide +kernel
theorem dX4_isSame_39 : decode cX4_isSame 39 = .ok (.if_icmp .ge 31, 3) := by decide +kernel
theorem dX4_isSame_42 : decode cX4_isSame 42 = .ok (.aload_n 0, 1) := by decide +kernel
theorem dX4_isSame_43 : decode cX4_isSame 43 = .ok (.getfield 18, 3) := by decide +kernel
theorem dX4_isSame_46 : decode cX4_isSame 46 = .ok (.iload_n 1, 1) := by decide +kernel
theorem dX4_isSame_47 : decode cX4_isSame 47 = .ok (.iload_n 3, 1) := by decide +kernel
theorem dX4_isSame_48 : decode cX4_isSame 48 = .ok (.iadd, 1) := by decide +kernel
theorem dX4_isSame_49 : decode cX4_isSame 49 = .ok (.laload, 1) := by decide +kernel
theorem dX4_isSame_50 : decode cX4_isSame 50 = .ok (.aload_n 0, 1) := by decide +kernel
theorem dX4_isSame_51 : decode cX4_isSame 51 = .ok (.getfield 18, 3) := by decide +kernel
theorem dX4_isSame_54 : decode cX4_isSame 54 = .ok (.iload_n 2, 1) := by decide +kernel
theorem dX4_isSame_55 : decode cX4_isSame 55 = .ok (.iload_n 3, 1) := by decide +kernel
theorem dX4_isSame_56 : decode cX4_isSame 56 = .ok (.iadd, 1) := by decide +kernel
theorem dX4_isSame_57 : decode cX4_isSame 57 = .ok (.laload, 1) := by decide +kernel
theorem dX4_isSame_58 : decode cX4_isSame 58 = .ok (.lcmp, 1) := by decide +kernel
theorem dX4_isSame_59 : decode cX4_isSame 59 = .ok (.ifCond .eq 5, 3) := by decide +kernel
theorem dX4_isSame_62 : decode cX4_isSame 62 = .ok (.iconst 0, 1) := by decide +kernel
theorem dX4_isSame_63 : decode cX4_isSame 63 = .ok (.ireturn, 1) := by decide +kernel
theorem dX4_isSame_64 : decode cX4_isSame 64 = .ok (.iinc 3 1, 3) := by decide +kernel
theorem dX4_isSame_67 : decode cX4_isSame 67 = .ok (.goto (-31), 3) := by decide +kernel
theorem dX4_isSame_70 : decode cX4_isSame 70 = .ok (.iconst 1, 1) := by decide +kernel
theorem dX4_isSame_71 : decode cX4_isSame 71 = .ok (.ireturn, 1) := by decide +kernel
theorem dX4_speedToWin_0 : decode cX4_speedToWin 0 = .ok (.iconst 1, 1) := by decide +kernel
theorem dX4_speedToWin_1 : decode cX4_speedToWin 1 = .ok (.istore_n 3, 1) := by decide +kernel
theorem dX4_speedToWin_2 : decode cX4_speedToWin 2 = .ok (.iload_n 3, 1) := by decide +kernel
theorem dX4_speedToWin_3 : decode cX4_speedToWin 3 = .ok (.bipush 99, 2) := by decide +kernel
theorem dX4_speedToWin_5 : decode cX4_speedToWin 5 = .ok (.if_icmp .gt 59, 3) := by decide +kernel
theorem dX4_speedToWin_8 : decode cX4_speedToWin 8 = .ok (.aload_n 0, 1) := by decide +kernel
theorem dX4_speedToWin_9 : decode cX4_speedToWin 9 = .ok (.getfield 12, 3) := by decide +kernel
theorem dX4_speedToWin_12 : decode cX4_speedToWin 12 = .ok (.aload_n 1, 1) := by decide +kernel
theorem dX4_speedToWin_13 : decode cX4_speedToWin 13 = .ok (.invokevirtual 29, 3) := by decide +kernel
theorem dX4_speedToWin_16 : decode cX4_speedToWin 16 = .ok (.aload_n 0, 1) := by decide +kernel
theorem dX4_speedToWin_17 : decode cX4_speedToWin 17 = .ok (.getfield 12, 3) := by decide +kernel
theorem dX4_speedToWin_20 : decode cX4_speedToWin 20 = .ok (.aload_n 2, 1) := by decide +kernel
theorem dX4_speedToWin_21 : decode cX4_speedToWin 21 = .ok (.getfield 92, 3) := by decide +kernel
theorem dX4_speedToWin_24 : decode cX4_speedToWin 24 = .ok (.invokevirtual 74, 3) := by decide +kernel
theorem dX4_speedToWin_27 : decode cX4_speedToWin 27 = .ok (.iload_n 3, 1) := by decide +kernel
theorem dX4_speedToWin_28 : decode cX4_speedToWin 28 = .ok (.putfield 103, 3) := by decide +kernel
theorem dX4_speedToWin_31 : decode cX4_speedToWin 31 = .ok (.aload_n 0, 1) := by decide +kernel
theorem dX4_speedToWin_32 : decode cX4_speedToWin 32 = .ok (.getfield 12, 3) := by decide +kernel
theorem dX4_speedToWin_35 : decode cX4_speedToWin 35 = .ok (.sipush 200, 3) := by decide +kernel
theorem dX4_speedToWin_38 : decode cX4_speedToWin 38 = .ok (.invokevirtual 33, 3) := by decide +kernel
theorem dX4_speedToWin_41 : decode cX4_speedToWin 41 = .ok (.pop, 1) := by decide +kernel
theorem dX4_speedToWin_42 : decode cX4_speedToWin 42 = .ok (.aload_n 0, 1) := by decide +kernel
theorem dX4_speedToWin_43 : decode cX4_speedToWin 43 = .ok (.getfield 12, 3) := by decide +kernel
theorem dX4_speedToWin_46 : decode cX4_speedToWin 46 = .ok (.invokevirtual 106, 3) := by decide +kernel
theorem dX4_speedToWin_49 : decode cX4_speedToWin 49 = .ok (.aload_n 2, 1) := by decide +kernel
theorem dX4_speedToWin_50 : decode cX4_speedToWin 50 = .ok (.getfield 110, 3) := by decide +kernel
theorem dX4_speedToWin_53 : decode cX4_speedToWin 53 = .ok (.if_icmp .ne 5, 3) := by decide +kernel
theorem dX4_speedToWin_56 : decode cX4_speedToWin 56 = .ok (.iload_n 3, 1) := by decide +kernel
theorem dX4_speedToWin_57 : decode cX4_speedToWin 57 = .ok (.ireturn, 1) := by decide +kernel
theorem dX4_speedToWin_58 : decode cX4_speedToWin 58 = .ok (.iinc 3 1, 3) := by decide +kernel
theorem dX4_speedToWin_61 : decode cX4_speedToWin 61 = .ok (.goto (-59), 3) := by decide +kernel
theorem dX4_speedToWin_64 : decode cX4_speedToWin 64 = .ok (.iconst (-1), 1) := by decide +kernel
theorem dX4_speedToWin_65 : decode cX4_speedToWin 65 = .ok (.ireturn, 1) := by decide +kernel
theorem dX4_whomToPush_0 : decode cX4_whomToPush 0 = .ok (.iconst (-1), 1) := by decide +kernel
theorem dX4_whomToPush_1 : decode cX4_whomToPush 1 = .ok (.istore 4, 2) := by decide +kernel
theorem dX4_whomToPush_3 : decode cX4_whomToPush 3 = .ok (.iconst (-1), 1) := by decide +kernel
theorem dX4_whomToPush_4 : decode cX4_whomToPush 4 = .ok (.istore 5, 2) := by decide +kernel
theorem dX4_whomToPush_6 : decode cX4_whomToPush 6 = .ok (.aload_n 1, 1) := by decide +kernel
theorem dX4_whomToPush_7 : decode cX4_whomToPush 7 = .ok (.getfield 88, 3) := by decide +kernel
theorem dX4_whomToPush_10 : decode cX4_whomToPush 10 = .ok (.astore 6, 2) := by decide +kernel
theorem dX4_whomToPush_12 : decode cX4_whomToPush 12 = .ok (.aload 6, 2) := by decide +kernel
theorem dX4_whomToPush_14 : decode cX4_whomToPush 14 = .ok (.arraylength, 1) := by decide +kernel
theorem dX4_whomToPush_15 : decode cX4_whomToPush 15 = .ok (.istore 7, 2) := by decide +kernel
theorem dX4_whomToPush_17 : decode cX4_whomToPush 17 = .ok (.iconst 0, 1) := by decide +kernel
theorem dX4_whomToPush_18 : decode cX4_whomToPush 18 = .ok (.istore 8, 2) := by decide +kernel
theorem dX4_whomToPush_20 : decode cX4_whomToPush 20 = .ok (.iload 8, 2) := by decide +kernel
theorem dX4_whomToPush_22 : decode cX4_whomToPush 22 = .ok (.iload 7, 2) := by decide +kernel
theorem dX4_whomToPush_24 : decode cX4_whomToPush 24 = .ok (.if_icmp .ge 95, 3) := by decide +kernel
theorem dX4_whomToPush_27 : decode cX4_whomToPush 27 = .ok (.aload 6, 2) := by decide +kernel
theorem dX4_whomToPush_29 : decode cX4_whomToPush 29 = .ok (.iload 8, 2) := by decide +kernel
theorem dX4_whomToPush_31 : decode cX4_whomToPush 31 = .ok (.aaload, 1) := by decide +kernel
theorem dX4_whomToPush_32 : decode cX4_whomToPush 32 = .ok (.astore 9, 2) := by decide +kernel
theorem dX4_whomToPush_34 : decode cX4_whomToPush 34 = .ok (.aload 9, 2) := by decide +kernel
theorem dX4_whomToPush_36 : decode cX4_whomToPush 36 = .ok (.getfield 78, 3) := by decide +kernel
theorem dX4_whomToPush_39 : decode cX4_whomToPush 39 = .ok (.ifCond .le 74, 3) := by decide +kernel
theorem dX4_whomToPush_42 : decode cX4_whomToPush 42 = .ok (.aload 9, 2) := by decide +kernel
theorem dX4_whomToPush_44 : decode cX4_whomToPush 44 = .ok (.getfield 110, 3) := by decide +kernel
theorem dX4_whomToPush_47 : decode cX4_whomToPush 47 = .ok (.iload_n 2, 1) := by decide +kernel
theorem dX4_whomToPush_48 : decode cX4_whomToPush 48 = .ok (.if_icmp .eq 65, 3) := by decide +kernel
theorem dX4_whomToPush_51 : decode cX4_whomToPush 51 = .ok (.aload_n 0, 1) := by decide +kernel
theorem dX4_whomToPush_52 : decode cX4_whomToPush 52 = .ok (.getfield 12, 3) := by decide +kernel
theorem dX4_whomToPush_55 : decode cX4_whomToPush 55 = .ok (.aload_n 1, 1) := by decide +kernel
theorem dX4_whomToPush_56 : decode cX4_whomToPush 56 = .ok (.invokevirtual 29, 3) := by decide +kernel
theorem dX4_whomToPush_59 : decode cX4_whomToPush 59 = .ok (.aload_n 0, 1) := by decide +kernel
theorem dX4_whomToPush_60 : decode cX4_whomToPush 60 = .ok (.getfield 12, 3) := by decide +kernel
theorem dX4_whomToPush_63 : decode cX4_whomToPush 63 = .ok (.aload 9, 2) := by decide +kernel
theorem dX4_whomToPush_65 : decode cX4_whomToPush 65 = .ok (.getfield 92, 3) := by decide +kernel
theorem dX4_whomToPush_68 : decode cX4_whomToPush 68 = .ok (.invokevirtual 74, 3) := by decide +kernel
theorem dX4_whomToPush_71 : decode cX4_whomToPush 71 = .ok (.iload_n 3, 1) := by decide +kernel
theorem dX4_whomToPush_72 : decode cX4_whomToPush 72 = .ok (.invokevirtual 113, 3) := by decide +kernel
theorem dX4_whomToPush_75 : decode cX4_whomToPush 75 = .ok (.aload_n 0, 1) := by decide +kernel
theorem dX4_whomToPush_76 : decode cX4_whomToPush 76 = .ok (.getfield 12, 3) := by decide +kernel
theorem dX4_whomToPush_79 : decode cX4_whomToPush 79 = .ok (.bipush 20, 2) := by decide +kernel
theorem dX4_whomToPush_81 : decode cX4_whomToPush 81 = .ok (.invokevirtual 33, 3) := by decide +kernel
theorem dX4_whomToPush_84 : decode cX4_whomToPush 84 = .ok (.pop, 1) := by decide +kernel
theorem dX4_whomToPush_85 : decode cX4_whomToPush 85 = .ok (.aload_n 0, 1) := by decide +kernel
theorem dX4_whomToPush_86 : decode cX4_whomToPush 86 = .ok (.getfield 12, 3) := by decide +kernel
theorem dX4_whomToPush_89 : decode cX4_whomToPush 89 = .ok (.iload_n 2, 1) := by decide +kernel
theorem dX4_whomToPush_90 : decode cX4_whomToPush 90 = .ok (.invokevirtual 116, 3) := by decide +kernel
theorem dX4_whomToPush_93 : decode cX4_whomToPush 93 = .ok (.istore 10, 2) := by decide +kernel
theorem dX4_whomToPush_95 : decode cX4_whomToPush 95 = .ok (.iload 10, 2) := by decide +kernel
theorem dX4_whomToPush_97 : decode cX4_whomToPush 97 = .ok (.iload 5, 2) := by decide +kernel
theorem dX4_whomToPush_99 : decode cX4_whomToPush 99 = .ok (.if_icmp .le 14, 3) := by decide +kernel
theorem dX4_whomToPush_102 : decode cX4_whomToPush 102 = .ok (.iload 10, 2) := by decide +kernel
theorem dX4_whomToPush_104 : decode cX4_whomToPush 104 = .ok (.istore 5, 2) := by decide +kernel
theorem dX4_whomToPush_106 : decode cX4_whomToPush 106 = .ok (.aload 9, 2) := by decide +kernel
theorem dX4_whomToPush_108 : decode cX4_whomToPush 108 = .ok (.getfield 92, 3) := by decide +kernel
theorem dX4_whomToPush_111 : decode cX4_whomToPush 111 = .ok (.istore 4, 2) := by decide +kernel
theorem dX4_whomToPush_113 : decode cX4_whomToPush 113 = .ok (.iinc 8 1, 3) := by decide +kernel
theorem dX4_whomToPush_116 : decode cX4_whomToPush 116 = .ok (.goto (-96), 3) := by decide +kernel
theorem dX4_whomToPush_119 : decode cX4_whomToPush 119 = .ok (.iload 4, 2) := by decide +kernel
theorem dX4_whomToPush_121 : decode cX4_whomToPush 121 = .ok (.ireturn, 1) := by decide +kernel
theorem dX4_withWhomToSwap_0 : decode cX4_withWhomToSwap 0 = .ok (.aload_n 2, 1) := by decide +kernel
theorem dX4_withWhomToSwap_1 : decode cX4_withWhomToSwap 1 = .ok (.getfield 78, 3) := by decide +kernel
theorem dX4_withWhomToSwap_4 : decode cX4_withWhomToSwap 4 = .ok (.ifCond .gt 5, 3) := by decide +kernel
theorem dX4_withWhomToSwap_7 : decode cX4_withWhomToSwap 7 = .ok (.iconst (-1), 1) := by decide +kernel
theorem dX4_withWhomToSwap_8 : decode cX4_withWhomToSwap 8 = .ok (.ireturn, 1) := by decide +kernel
theorem dX4_withWhomToSwap_9 : decode cX4_withWhomToSwap 9 = .ok (.aload_n 0, 1) := by decide +kernel
theorem dX4_withWhomToSwap_10 : decode cX4_withWhomToSwap 10 = .ok (.getfield 12, 3) := by decide +kernel
theorem dX4_withWhomToSwap_13 : decode cX4_withWhomToSwap 13 = .ok (.aload_n 1, 1) := by decide +kernel
theorem dX4_withWhomToSwap_14 : decode cX4_withWhomToSwap 14 = .ok (.invokevirtual 29, 3) := by decide +kernel
theorem dX4_withWhomToSwap_17 : decode cX4_withWhomToSwap 17 = .ok (.aload_n 0, 1) := by decide +kernel
theorem dX4_withWhomToSwap_18 : decode cX4_withWhomToSwap 18 = .ok (.getfield 12, 3) := by decide +kernel
theorem dX4_withWhomToSwap_21 : decode cX4_withWhomToSwap 21 = .ok (.bipush 20, 2) := by decide +kernel
theorem dX4_withWhomToSwap_23 : decode cX4_withWhomToSwap 23 = .ok (.invokevirtual 33, 3) := by decide +kernel
theorem dX4_withWhomToSwap_26 : decode cX4_withWhomToSwap 26 = .ok (.pop, 1) := by decide +kernel
theorem dX4_withWhomToSwap_27 : decode cX4_withWhomToSwap 27 = .ok (.aload_n 0, 1) := by decide +kernel
theorem dX4_withWhomToSwap_28 : decode cX4_withWhomToSwap 28 = .ok (.getfield 12, 3) := by decide +kernel
theorem dX4_withWhomToSwap_31 : decode cX4_withWhomToSwap 31 = .ok (.aload_n 2, 1) := by decide +kernel
theorem dX4_withWhomToSwap_32 : decode cX4_withWhomToSwap 32 = .ok (.getfield 110, 3) := by decide +kernel
theorem dX4_withWhomToSwap_35 : decode cX4_withWhomToSwap 35 = .ok (.invokevirtual 116, 3) := by decide +kernel
theorem dX4_withWhomToSwap_38 : decode cX4_withWhomToSwap 38 = .ok (.istore_n 3, 1) := by decide +kernel
theorem dX4_withWhomToSwap_39 : decode cX4_withWhomToSwap 39 = .ok (.iconst (-1), 1) := by decide +kernel
theorem dX4_withWhomToSwap_40 : decode cX4_withWhomToSwap 40 = .ok (.istore 4, 2) := by decide +kernel
theorem dX4_withWhomToSwap_42 : decode cX4_withWhomToSwap 42 = .ok (.aload_n 1, 1) := by decide +kernel
theorem dX4_withWhomToSwap_43 : decode cX4_withWhomToSwap 43 = .ok (.getfield 88, 3) := by decide +kernel
theorem dX4_withWhomToSwap_46 : decode cX4_withWhomToSwap 46 = .ok (.astore 5, 2) := by decide +kernel
theorem dX4_withWhomToSwap_48 : decode cX4_withWhomToSwap 48 = .ok (.aload 5, 2) := by decide +kernel
theorem dX4_withWhomToSwap_50 : decode cX4_withWhomToSwap 50 = .ok (.arraylength, 1) := by decide +kernel
theorem dX4_withWhomToSwap_51 : decode cX4_withWhomToSwap 51 = .ok (.istore 6, 2) := by decide +kernel
theorem dX4_withWhomToSwap_53 : decode cX4_withWhomToSwap 53 = .ok (.iconst 0, 1) := by decide +kernel
theorem dX4_withWhomToSwap_54 : decode cX4_withWhomToSwap 54 = .ok (.istore 7, 2) := by decide +kernel
theorem dX4_withWhomToSwap_56 : decode cX4_withWhomToSwap 56 = .ok (.iload 7, 2) := by decide +kernel
theorem dX4_withWhomToSwap_58 : decode cX4_withWhomToSwap 58 = .ok (.iload 6, 2) := by decide +kernel
theorem dX4_withWhomToSwap_60 : decode cX4_withWhomToSwap 60 = .ok (.if_icmp .ge 127, 3) := by decide +kernel
theorem dX4_withWhomToSwap_63 : decode cX4_withWhomToSwap 63 = .ok (.aload 5, 2) := by decide +kernel
theorem dX4_withWhomToSwap_65 : decode cX4_withWhomToSwap 65 = .ok (.iload 7, 2) := by decide +kernel
theorem dX4_withWhomToSwap_67 : decode cX4_withWhomToSwap 67 = .ok (.aaload, 1) := by decide +kernel
theorem dX4_withWhomToSwap_68 : decode cX4_withWhomToSwap 68 = .ok (.astore 8, 2) := by decide +kernel
theorem dX4_withWhomToSwap_70 : decode cX4_withWhomToSwap 70 = .ok (.aload 8, 2) := by decide +kernel
theorem dX4_withWhomToSwap_72 : decode cX4_withWhomToSwap 72 = .ok (.aload_n 2, 1) := by decide +kernel
theorem dX4_withWhomToSwap_73 : decode cX4_withWhomToSwap 73 = .ok (.if_acmp .eq 108, 3) := by decide +kernel
theorem dX4_withWhomToSwap_76 : decode cX4_withWhomToSwap 76 = .ok (.aload 8, 2) := by decide +kernel
theorem dX4_withWhomToSwap_78 : decode cX4_withWhomToSwap 78 = .ok (.getfield 78, 3) := by decide +kernel
theorem dX4_withWhomToSwap_81 : decode cX4_withWhomToSwap 81 = .ok (.ifCond .le 100, 3) := by decide +kernel
theorem dX4_withWhomToSwap_84 : decode cX4_withWhomToSwap 84 = .ok (.aload 8, 2) := by decide +kernel
theorem dX4_withWhomToSwap_86 : decode cX4_withWhomToSwap 86 = .ok (.getfield 110, 3) := by decide +kernel
theorem dX4_withWhomToSwap_89 : decode cX4_withWhomToSwap 89 = .ok (.aload_n 2, 1) := by decide +kernel
theorem dX4_withWhomToSwap_90 : decode cX4_withWhomToSwap 90 = .ok (.getfield 110, 3) := by decide +kernel
theorem dX4_withWhomToSwap_93 : decode cX4_withWhomToSwap 93 = .ok (.if_icmp .ne 88, 3) := by decide +kernel
theorem dX4_withWhomToSwap_96 : decode cX4_withWhomToSwap 96 = .ok (.aload_n 0, 1) := by decide +kernel
theorem dX4_withWhomToSwap_97 : decode cX4_withWhomToSwap 97 = .ok (.getfield 12, 3) := by decide +kernel
theorem dX4_withWhomToSwap_100 : decode cX4_withWhomToSwap 100 = .ok (.aload_n 1, 1) := by decide +kernel
theorem dX4_withWhomToSwap_101 : decode cX4_withWhomToSwap 101 = .ok (.invokevirtual 29, 3) := by decide +kernel
theorem dX4_withWhomToSwap_104 : decode cX4_withWhomToSwap 104 = .ok (.aload_n 0, 1) := by decide +kernel
theorem dX4_withWhomToSwap_105 : decode cX4_withWhomToSwap 105 = .ok (.getfield 12, 3) := by decide +kernel
theorem dX4_withWhomToSwap_108 : decode cX4_withWhomToSwap 108 = .ok (.aload_n 2, 1) := by decide +kernel
theorem dX4_withWhomToSwap_109 : decode cX4_withWhomToSwap 109 = .ok (.getfield 92, 3) := by decide +kernel
theorem dX4_withWhomToSwap_112 : decode cX4_withWhomToSwap 112 = .ok (.invokevirtual 74, 3) := by decide +kernel
theorem dX4_withWhomToSwap_115 : decode cX4_withWhomToSwap 115 = .ok (.aload 8, 2) := by decide +kernel
theorem dX4_withWhomToSwap_117 : decode cX4_withWhomToSwap 117 = .ok (.getfield 119, 3) := by decide +kernel
theorem dX4_withWhomToSwap_120 : decode cX4_withWhomToSwap 120 = .ok (.putfield 119, 3) := by decide +kernel
theorem dX4_withWhomToSwap_123 : decode cX4_withWhomToSwap 123 = .ok (.aload_n 0, 1) := by decide +kernel
theorem dX4_withWhomToSwap_124 : decode cX4_withWhomToSwap 124 = .ok (.getfield 12, 3) := by decide +kernel
theorem dX4_withWhomToSwap_127 : decode cX4_withWhomToSwap 127 = .ok (.aload 8, 2) := by decide +kernel
theorem dX4_withWhomToSwap_129 : decode cX4_withWhomToSwap 129 = .ok (.getfield 92, 3) := by decide +kernel
theorem dX4_withWhomToSwap_132 : decode cX4_withWhomToSwap 132 = .ok (.invokevirtual 74, 3) := by decide +kernel
theorem dX4_withWhomToSwap_135 : decode cX4_withWhomToSwap 135 = .ok (.aload_n 2, 1) := by decide +kernel
theorem dX4_withWhomToSwap_136 : decode cX4_withWhomToSwap 136 = .ok (.getfield 119, 3) := by decide +kernel
theorem dX4_withWhomToSwap_139 : decode cX4_withWhomToSwap 139 = .ok (.putfield 119, 3) := by decide +kernel
theorem dX4_withWhomToSwap_142 : decode cX4_withWhomToSwap 142 = .ok (.aload_n 0, 1) := by decide +kernel
theorem dX4_withWhomToSwap_143 : decode cX4_withWhomToSwap 143 = .ok (.getfield 12, 3) := by decide +kernel
theorem dX4_withWhomToSwap_146 : decode cX4_withWhomToSwap 146 = .ok (.bipush 20, 2) := by decide +kernel
theorem dX4_withWhomToSwap_148 : decode cX4_withWhomToSwap 148 = .ok (.invokevirtual 33, 3) := by decide +kernel
theorem dX4_withWhomToSwap_151 : decode cX4_withWhomToSwap 151 = .ok (.pop, 1) := by decide +kernel
theorem dX4_withWhomToSwap_152 : decode cX4_withWhomToSwap 152 = .ok (.aload_n 0, 1) := by decide +kernel
theorem dX4_withWhomToSwap_153 : decode cX4_withWhomToSwap 153 = .ok (.getfield 12, 3) := by decide +kernel
theorem dX4_withWhomToSwap_156 : decode cX4_withWhomToSwap 156 = .ok (.aload_n 2, 1) := by decide +kernel
theorem dX4_withWhomToSwap_157 : decode cX4_withWhomToSwap 157 = .ok (.getfield 110, 3) := by decide +kernel
theorem dX4_withWhomToSwap_160 : decode cX4_withWhomToSwap 160 = .ok (.invokevirtual 116, 3) := by decide +kernel
theorem dX4_withWhomToSwap_163 : decode cX4_withWhomToSwap 163 = .ok (.istore 9, 2) := by decide +kernel
theorem dX4_withWhomToSwap_165 : decode cX4_withWhomToSwap 165 = .ok (.iload 9, 2) := by decide +kernel
theorem dX4_withWhomToSwap_167 : decode cX4_withWhomToSwap 167 = .ok (.iload_n 3, 1) := by decide +kernel
theorem dX4_withWhomToSwap_168 : decode cX4_withWhomToSwap 168 = .ok (.if_icmp .le 13, 3) := by decide +kernel
theorem dX4_withWhomToSwap_171 : decode cX4_withWhomToSwap 171 = .ok (.iload 9, 2) := by decide +kernel
theorem dX4_withWhomToSwap_173 : decode cX4_withWhomToSwap 173 = .ok (.istore_n 3, 1) := by decide +kernel
theorem dX4_withWhomToSwap_174 : decode cX4_withWhomToSwap 174 = .ok (.aload 8, 2) := by decide +kernel
theorem dX4_withWhomToSwap_176 : decode cX4_withWhomToSwap 176 = .ok (.getfield 92, 3) := by decide +kernel
theorem dX4_withWhomToSwap_179 : decode cX4_withWhomToSwap 179 = .ok (.istore 4, 2) := by decide +kernel
theorem dX4_withWhomToSwap_181 : decode cX4_withWhomToSwap 181 = .ok (.iinc 7 1, 3) := by decide +kernel
theorem dX4_withWhomToSwap_184 : decode cX4_withWhomToSwap 184 = .ok (.goto (-128), 3) := by decide +kernel
theorem dX4_withWhomToSwap_187 : decode cX4_withWhomToSwap 187 = .ok (.iload 4, 2) := by decide +kernel
theorem dX4_withWhomToSwap_189 : decode cX4_withWhomToSwap 189 = .ok (.ireturn, 1) := by decide +kernel
theorem dX4_whereToStart_0 : decode cX4_whereToStart 0 = .ok (.iconst (-1), 1) := by decide +kernel
theorem dX4_whereToStart_1 : decode cX4_whereToStart 1 = .ok (.istore_n 3, 1) := by decide +kernel
theorem dX4_whereToStart_2 : decode cX4_whereToStart 2 = .ok (.iconst (-1), 1) := by decide +kernel
theorem dX4_whereToStart_3 : decode cX4_whereToStart 3 = .ok (.istore 4, 2) := by decide +kernel
theorem dX4_whereToStart_5 : decode cX4_whereToStart 5 = .ok (.iconst 0, 1) := by decide +kernel
theorem dX4_whereToStart_6 : decode cX4_whereToStart 6 = .ok (.istore 5, 2) := by decide +kernel
theorem dX4_whereToStart_8 : decode cX4_whereToStart 8 = .ok (.iload 5, 2) := by decide +kernel
theorem dX4_whereToStart_10 : decode cX4_whereToStart 10 = .ok (.aload_n 2, 1) := by decide +kernel
theorem dX4_whereToStart_11 : decode cX4_whereToStart 11 = .ok (.getfield 122, 3) := by decide +kernel
theorem dX4_whereToStart_14 : decode cX4_whereToStart 14 = .ok (.if_icmp .ge 70, 3) := by decide +kernel
theorem dX4_whereToStart_17 : decode cX4_whereToStart 17 = .ok (.aload_n 0, 1) := by decide +kernel
theorem dX4_whereToStart_18 : decode cX4_whereToStart 18 = .ok (.getfield 12, 3) := by decide +kernel
theorem dX4_whereToStart_21 : decode cX4_whereToStart 21 = .ok (.aload_n 1, 1) := by decide +kernel
theorem dX4_whereToStart_22 : decode cX4_whereToStart 22 = .ok (.invokevirtual 29, 3) := by decide +kernel
theorem dX4_whereToStart_25 : decode cX4_whereToStart 25 = .ok (.aload_n 0, 1) := by decide +kernel
theorem dX4_whereToStart_26 : decode cX4_whereToStart 26 = .ok (.getfield 12, 3) := by decide +kernel
theorem dX4_whereToStart_29 : decode cX4_whereToStart 29 = .ok (.aload_n 2, 1) := by decide +kernel
theorem dX4_whereToStart_30 : decode cX4_whereToStart 30 = .ok (.getfield 92, 3) := by decide +kernel
theorem dX4_whereToStart_33 : decode cX4_whereToStart 33 = .ok (.invokevirtual 74, 3) := by decide +kernel
theorem dX4_whereToStart_36 : decode cX4_whereToStart 36 = .ok (.iload 5, 2) := by decide +kernel
theorem dX4_whereToStart_38 : decode cX4_whereToStart 38 = .ok (.putfield 52, 3) := by decide +kernel
theorem dX4_whereToStart_41 : decode cX4_whereToStart 41 = .ok (.aload_n 0, 1) := by decide +kernel
theorem dX4_whereToStart_42 : decode cX4_whereToStart 42 = .ok (.getfield 12, 3) := by decide +kernel
theorem dX4_whereToStart_45 : decode cX4_whereToStart 45 = .ok (.bipush 20, 2) := by decide +kernel
theorem dX4_whereToStart_47 : decode cX4_whereToStart 47 = .ok (.invokevirtual 33, 3) := by decide +kernel
theorem dX4_whereToStart_50 : decode cX4_whereToStart 50 = .ok (.pop, 1) := by decide +kernel
theorem dX4_whereToStart_51 : decode cX4_whereToStart 51 = .ok (.aload_n 0, 1) := by decide +kernel
theorem dX4_whereToStart_52 : decode cX4_whereToStart 52 = .ok (.getfield 12, 3) := by decide +kernel
theorem dX4_whereToStart_55 : decode cX4_whereToStart 55 = .ok (.aload_n 2, 1) := by decide +kernel
theorem dX4_whereToStart_56 : decode cX4_whereToStart 56 = .ok (.getfield 110, 3) := by decide +kernel
theorem dX4_whereToStart_59 : decode cX4_whereToStart 59 = .ok (.invokevirtual 116, 3) := by decide +kernel
theorem dX4_whereToStart_62 : decode cX4_whereToStart 62 = .ok (.istore 6, 2) := by decide +kernel
theorem dX4_whereToStart_64 : decode cX4_whereToStart 64 = .ok (.iload 6, 2) := by decide +kernel
theorem dX4_whereToStart_66 : decode cX4_whereToStart 66 = .ok (.iload 4, 2) := by decide +kernel
theorem dX4_whereToStart_68 : decode cX4_whereToStart 68 = .ok (.if_icmp .le 10, 3) := by decide +kernel
theorem dX4_whereToStart_71 : decode cX4_whereToStart 71 = .ok (.iload 6, 2) := by decide +kernel
theorem dX4_whereToStart_73 : decode cX4_whereToStart 73 = .ok (.istore 4, 2) := by decide +kernel
theorem dX4_whereToStart_75 : decode cX4_whereToStart 75 = .ok (.iload 5, 2) := by decide +kernel
theorem dX4_whereToStart_77 : decode cX4_whereToStart 77 = .ok (.istore_n 3, 1) := by decide +kernel
theorem dX4_whereToStart_78 : decode cX4_whereToStart 78 = .ok (.iinc 5 1, 3) := by decide +kernel
theorem dX4_whereToStart_81 : decode cX4_whereToStart 81 = .ok (.goto (-73), 3) := by decide +kernel
theorem dX4_whereToStart_84 : decode cX4_whereToStart 84 = .ok (.iload_n 3, 1) := by decide +kernel
theorem dX4_whereToStart_85 : decode cX4_whereToStart 85 = .ok (.ireturn, 1) := by decide +kernel
theorem dX5_init_0 : decode cX5_init 0 = .ok (.aload_n 0, 1) := by decide +kernel
theorem dX5_init_1 : decode cX5_init 1 = .ok (.invokespecial 3, 3) := by decide +kernel
theorem dX5_init_4 : decode cX5_init 4 = .ok (.aload_n 0, 1) := by decide +kernel
theorem dX5_init_5 : decode cX5_init 5 = .ok (.bipush 6, 2) := by decide +kernel
theorem dX5_init_7 : decode cX5_init 7 = .ok (.anewarray 9, 3) := by decide +kernel
theorem dX5_init_10 : decode cX5_init 10 = .ok (.putfield 11, 3) := by decide +kernel
theorem dX5_init_13 : decode cX5_init 13 = .ok (.aload_n 0, 1) := by decide +kernel
theorem dX5_init_14 : decode cX5_init 14 = .ok (.iconst 0, 1) := by decide +kernel
theorem dX5_init_15 : decode cX5_init 15 = .ok (.putfield 17, 3) := by decide +kernel
theorem dX5_init_18 : decode cX5_init 18 = .ok (.iconst 0, 1) := by decide +kernel
theorem dX5_init_19 : decode cX5_init 19 = .ok (.istore_n 1, 1) := by decide +kernel
theorem dX5_init_20 : decode cX5_init 20 = .ok (.iload_n 1, 1) := by decide +kernel
theorem dX5_init_21 : decode cX5_init 21 = .ok (.aload_n 0, 1) := by decide +kernel
theorem dX5_init_22 : decode cX5_init 22 = .ok (.getfield 11, 3) := by decide +kernel
theorem dX5_init_25 : decode cX5_init 25 = .ok (.arraylength, 1) := by decide +kernel
theorem dX5_init_26 : decode cX5_init 26 = .ok (.if_icmp .ge 22, 3) := by decide +kernel
theorem dX5_init_29 : decode cX5_init 29 = .ok (.aload_n 0, 1) := by decide +kernel
theorem dX5_init_30 : decode cX5_init 30 = .ok (.getfield 11, 3) := by decide +kernel
theorem dX5_init_33 : decode cX5_init 33 = .ok (.iload_n 1, 1) := by decide +kernel
theorem dX5_init_34 : decode cX5_init 34 = .ok (.new 9, 3) := by decide +kernel
theorem dX5_init_37 : decode cX5_init 37 = .ok (.dup, 1) := by decide +kernel
theorem dX5_init_38 : decode cX5_init 38 = .ok (.invokespecial 21, 3) := by decide +kernel
theorem dX5_init_41 : decode cX5_init 41 = .ok (.aastore, 1) := by decide +kernel
theorem dX5_init_42 : decode cX5_init 42 = .ok (.iinc 1 1, 3) := by decide +kernel
theorem dX5_init_45 : decode cX5_init 45 = .ok (.goto (-25), 3) := by decide +kernel
theorem dX5_init_48 : decode cX5_init 48 = .ok (.return_, 1) := by decide +kernel
theorem dX5_forget_0 : decode cX5_forget 0 = .ok (.aload_n 0, 1) := by decide +kernel
theorem dX5_forget_1 : decode cX5_forget 1 = .ok (.iconst 0, 1) := by decide +kernel
theorem dX5_forget_2 : decode cX5_forget 2 = .ok (.putfield 17, 3) := by decide +kernel
theorem dX5_forget_5 : decode cX5_forget 5 = .ok (.return_, 1) := by decide +kernel
theorem dX5_keep_0 : decode cX5_keep 0 = .ok (.aload_n 0, 1) := by decide +kernel
theorem dX5_keep_1 : decode cX5_keep 1 = .ok (.getfield 17, 3) := by decide +kernel
theorem dX5_keep_4 : decode cX5_keep 4 = .ok (.aload_n 0, 1) := by decide +kernel
theorem dX5_keep_5 : decode cX5_keep 5 = .ok (.getfield 11, 3) := by decide +kernel
theorem dX5_keep_8 : decode cX5_keep 8 = .ok (.arraylength, 1) := by decide +kernel
theorem dX5_keep_9 : decode cX5_keep 9 = .ok (.if_icmp .lt 7, 3) := by decide +kernel
theorem dX5_keep_12 : decode cX5_keep 12 = .ok (.aload_n 0, 1) := by decide +kernel
theorem dX5_keep_13 : decode cX5_keep 13 = .ok (.invokevirtual 22, 3) := by decide +kernel
theorem dX5_keep_16 : decode cX5_keep 16 = .ok (.aload_n 0, 1) := by decide +kernel
theorem dX5_keep_17 : decode cX5_keep 17 = .ok (.getfield 17, 3) := by decide +kernel
theorem dX5_keep_20 : decode cX5_keep 20 = .ok (.ifCond .lt 38, 3) := by decide +kernel
theorem dX5_keep_23 : decode cX5_keep 23 = .ok (.aload_n 0, 1) := by decide +kernel
theorem dX5_keep_24 : decode cX5_keep 24 = .ok (.getfield 17, 3) := by decide +kernel
theorem dX5_keep_27 : decode cX5_keep 27 = .ok (.aload_n 0, 1) := by decide +kernel
theorem dX5_keep_28 : decode cX5_keep 28 = .ok (.getfield 11, 3) := by decide +kernel
theorem dX5_keep_31 : decode cX5_keep 31 = .ok (.arraylength, 1) := by decide +kernel
theorem dX5_keep_32 : decode cX5_keep 32 = .ok (.if_icmp .ge 26, 3) := by decide +kernel
theorem dX5_keep_35 : decode cX5_keep 35 = .ok (.aload_n 0, 1) := by decide +kernel
theorem dX5_keep_36 : decode cX5_keep 36 = .ok (.getfield 11, 3) := by decide +kernel
theorem dX5_keep_39 : decode cX5_keep 39 = .ok (.aload_n 0, 1) := by decide +kernel
theorem dX5_keep_40 : decode cX5_keep 40 = .ok (.getfield 17, 3) := by decide +kernel
theorem dX5_keep_43 : decode cX5_keep 43 = .ok (.aaload, 1) := by decide +kernel
theorem dX5_keep_44 : decode cX5_keep 44 = .ok (.aload_n 1, 1) := by decide +kernel
theorem dX5_keep_45 : decode cX5_keep 45 = .ok (.invokevirtual 25, 3) := by decide +kernel
theorem dX5_keep_48 : decode cX5_keep 48 = .ok (.aload_n 0, 1) := by decide +kernel
theorem dX5_keep_49 : decode cX5_keep 49 = .ok (.dup, 1) := by decide +kernel
theorem dX5_keep_50 : decode cX5_keep 50 = .ok (.getfield 17, 3) := by decide +kernel
theorem dX5_keep_53 : decode cX5_keep 53 = .ok (.iconst 1, 1) := by decide +kernel
theorem dX5_keep_54 : decode cX5_keep 54 = .ok (.iadd, 1) := by decide +kernel
theorem dX5_keep_55 : decode cX5_keep 55 = .ok (.putfield 17, 3) := by decide +kernel
theorem dX5_keep_58 : decode cX5_keep 58 = .ok (.return_, 1) := by decide +kernel
theorem dX5_dropOldest_0 : decode cX5_dropOldest 0 = .ok (.aload_n 0, 1) := by decide +kernel
theorem dX5_dropOldest_1 : decode cX5_dropOldest 1 = .ok (.getfield 11, 3) := by decide +kernel
theorem dX5_dropOldest_4 : decode cX5_dropOldest 4 = .ok (.iconst 0, 1) := by decide +kernel
theorem dX5_dropOldest_5 : decode cX5_dropOldest 5 = .ok (.aaload, 1) := by decide +kernel
theorem dX5_dropOldest_6 : decode cX5_dropOldest 6 = .ok (.astore_n 1, 1) := by decide +kernel
theorem dX5_dropOldest_7 : decode cX5_dropOldest 7 = .ok (.iconst 1, 1) := by decide +kernel
theorem dX5_dropOldest_8 : decode cX5_dropOldest 8 = .ok (.istore_n 2, 1) := by decide +kernel
theorem dX5_dropOldest_9 : decode cX5_dropOldest 9 = .ok (.iload_n 2, 1) := by decide +kernel
theorem dX5_dropOldest_10 : decode cX5_dropOldest 10 = .ok (.aload_n 0, 1) := by decide +kernel
theorem dX5_dropOldest_11 : decode cX5_dropOldest 11 = .ok (.getfield 11, 3) := by decide +kernel
theorem dX5_dropOldest_14 : decode cX5_dropOldest 14 = .ok (.arraylength, 1) := by decide +kernel
theorem dX5_dropOldest_15 : decode cX5_dropOldest 15 = .ok (.if_icmp .ge 23, 3) := by decide +kernel
theorem dX5_dropOldest_18 : decode cX5_dropOldest 18 = .ok (.aload_n 0, 1) := by decide +kernel
theorem dX5_dropOldest_19 : decode cX5_dropOldest 19 = .ok (.getfield 11, 3) := by decide +kernel
theorem dX5_dropOldest_22 : decode cX5_dropOldest 22 = .ok (.iload_n 2, 1) := by decide +kernel
theorem dX5_dropOldest_23 : decode cX5_dropOldest 23 = .ok (.iconst 1, 1) := by decide +kernel
theorem dX5_dropOldest_24 : decode cX5_dropOldest 24 = .ok (.isub, 1) := by decide +kernel
theorem dX5_dropOldest_25 : decode cX5_dropOldest 25 = .ok (.aload_n 0, 1) := by decide +kernel
theorem dX5_dropOldest_26 : decode cX5_dropOldest 26 = .ok (.getfield 11, 3) := by decide +kernel
theorem dX5_dropOldest_29 : decode cX5_dropOldest 29 = .ok (.iload_n 2, 1) := by decide +kernel
theorem dX5_dropOldest_30 : decode cX5_dropOldest 30 = .ok (.aaload, 1) := by decide +kernel
theorem dX5_dropOldest_31 : decode cX5_dropOldest 31 = .ok (.aastore, 1) := by decide +kernel
theorem dX5_dropOldest_32 : decode cX5_dropOldest 32 = .ok (.iinc 2 1, 3) := by decide +kernel
theorem dX5_dropOldest_35 : decode cX5_dropOldest 35 = .ok (.goto (-26), 3) := by decide +kernel
theorem dX5_dropOldest_38 : decode cX5_dropOldest 38 = .ok (.aload_n 0, 1) := by decide +kernel
theorem dX5_dropOldest_39 : decode cX5_dropOldest 39 = .ok (.getfield 11, 3) := by decide +kernel
theorem dX5_dropOldest_42 : decode cX5_dropOldest 42 = .ok (.aload_n 0, 1) := by decide +kernel
theorem dX5_dropOldest_43 : decode cX5_dropOldest 43 = .ok (.getfield 11, 3) := by decide +kernel
theorem dX5_dropOldest_46 : decode cX5_dropOldest 46 = .ok (.arraylength, 1) := by decide +kernel
theorem dX5_dropOldest_47 : decode cX5_dropOldest 47 = .ok (.iconst 1, 1) := by decide +kernel
theorem dX5_dropOldest_48 : decode cX5_dropOldest 48 = .ok (.isub, 1) := by decide +kernel
theorem dX5_dropOldest_49 : decode cX5_dropOldest 49 = .ok (.aload_n 1, 1) := by decide +kernel
theorem dX5_dropOldest_50 : decode cX5_dropOldest 50 = .ok (.aastore, 1) := by decide +kernel
theorem dX5_dropOldest_51 : decode cX5_dropOldest 51 = .ok (.aload_n 0, 1) := by decide +kernel
theorem dX5_dropOldest_52 : decode cX5_dropOldest 52 = .ok (.aload_n 0, 1) := by decide +kernel
theorem dX5_dropOldest_53 : decode cX5_dropOldest 53 = .ok (.getfield 11, 3) := by decide +kernel
theorem dX5_dropOldest_56 : decode cX5_dropOldest 56 = .ok (.arraylength, 1) := by decide +kernel
theorem dX5_dropOldest_57 : decode cX5_dropOldest 57 = .ok (.iconst 1, 1) := by decide +kernel
theorem dX5_dropOldest_58 : decode cX5_dropOldest 58 = .ok (.isub, 1) := by decide +kernel
theorem dX5_dropOldest_59 : decode cX5_dropOldest 59 = .ok (.putfield 17, 3) := by decide +kernel
theorem dX5_dropOldest_62 : decode cX5_dropOldest 62 = .ok (.return_, 1) := by decide +kernel
theorem dX5_goBack_0 : decode cX5_goBack 0 = .ok (.aload_n 0, 1) := by decide +kernel
theorem dX5_goBack_1 : decode cX5_goBack 1 = .ok (.getfield 17, 3) := by decide +kernel
theorem dX5_goBack_4 : decode cX5_goBack 4 = .ok (.iconst 1, 1) := by decide +kernel
theorem dX5_goBack_5 : decode cX5_goBack 5 = .ok (.if_icmp .lt 15, 3) := by decide +kernel
theorem dX5_goBack_8 : decode cX5_goBack 8 = .ok (.aload_n 0, 1) := by decide +kernel
theorem dX5_goBack_9 : decode cX5_goBack 9 = .ok (.getfield 17, 3) := by decide +kernel
theorem dX5_goBack_12 : decode cX5_goBack 12 = .ok (.aload_n 0, 1) := by decide +kernel
theorem dX5_goBack_13 : decode cX5_goBack 13 = .ok (.getfield 11, 3) := by decide +kernel
theorem dX5_goBack_16 : decode cX5_goBack 16 = .ok (.arraylength, 1) := by decide +kernel
theorem dX5_goBack_17 : decode cX5_goBack 17 = .ok (.if_icmp .le 5, 3) := by decide +kernel
theorem dX5_goBack_20 : decode cX5_goBack 20 = .ok (.iconst 0, 1) := by decide +kernel
theorem dX5_goBack_21 : decode cX5_goBack 21 = .ok (.ireturn, 1) := by decide +kernel
theorem dX5_goBack_22 : decode cX5_goBack 22 = .ok (.aload_n 0, 1) := by decide +kernel
theorem dX5_goBack_23 : decode cX5_goBack 23 = .ok (.dup, 1) := by decide +kernel
theorem dX5_goBack_24 : decode cX5_goBack 24 = .ok (.getfield 17, 3) := by decide +kernel
theorem dX5_goBack_27 : decode cX5_goBack 27 = .ok (.iconst 1, 1) := by decide +kernel
theorem dX5_goBack_28 : decode cX5_goBack 28 = .ok (.isub, 1) := by decide +kernel
theorem dX5_goBack_29 : decode cX5_goBack 29 = .ok (.putfield 17, 3) := by decide +kernel
theorem dX5_goBack_32 : decode cX5_goBack 32 = .ok (.aload_n 1, 1) := by decide +kernel
theorem dX5_goBack_33 : decode cX5_goBack 33 = .ok (.aload_n 0, 1) := by decide +kernel
theorem dX5_goBack_34 : decode cX5_goBack 34 = .ok (.getfield 11, 3) := by decide +kernel
theorem dX5_goBack_37 : decode cX5_goBack 37 = .ok (.aload_n 0, 1) := by decide +kernel
theorem dX5_goBack_38 : decode cX5_goBack 38 = .ok (.getfield 17, 3) := by decide +kernel
theorem dX5_goBack_41 : decode cX5_goBack 41 = .ok (.aaload, 1) := by decide +kernel
theorem dX5_goBack_42 : decode cX5_goBack 42 = .ok (.invokevirtual 25, 3) := by decide +kernel
theorem dX5_goBack_45 : decode cX5_goBack 45 = .ok (.iconst 1, 1) := by decide +kernel
theorem dX5_goBack_46 : decode cX5_goBack 46 = .ok (.ireturn, 1) := by decide +kernel
theorem dX6_init_0 : decode cX6_init 0 = .ok (.aload_n 0, 1) := by decide +kernel
theorem dX6_init_1 : decode cX6_init 1 = .ok (.invokespecial 3, 3) := by decide +kernel
theorem dX6_init_4 : decode cX6_init 4 = .ok (.aload_n 0, 1) := by decide +kernel
theorem dX6_init_5 : decode cX6_init 5 = .ok (.bipush 60, 2) := by decide +kernel
theorem dX6_init_7 : decode cX6_init 7 = .ok (.anewarray 11, 3) := by decide +kernel
theorem dX6_init_10 : decode cX6_init 10 = .ok (.putfield 13, 3) := by decide +kernel
theorem dX6_init_13 : decode cX6_init 13 = .ok (.aload_n 0, 1) := by decide +kernel
theorem dX6_init_14 : decode cX6_init 14 = .ok (.iconst 2, 1) := by decide +kernel
theorem dX6_init_15 : decode cX6_init 15 = .ok (.newarray .int, 2) := by decide +kernel
theorem dX6_init_17 : decode cX6_init 17 = .ok (.putfield 17, 3) := by decide +kernel
theorem dX6_init_20 : decode cX6_init 20 = .ok (.aload_n 0, 1) := by decide +kernel
theorem dX6_init_21 : decode cX6_init 21 = .ok (.iconst 0, 1) := by decide +kernel
theorem dX6_init_22 : decode cX6_init 22 = .ok (.putfield 21, 3) := by decide +kernel
theorem dX6_init_25 : decode cX6_init 25 = .ok (.aload_n 0, 1) := by decide +kernel
theorem dX6_init_26 : decode cX6_init 26 = .ok (.iconst 0, 1) := by decide +kernel
theorem dX6_init_27 : decode cX6_init 27 = .ok (.putfield 25, 3) := by decide +kernel
theorem dX6_init_30 : decode cX6_init 30 = .ok (.aload_n 0, 1) := by decide +kernel
theorem dX6_init_31 : decode cX6_init 31 = .ok (.iconst 0, 1) := by decide +kernel
theorem dX6_init_32 : decode cX6_init 32 = .ok (.putfield 28, 3) := by decide +kernel
theorem dX6_init_35 : decode cX6_init 35 = .ok (.iconst 0, 1) := by decide +kernel
theorem dX6_init_36 : decode cX6_init 36 = .ok (.istore_n 1, 1) := by decide +kernel
theorem dX6_init_37 : decode cX6_init 37 = .ok (.iload_n 1, 1) := by decide +kernel
theorem dX6_init_38 : decode cX6_init 38 = .ok (.aload_n 0, 1) := by decide +kernel
theorem dX6_init_39 : decode cX6_init 39 = .ok (.getfield 13, 3) := by decide +kernel
theorem dX6_init_42 : decode cX6_init 42 = .ok (.arraylength, 1) := by decide +kernel
theorem dX6_init_43 : decode cX6_init 43 = .ok (.if_icmp .ge 22, 3) := by decide +kernel
theorem dX6_init_46 : decode cX6_init 46 = .ok (.aload_n 0, 1) := by decide +kernel
theorem dX6_init_47 : decode cX6_init 47 = .ok (.getfield 13, 3) := by decide +kernel
theorem dX6_init_50 : decode cX6_init 50 = .ok (.iload_n 1, 1) := by decide +kernel
theorem dX6_init_51 : decode cX6_init 51 = .ok (.new 11, 3) := by decide +kernel
theorem dX6_init_54 : decode cX6_init 54 = .ok (.dup, 1) := by decide +kernel
theorem dX6_init_55 : decode cX6_init 55 = .ok (.invokespecial 31, 3) := by decide +kernel
theorem dX6_init_58 : decode cX6_init 58 = .ok (.aastore, 1) := by decide +kernel
theorem dX6_init_59 : decode cX6_init 59 = .ok (.iinc 1 1, 3) := by decide +kernel
theorem dX6_init_62 : decode cX6_init 62 = .ok (.goto (-25), 3) := by decide +kernel
theorem dX6_init_65 : decode cX6_init 65 = .ok (.return_, 1) := by decide +kernel
theorem dX6_readFrom_0 : decode cX6_readFrom 0 = .ok (.aload_n 0, 1) := by decide +kernel
theorem dX6_readFrom_1 : decode cX6_readFrom 1 = .ok (.iconst 0, 1) := by decide +kernel
theorem dX6_readFrom_2 : decode cX6_readFrom 2 = .ok (.putfield 21, 3) := by decide +kernel
theorem dX6_readFrom_5 : decode cX6_readFrom 5 = .ok (.aload_n 0, 1) := by decide +kernel
theorem dX6_readFrom_6 : decode cX6_readFrom 6 = .ok (.iconst 0, 1) := by decide +kernel
theorem dX6_readFrom_7 : decode cX6_readFrom 7 = .ok (.putfield 25, 3) := by decide +kernel
theorem dX6_readFrom_10 : decode cX6_readFrom 10 = .ok (.aload_n 0, 1) := by decide +kernel
theorem dX6_readFrom_11 : decode cX6_readFrom 11 = .ok (.iconst 0, 1) := by decide +kernel
theorem dX6_readFrom_12 : decode cX6_readFrom 12 = .ok (.putfield 28, 3) := by decide +kernel
theorem dX6_readFrom_15 : decode cX6_readFrom 15 = .ok (.iconst 0, 1) := by decide +kernel
theorem dX6_readFrom_16 : decode cX6_readFrom 16 = .ok (.istore_n 3, 1) := by decide +kernel
theorem dX6_readFrom_17 : decode cX6_readFrom 17 = .ok (.iload_n 3, 1) := by decide +kernel
theorem dX6_readFrom_18 : decode cX6_readFrom 18 = .ok (.sipush 600, 3) := by decide +kernel
theorem dX6_readFrom_21 : decode cX6_readFrom 21 = .ok (.if_icmp .ge 55, 3) := by decide +kernel
theorem dX6_readFrom_24 : decode cX6_readFrom 24 = .ok (.aload_n 1, 1) := by decide +kernel
theorem dX6_readFrom_25 : decode cX6_readFrom 25 = .ok (.getfield 32, 3) := by decide +kernel
theorem dX6_readFrom_28 : decode cX6_readFrom 28 = .ok (.ifCond .eq 48, 3) := by decide +kernel
theorem dX6_readFrom_31 : decode cX6_readFrom 31 = .ok (.aload_n 0, 1) := by decide +kernel
theorem dX6_readFrom_32 : decode cX6_readFrom 32 = .ok (.getfield 28, 3) := by decide +kernel
theorem dX6_readFrom_35 : decode cX6_readFrom 35 = .ok (.ifCond .le 29, 3) := by decide +kernel
theorem dX6_readFrom_38 : decode cX6_readFrom 38 = .ok (.aload_n 1, 1) := by decide +kernel
theorem dX6_readFrom_39 : decode cX6_readFrom 39 = .ok (.bipush 41, 2) := by decide +kernel
theorem dX6_readFrom_41 : decode cX6_readFrom 41 = .ok (.invokevirtual 37, 3) := by decide +kernel
theorem dX6_readFrom_44 : decode cX6_readFrom 44 = .ok (.ifCond .eq 20, 3) := by decide +kernel
theorem dX6_readFrom_47 : decode cX6_readFrom 47 = .ok (.aload_n 1, 1) := by decide +kernel
theorem dX6_readFrom_48 : decode cX6_readFrom 48 = .ok (.invokevirtual 41, 3) := by decide +kernel
theorem dX6_readFrom_51 : decode cX6_readFrom 51 = .ok (.aload_n 1, 1) := by decide +kernel
theorem dX6_readFrom_52 : decode cX6_readFrom 52 = .ok (.bipush 59, 2) := by decide +kernel
theorem dX6_readFrom_54 : decode cX6_readFrom 54 = .ok (.invokevirtual 44, 3) := by decide +kernel
theorem dX6_readFrom_57 : decode cX6_readFrom 57 = .ok (.aload_n 0, 1) := by decide +kernel
theorem dX6_readFrom_58 : decode cX6_readFrom 58 = .ok (.invokevirtual 48, 3) := by decide +kernel
theorem dX6_readFrom_61 : decode cX6_readFrom 61 = .ok (.goto 9, 3) := by decide +kernel
theorem dX6_readFrom_64 : decode cX6_readFrom 64 = .ok (.aload_n 0, 1) := by decide +kernel
theorem dX6_readFrom_65 : decode cX6_readFrom 65 = .ok (.aload_n 1, 1) := by decide +kernel
theorem dX6_readFrom_66 : decode cX6_readFrom 66 = .ok (.aload_n 2, 1) := by decide +kernel
theorem dX6_readFrom_67 : decode cX6_readFrom 67 = .ok (.invokevirtual 51, 3) := by decide +kernel
theorem dX6_readFrom_70 : decode cX6_readFrom 70 = .ok (.iinc 3 1, 3) := by decide +kernel
theorem dX6_readFrom_73 : decode cX6_readFrom 73 = .ok (.goto (-56), 3) := by decide +kernel
theorem dX6_readFrom_76 : decode cX6_readFrom 76 = .ok (.aload_n 0, 1) := by decide +kernel
theorem dX6_readFrom_77 : decode cX6_readFrom 77 = .ok (.getfield 28, 3) := by decide +kernel
theorem dX6_readFrom_80 : decode cX6_readFrom 80 = .ok (.ifCond .le 8, 3) := by decide +kernel
theorem dX6_readFrom_83 : decode cX6_readFrom 83 = .ok (.aload_n 1, 1) := by decide +kernel
theorem dX6_readFrom_84 : decode cX6_readFrom 84 = .ok (.iconst 1, 1) := by decide +kernel
theorem dX6_readFrom_85 : decode cX6_readFrom 85 = .ok (.invokevirtual 55, 3) := by decide +kernel
theorem dX6_readFrom_88 : decode cX6_readFrom 88 = .ok (.return_, 1) := by decide +kernel
theorem dX6_readCommand_0 : decode cX6_readCommand 0 = .ok (.aload_n 1, 1) := by decide +kernel
theorem dX6_readCommand_1 : decode cX6_readCommand 1 = .ok (.invokestatic 59, 3) := by decide +kernel
theorem dX6_readCommand_4 : decode cX6_readCommand 4 = .ok (.istore_n 3, 1) := by decide +kernel
theorem dX6_readCommand_5 : decode cX6_readCommand 5 = .ok (.iload_n 3, 1) := by decide +kernel
theorem dX6_readCommand_6 : decode cX6_readCommand 6 = .ok (.iconst (-1), 1) := by decide +kernel
theorem dX6_readCommand_7 : decode cX6_readCommand 7 = .ok (.if_icmp .ne 8, 3) := by decide +kernel
theorem dX6_readCommand_10 : decode cX6_readCommand 10 = .ok (.aload_n 1, 1) := by decide +kernel
theorem dX6_readCommand_11 : decode cX6_readCommand 11 = .ok (.iconst 1, 1) := by decide +kernel
theorem dX6_readCommand_12 : decode cX6_readCommand 12 = .ok (.invokevirtual 55, 3) := by decide +kernel
theorem dX6_readCommand_15 : decode cX6_readCommand 15 = .ok (.iload_n 3, 1) := by decide +kernel
theorem dX6_readCommand_16 : decode cX6_readCommand 16 = .ok (.bipush 8, 2) := by decide +kernel
theorem dX6_readCommand_18 : decode cX6_readCommand 18 = .ok (.if_icmp .ne 16, 3) := by decide +kernel
theorem dX6_readCommand_21 : decode cX6_readCommand 21 = .ok (.aload_n 0, 1) := by decide +kernel
theorem dX6_readCommand_22 : decode cX6_readCommand 22 = .ok (.getfield 28, 3) := by decide +kernel
theorem dX6_readCommand_25 : decode cX6_readCommand 25 = .ok (.iconst 2, 1) := by decide +kernel
theorem dX6_readCommand_26 : decode cX6_readCommand 26 = .ok (.if_icmp .lt 8, 3) := by decide +kernel
theorem dX6_readCommand_29 : decode cX6_readCommand 29 = .ok (.aload_n 1, 1) := by decide +kernel
theorem dX6_readCommand_30 : decode cX6_readCommand 30 = .ok (.iconst 3, 1) := by decide +kernel
theorem dX6_readCommand_31 : decode cX6_readCommand 31 = .ok (.invokevirtual 55, 3) := by decide +kernel
theorem dX6_readCommand_34 : decode cX6_readCommand 34 = .ok (.aload_n 0, 1) := by decide +kernel
theorem dX6_readCommand_35 : decode cX6_readCommand 35 = .ok (.getfield 25, 3) := by decide +kernel
theorem dX6_readCommand_38 : decode cX6_readCommand 38 = .ok (.bipush 30, 2) := by decide +kernel
theorem dX6_readCommand_40 : decode cX6_readCommand 40 = .ok (.if_icmp .lt 8, 3) := by decide +kernel
theorem dX6_readCommand_43 : decode cX6_readCommand 43 = .ok (.aload_n 1, 1) := by decide +kernel
theorem dX6_readCommand_44 : decode cX6_readCommand 44 = .ok (.iconst 5, 1) := by decide +kernel
theorem dX6_readCommand_45 : decode cX6_readCommand 45 = .ok (.invokevirtual 55, 3) := by decide +kernel
theorem dX6_readCommand_48 : decode cX6_readCommand 48 = .ok (.aload_n 0, 1) := by decide +kernel
theorem dX6_readCommand_49 : decode cX6_readCommand 49 = .ok (.dup, 1) := by decide +kernel
theorem dX6_readCommand_50 : decode cX6_readCommand 50 = .ok (.getfield 25, 3) := by decide +kernel
theorem dX6_readCommand_53 : decode cX6_readCommand 53 = .ok (.iconst 1, 1) := by decide +kernel
theorem dX6_readCommand_54 : decode cX6_readCommand 54 = .ok (.iadd, 1) := by decide +kernel
theorem dX6_readCommand_55 : decode cX6_readCommand 55 = .ok (.putfield 25, 3) := by decide +kernel
theorem dX6_readCommand_58 : decode cX6_readCommand 58 = .ok (.aload_n 1, 1) := by decide +kernel
theorem dX6_readCommand_59 : decode cX6_readCommand 59 = .ok (.invokevirtual 41, 3) := by decide +kernel
theorem dX6_readCommand_62 : decode cX6_readCommand 62 = .ok (.aload_n 0, 1) := by decide +kernel
theorem dX6_readCommand_63 : decode cX6_readCommand 63 = .ok (.iload_n 3, 1) := by decide +kernel
theorem dX6_readCommand_64 : decode cX6_readCommand 64 = .ok (.invokevirtual 63, 3) := by decide +kernel
theorem dX6_readCommand_67 : decode cX6_readCommand 67 = .ok (.astore 4, 2) := by decide +kernel
theorem dX6_readCommand_69 : decode cX6_readCommand 69 = .ok (.iload_n 3, 1) := by decide +kernel
theorem dX6_readCommand_70 : decode cX6_readCommand 70 = .ok (.bipush 8, 2) := by decide +kernel
theorem dX6_readCommand_72 : decode cX6_readCommand 72 = .ok (.if_icmp .ne 28, 3) := by decide +kernel
theorem dX6_readCommand_75 : decode cX6_readCommand 75 = .ok (.aload 4, 2) := by decide +kernel
theorem dX6_readCommand_77 : decode cX6_readCommand 77 = .ok (.aload_n 1, 1) := by decide +kernel
theorem dX6_readCommand_78 : decode cX6_readCommand 78 = .ok (.iconst 1, 1) := by decide +kernel
theorem dX6_readCommand_79 : decode cX6_readCommand 79 = .ok (.bipush 20, 2) := by decide +kernel
theorem dX6_readCommand_81 : decode cX6_readCommand 81 = .ok (.invokevirtual 67, 3) := by decide +kernel
theorem dX6_readCommand_84 : decode cX6_readCommand 84 = .ok (.putfield 71, 3) := by decide +kernel
theorem dX6_readCommand_87 : decode cX6_readCommand 87 = .ok (.aload_n 1, 1) := by decide +kernel
theorem dX6_readCommand_88 : decode cX6_readCommand 88 = .ok (.bipush 40, 2) := by decide +kernel
theorem dX6_readCommand_90 : decode cX6_readCommand 90 = .ok (.invokevirtual 44, 3) := by decide +kernel
theorem dX6_readCommand_93 : decode cX6_readCommand 93 = .ok (.aload_n 0, 1) := by decide +kernel
theorem dX6_readCommand_94 : decode cX6_readCommand 94 = .ok (.invokevirtual 74, 3) := by decide +kernel
theorem dX6_readCommand_97 : decode cX6_readCommand 97 = .ok (.goto 16, 3) := by decide +kernel
theorem dX6_readCommand_100 : decode cX6_readCommand 100 = .ok (.aload 4, 2) := by decide +kernel
theorem dX6_readCommand_102 : decode cX6_readCommand 102 = .ok (.aload_n 1, 1) := by decide +kernel
theorem dX6_readCommand_103 : decode cX6_readCommand 103 = .ok (.aload_n 2, 1) := by decide +kernel
theorem dX6_readCommand_104 : decode cX6_readCommand 104 = .ok (.invokestatic 77, 3) := by decide +kernel
theorem dX6_readCommand_107 : decode cX6_readCommand 107 = .ok (.aload_n 1, 1) := by decide +kernel
theorem dX6_readCommand_108 : decode cX6_readCommand 108 = .ok (.bipush 59, 2) := by decide +kernel
theorem dX6_readCommand_110 : decode cX6_readCommand 110 = .ok (.invokevirtual 44, 3) := by decide +kernel
theorem dX6_readCommand_113 : decode cX6_readCommand 113 = .ok (.return_, 1) := by decide +kernel
theorem dX6_whatHere_0 : decode cX6_whatHere 0 = .ok (.iconst 0, 1) := by decide +kernel
theorem dX6_whatHere_1 : decode cX6_whatHere 1 = .ok (.istore_n 1, 1) := by decide +kernel
theorem dX6_whatHere_2 : decode cX6_whatHere 2 = .ok (.iload_n 1, 1) := by decide +kernel
theorem dX6_whatHere_3 : decode cX6_whatHere 3 = .ok (.bipush 9, 2) := by decide +kernel
theorem dX6_whatHere_5 : decode cX6_whatHere 5 = .ok (.if_icmp .ge 22, 3) := by decide +kernel
theorem dX6_whatHere_8 : decode cX6_whatHere 8 = .ok (.aload_n 0, 1) := by decide +kernel
theorem dX6_whatHere_9 : decode cX6_whatHere 9 = .ok (.iload_n 1, 1) := by decide +kernel
theorem dX6_whatHere_10 : decode cX6_whatHere 10 = .ok (.invokestatic 81, 3) := by decide +kernel
theorem dX6_whatHere_13 : decode cX6_whatHere 13 = .ok (.invokevirtual 85, 3) := by decide +kernel
theorem dX6_whatHere_16 : decode cX6_whatHere 16 = .ok (.ifCond .eq 5, 3) := by decide +kernel
theorem dX6_whatHere_19 : decode cX6_whatHere 19 = .ok (.iload_n 1, 1) := by decide +kernel
theorem dX6_whatHere_20 : decode cX6_whatHere 20 = .ok (.ireturn, 1) := by decide +kernel
theorem dX6_whatHere_21 : decode cX6_whatHere 21 = .ok (.iinc 1 1, 3) := by decide +kernel
theorem dX6_whatHere_24 : decode cX6_whatHere 24 = .ok (.goto (-22), 3) := by decide +kernel
theorem dX6_whatHere_27 : decode cX6_whatHere 27 = .ok (.iconst (-1), 1) := by decide +kernel
theorem dX6_whatHere_28 : decode cX6_whatHere 28 = .ok (.ireturn, 1) := by decide +kernel
theorem dX6_readArguments_0 : decode cX6_readArguments 0 = .ok (.aload_n 0, 1) := by decide +kernel
theorem dX6_readArguments_1 : decode cX6_readArguments 1 = .ok (.getfield 89, 3) := by decide +kernel
theorem dX6_readArguments_4 : decode cX6_readArguments 4 = .ok (.ifCond .eq 21, 3) := by decide +kernel
theorem dX6_readArguments_7 : decode cX6_readArguments 7 = .ok (.aload_n 0, 1) := by decide +kernel
theorem dX6_readArguments_8 : decode cX6_readArguments 8 = .ok (.getfield 89, 3) := by decide +kernel
theorem dX6_readArguments_11 : decode cX6_readArguments 11 = .ok (.bipush 6, 2) := by decide +kernel
theorem dX6_readArguments_13 : decode cX6_readArguments 13 = .ok (.if_icmp .eq 12, 3) := by decide +kernel
theorem dX6_readArguments_16 : decode cX6_readArguments 16 = .ok (.aload_n 0, 1) := by decide +kernel
theorem dX6_readArguments_17 : decode cX6_readArguments 17 = .ok (.aload_n 1, 1) := by decide +kernel
theorem dX6_readArguments_18 : decode cX6_readArguments 18 = .ok (.aload_n 2, 1) := by decide +kernel
theorem dX6_readArguments_19 : decode cX6_readArguments 19 = .ok (.invokestatic 92, 3) := by decide +kernel
theorem dX6_readArguments_22 : decode cX6_readArguments 22 = .ok (.putfield 96, 3) := by decide +kernel
theorem dX6_readArguments_25 : decode cX6_readArguments 25 = .ok (.aload_n 0, 1) := by decide +kernel
theorem dX6_readArguments_26 : decode cX6_readArguments 26 = .ok (.getfield 89, 3) := by decide +kernel
theorem dX6_readArguments_29 : decode cX6_readArguments 29 = .ok (.iconst 3, 1) := by decide +kernel
theorem dX6_readArguments_30 : decode cX6_readArguments 30 = .ok (.if_icmp .eq 15, 3) := by decide +kernel
theorem dX6_readArguments_33 : decode cX6_readArguments 33 = .ok (.aload_n 0, 1) := by decide +kernel
theorem dX6_readArguments_34 : decode cX6_readArguments 34 = .ok (.aload_n 1, 1) := by decide +kernel
theorem dX6_readArguments_35 : decode cX6_readArguments 35 = .ok (.iconst 0, 1) := by decide +kernel
theorem dX6_readArguments_36 : decode cX6_readArguments 36 = .ok (.sipush 999, 3) := by decide +kernel
theorem dX6_readArguments_39 : decode cX6_readArguments 39 = .ok (.invokevirtual 67, 3) := by decide +kernel
theorem dX6_readArguments_42 : decode cX6_readArguments 42 = .ok (.putfield 71, 3) := by decide +kernel
theorem dX6_readArguments_45 : decode cX6_readArguments 45 = .ok (.aload_n 0, 1) := by decide +kernel
theorem dX6_readArguments_46 : decode cX6_readArguments 46 = .ok (.getfield 89, 3) := by decide +kernel
theorem dX6_readArguments_49 : decode cX6_readArguments 49 = .ok (.bipush 7, 2) := by decide +kernel
theorem dX6_readArguments_51 : decode cX6_readArguments 51 = .ok (.if_icmp .ne 40, 3) := by decide +kernel
theorem dX6_readArguments_54 : decode cX6_readArguments 54 = .ok (.aload_n 0, 1) := by decide +kernel
theorem dX6_readArguments_55 : decode cX6_readArguments 55 = .ok (.aload_n 1, 1) := by decide +kernel
theorem dX6_readArguments_56 : decode cX6_readArguments 56 = .ok (.invokestatic 99, 3) := by decide +kernel
theorem dX6_readArguments_59 : decode cX6_readArguments 59 = .ok (.putfield 104, 3) := by decide +kernel
theorem dX6_readArguments_62 : decode cX6_readArguments 62 = .ok (.aload_n 0, 1) := by decide +kernel
theorem dX6_readArguments_63 : decode cX6_readArguments 63 = .ok (.getfield 104, 3) := by decide +kernel
theorem dX6_readArguments_66 : decode cX6_readArguments 66 = .ok (.iconst (-1), 1) := by decide +kernel
theorem dX6_readArguments_67 : decode cX6_readArguments 67 = .ok (.if_icmp .ne 8, 3) := by decide +kernel
theorem dX6_readArguments_70 : decode cX6_readArguments 70 = .ok (.aload_n 1, 1) := by decide +kernel
theorem dX6_readArguments_71 : decode cX6_readArguments 71 = .ok (.iconst 1, 1) := by decide +kernel
theorem dX6_readArguments_72 : decode cX6_readArguments 72 = .ok (.invokevirtual 55, 3) := by decide +kernel
theorem dX6_readArguments_75 : decode cX6_readArguments 75 = .ok (.aload_n 1, 1) := by decide +kernel
theorem dX6_readArguments_76 : decode cX6_readArguments 76 = .ok (.invokevirtual 41, 3) := by decide +kernel
theorem dX6_readArguments_79 : decode cX6_readArguments 79 = .ok (.aload_n 0, 1) := by decide +kernel
theorem dX6_readArguments_80 : decode cX6_readArguments 80 = .ok (.aload_n 1, 1) := by decide +kernel
theorem dX6_readArguments_81 : decode cX6_readArguments 81 = .ok (.iconst 0, 1) := by decide +kernel
theorem dX6_readArguments_82 : decode cX6_readArguments 82 = .ok (.sipush 999, 3) := by decide +kernel
theorem dX6_readArguments_85 : decode cX6_readArguments 85 = .ok (.invokevirtual 67, 3) := by decide +kernel
theorem dX6_readArguments_88 : decode cX6_readArguments 88 = .ok (.putfield 107, 3) := by decide +kernel
theorem dX6_readArguments_91 : decode cX6_readArguments 91 = .ok (.return_, 1) := by decide +kernel
theorem dX6_readName_0 : decode cX6_readName 0 = .ok (.aload_n 0, 1) := by decide +kernel
theorem dX6_readName_1 : decode cX6_readName 1 = .ok (.getfield 32, 3) := by decide +kernel
theorem dX6_readName_4 : decode cX6_readName 4 = .ok (.iconst 1, 1) := by decide +kernel
theorem dX6_readName_5 : decode cX6_readName 5 = .ok (.if_icmp .eq 8, 3) := by decide +kernel
theorem dX6_readName_8 : decode cX6_readName 8 = .ok (.aload_n 0, 1) := by decide +kernel
theorem dX6_readName_9 : decode cX6_readName 9 = .ok (.iconst 1, 1) := by decide +kernel
theorem dX6_readName_10 : decode cX6_readName 10 = .ok (.invokevirtual 55, 3) := by decide +kernel
theorem dX6_readName_13 : decode cX6_readName 13 = .ok (.aload_n 1, 1) := by decide +kernel
theorem dX6_readName_14 : decode cX6_readName 14 = .ok (.aload_n 0, 1) := by decide +kernel
theorem dX6_readName_15 : decode cX6_readName 15 = .ok (.getfield 110, 3) := by decide +kernel
theorem dX6_readName_18 : decode cX6_readName 18 = .ok (.invokevirtual 114, 3) := by decide +kernel
theorem dX6_readName_21 : decode cX6_readName 21 = .ok (.istore_n 2, 1) := by decide +kernel
theorem dX6_readName_22 : decode cX6_readName 22 = .ok (.iload_n 2, 1) := by decide +kernel
theorem dX6_readName_23 : decode cX6_readName 23 = .ok (.iconst (-1), 1) := by decide +kernel
theorem dX6_readName_24 : decode cX6_readName 24 = .ok (.if_icmp .ne 8, 3) := by decide +kernel
theorem dX6_readName_27 : decode cX6_readName 27 = .ok (.aload_n 0, 1) := by decide +kernel
theorem dX6_readName_28 : decode cX6_readName 28 = .ok (.iconst 4, 1) := by decide +kernel
theorem dX6_readName_29 : decode cX6_readName 29 = .ok (.invokevirtual 55, 3) := by decide +kernel
theorem dX6_readName_32 : decode cX6_readName 32 = .ok (.aload_n 0, 1) := by decide +kernel
theorem dX6_readName_33 : decode cX6_readName 33 = .ok (.invokevirtual 41, 3) := by decide +kernel
theorem dX6_readName_36 : decode cX6_readName 36 = .ok (.iload_n 2, 1) := by decide +kernel
theorem dX6_readName_37 : decode cX6_readName 37 = .ok (.ireturn, 1) := by decide +kernel
theorem dX6_added_0 : decode cX6_added 0 = .ok (.iconst 0, 1) := by decide +kernel
theorem dX6_added_1 : decode cX6_added 1 = .ok (.aload_n 0, 1) := by decide +kernel
theorem dX6_added_2 : decode cX6_added 2 = .ok (.getfield 21, 3) := by decide +kernel
theorem dX6_added_5 : decode cX6_added 5 = .ok (.aload_n 0, 1) := by decide +kernel
theorem dX6_added_6 : decode cX6_added 6 = .ok (.getfield 13, 3) := by decide +kernel
theorem dX6_added_9 : decode cX6_added 9 = .ok (.arraylength, 1) := by decide +kernel
theorem dX6_added_10 : decode cX6_added 10 = .ok (.iconst 1, 1) := by decide +kernel
theorem dX6_added_11 : decode cX6_added 11 = .ok (.isub, 1) := by decide +kernel
theorem dX6_added_12 : decode cX6_added 12 = .ok (.invokestatic 120, 3) := by decide +kernel
theorem dX6_added_15 : decode cX6_added 15 = .ok (.invokestatic 125, 3) := by decide +kernel
theorem dX6_added_18 : decode cX6_added 18 = .ok (.istore_n 2, 1) := by decide +kernel
theorem dX6_added_19 : decode cX6_added 19 = .ok (.aload_n 0, 1) := by decide +kernel
theorem dX6_added_20 : decode cX6_added 20 = .ok (.iload_n 2, 1) := by decide +kernel
theorem dX6_added_21 : decode cX6_added 21 = .ok (.iconst 1, 1) := by decide +kernel
theorem dX6_added_22 : decode cX6_added 22 = .ok (.iadd, 1) := by decide +kernel
theorem dX6_added_23 : decode cX6_added 23 = .ok (.putfield 21, 3) := by decide +kernel
theorem dX6_added_26 : decode cX6_added 26 = .ok (.aload_n 0, 1) := by decide +kernel
theorem dX6_added_27 : decode cX6_added 27 = .ok (.getfield 13, 3) := by decide +kernel
theorem dX6_added_30 : decode cX6_added 30 = .ok (.iload_n 2, 1) := by decide +kernel
theorem dX6_added_31 : decode cX6_added 31 = .ok (.aaload, 1) := by decide +kernel
theorem dX6_added_32 : decode cX6_added 32 = .ok (.iload_n 1, 1) := by decide +kernel
theorem dX6_added_33 : decode cX6_added 33 = .ok (.invokevirtual 128, 3) := by decide +kernel
theorem dX6_added_36 : decode cX6_added 36 = .ok (.aload_n 0, 1) := by decide +kernel
theorem dX6_added_37 : decode cX6_added 37 = .ok (.getfield 13, 3) := by decide +kernel
theorem dX6_added_40 : decode cX6_added 40 = .ok (.iload_n 2, 1) := by decide +kernel
theorem dX6_added_41 : decode cX6_added 41 = .ok (.aaload, 1) := by decide +kernel
theorem dX6_added_42 : decode cX6_added 42 = .ok (.areturn, 1) := by decide +kernel
theorem dX6_openRepeat_0 : decode cX6_openRepeat 0 = .ok (.aload_n 0, 1) := by decide +kernel
theorem dX6_openRepeat_1 : decode cX6_openRepeat 1 = .ok (.getfield 28, 3) := by decide +kernel
theorem dX6_openRepeat_4 : decode cX6_openRepeat 4 = .ok (.ifCond .lt 40, 3) := by decide +kernel
theorem dX6_openRepeat_7 : decode cX6_openRepeat 7 = .ok (.aload_n 0, 1) := by decide +kernel
theorem dX6_openRepeat_8 : decode cX6_openRepeat 8 = .ok (.getfield 28, 3) := by decide +kernel
theorem dX6_openRepeat_11 : decode cX6_openRepeat 11 = .ok (.aload_n 0, 1) := by decide +kernel
theorem dX6_openRepeat_12 : decode cX6_openRepeat 12 = .ok (.getfield 17, 3) := by decide +kernel
theorem dX6_openRepeat_15 : decode cX6_openRepeat 15 = .ok (.arraylength, 1) := by decide +kernel
theorem dX6_openRepeat_16 : decode cX6_openRepeat 16 = .ok (.if_icmp .ge 28, 3) := by decide +kernel
theorem dX6_openRepeat_19 : decode cX6_openRepeat 19 = .ok (.aload_n 0, 1) := by decide +kernel
theorem dX6_openRepeat_20 : decode cX6_openRepeat 20 = .ok (.getfield 17, 3) := by decide +kernel
theorem dX6_openRepeat_23 : decode cX6_openRepeat 23 = .ok (.aload_n 0, 1) := by decide +kernel
theorem dX6_openRepeat_24 : decode cX6_openRepeat 24 = .ok (.getfield 28, 3) := by decide +kernel
theorem dX6_openRepeat_27 : decode cX6_openRepeat 27 = .ok (.aload_n 0, 1) := by decide +kernel
theorem dX6_openRepeat_28 : decode cX6_openRepeat 28 = .ok (.getfield 21, 3) := by decide +kernel
theorem dX6_openRepeat_31 : decode cX6_openRepeat 31 = .ok (.iconst 1, 1) := by decide +kernel
theorem dX6_openRepeat_32 : decode cX6_openRepeat 32 = .ok (.isub, 1) := by decide +kernel
theorem dX6_openRepeat_33 : decode cX6_openRepeat 33 = .ok (.iastore, 1) := by decide +kernel
theorem dX6_openRepeat_34 : decode cX6_openRepeat 34 = .ok (.aload_n 0, 1) := by decide +kernel
theorem dX6_openRepeat_35 : decode cX6_openRepeat 35 = .ok (.dup, 1) := by decide +kernel
theorem dX6_openRepeat_36 : decode cX6_openRepeat 36 = .ok (.getfield 28, 3) := by decide +kernel
theorem dX6_openRepeat_39 : decode cX6_openRepeat 39 = .ok (.iconst 1, 1) := by decide +kernel
theorem dX6_openRepeat_40 : decode cX6_openRepeat 40 = .ok (.iadd, 1) := by decide +kernel
theorem dX6_openRepeat_41 : decode cX6_openRepeat 41 = .ok (.putfield 28, 3) := by decide +kernel
theorem dX6_openRepeat_44 : decode cX6_openRepeat 44 = .ok (.return_, 1) := by decide +kernel
theorem dX6_closeRepeat_0 : decode cX6_closeRepeat 0 = .ok (.aload_n 0, 1) := by decide +kernel
theorem dX6_closeRepeat_1 : decode cX6_closeRepeat 1 = .ok (.getfield 28, 3) := by decide +kernel
theorem dX6_closeRepeat_4 : decode cX6_closeRepeat 4 = .ok (.ifCond .le 43, 3) := by decide +kernel
theorem dX6_closeRepeat_7 : decode cX6_closeRepeat 7 = .ok (.aload_n 0, 1) := by decide +kernel
theorem dX6_closeRepeat_8 : decode cX6_closeRepeat 8 = .ok (.getfield 28, 3) := by decide +kernel
theorem dX6_closeRepeat_11 : decode cX6_closeRepeat 11 = .ok (.aload_n 0, 1) := by decide +kernel
theorem dX6_closeRepeat_12 : decode cX6_closeRepeat 12 = .ok (.getfield 17, 3) := by decide +kernel
theorem dX6_closeRepeat_15 : decode cX6_closeRepeat 15 = .ok (.arraylength, 1) := by decide +kernel
theorem dX6_closeRepeat_16 : decode cX6_closeRepeat 16 = .ok (.if_icmp .gt 31, 3) := by decide +kernel
theorem dX6_closeRepeat_19 : decode cX6_closeRepeat 19 = .ok (.aload_n 0, 1) := by decide +kernel
theorem dX6_closeRepeat_20 : decode cX6_closeRepeat 20 = .ok (.dup, 1) := by decide +kernel
theorem dX6_closeRepeat_21 : decode cX6_closeRepeat 21 = .ok (.getfield 28, 3) := by decide +kernel
theorem dX6_closeRepeat_24 : decode cX6_closeRepeat 24 = .ok (.iconst 1, 1) := by decide +kernel
theorem dX6_closeRepeat_25 : decode cX6_closeRepeat 25 = .ok (.isub, 1) := by decide +kernel
theorem dX6_closeRepeat_26 : decode cX6_closeRepeat 26 = .ok (.putfield 28, 3) := by decide +kernel
theorem dX6_closeRepeat_29 : decode cX6_closeRepeat 29 = .ok (.aload_n 0, 1) := by decide +kernel
theorem dX6_closeRepeat_30 : decode cX6_closeRepeat 30 = .ok (.bipush 9, 2) := by decide +kernel
theorem dX6_closeRepeat_32 : decode cX6_closeRepeat 32 = .ok (.invokevirtual 63, 3) := by decide +kernel
theorem dX6_closeRepeat_35 : decode cX6_closeRepeat 35 = .ok (.aload_n 0, 1) := by decide +kernel
theorem dX6_closeRepeat_36 : decode cX6_closeRepeat 36 = .ok (.getfield 17, 3) := by decide +kernel
theorem dX6_closeRepeat_39 : decode cX6_closeRepeat 39 = .ok (.aload_n 0, 1) := by decide +kernel
theorem dX6_closeRepeat_40 : decode cX6_closeRepeat 40 = .ok (.getfield 28, 3) := by decide +kernel
theorem dX6_closeRepeat_43 : decode cX6_closeRepeat 43 = .ok (.iaload, 1) := by decide +kernel
theorem dX6_closeRepeat_44 : decode cX6_closeRepeat 44 = .ok (.putfield 131, 3) := by decide +kernel
theorem dX6_closeRepeat_47 : decode cX6_closeRepeat 47 = .ok (.return_, 1) := by decide +kernel
theorem dX6_runOn_0 : decode cX6_runOn 0 = .ok (.iconst 0, 1) := by decide +kernel
theorem dX6_runOn_1 : decode cX6_runOn 1 = .ok (.istore_n 2, 1) := by decide +kernel
theorem dX6_runOn_2 : decode cX6_runOn 2 = .ok (.iconst 0, 1) := by decide +kernel
theorem dX6_runOn_3 : decode cX6_runOn 3 = .ok (.istore_n 3, 1) := by decide +kernel
theorem dX6_runOn_4 : decode cX6_runOn 4 = .ok (.iconst 0, 1) := by decide +kernel
theorem dX6_runOn_5 : decode cX6_runOn 5 = .ok (.istore 4, 2) := by decide +kernel
theorem dX6_runOn_7 : decode cX6_runOn 7 = .ok (.iload 4, 2) := by decide +kernel
theorem dX6_runOn_9 : decode cX6_runOn 9 = .ok (.ldc 134, 2) := by decide +kernel
theorem dX6_runOn_11 : decode cX6_runOn 11 = .ok (.if_icmp .ge 127, 3) := by decide +kernel
theorem dX6_runOn_14 : decode cX6_runOn 14 = .ok (.iload_n 3, 1) := by decide +kernel
theorem dX6_runOn_15 : decode cX6_runOn 15 = .ok (.ifCond .lt 123, 3) := by decide +kernel
theorem dX6_runOn_18 : decode cX6_runOn 18 = .ok (.iload_n 3, 1) := by decide +kernel
theorem dX6_runOn_19 : decode cX6_runOn 19 = .ok (.aload_n 0, 1) := by decide +kernel
theorem dX6_runOn_20 : decode cX6_runOn 20 = .ok (.getfield 21, 3) := by decide +kernel
theorem dX6_runOn_23 : decode cX6_runOn 23 = .ok (.if_icmp .ge 115, 3) := by decide +kernel
theorem dX6_runOn_26 : decode cX6_runOn 26 = .ok (.iload_n 3, 1) := by decide +kernel
theorem dX6_runOn_27 : decode cX6_runOn 27 = .ok (.aload_n 0, 1) := by decide +kernel
theorem dX6_runOn_28 : decode cX6_runOn 28 = .ok (.getfield 13, 3) := by decide +kernel
theorem dX6_runOn_31 : decode cX6_runOn 31 = .ok (.arraylength, 1) := by decide +kernel
theorem dX6_runOn_32 : decode cX6_runOn 32 = .ok (.if_icmp .ge 106, 3) := by decide +kernel
theorem dX6_runOn_35 : decode cX6_runOn 35 = .ok (.aload_n 0, 1) := by decide +kernel
theorem dX6_runOn_36 : decode cX6_runOn 36 = .ok (.getfield 13, 3) := by decide +kernel
theorem dX6_runOn_39 : decode cX6_runOn 39 = .ok (.iload_n 3, 1) := by decide +kernel
theorem dX6_runOn_40 : decode cX6_runOn 40 = .ok (.aaload, 1) := by decide +kernel
theorem dX6_runOn_41 : decode cX6_runOn 41 = .ok (.astore 5, 2) := by decide +kernel
theorem dX6_runOn_43 : decode cX6_runOn 43 = .ok (.iinc 3 1, 3) := by decide +kernel
theorem dX6_runOn_46 : decode cX6_runOn 46 = .ok (.aload 5, 2) := by decide +kernel
theorem dX6_runOn_48 : decode cX6_runOn 48 = .ok (.getfield 89, 3) := by decide +kernel
theorem dX6_runOn_51 : decode cX6_runOn 51 = .ok (.bipush 8, 2) := by decide +kernel
theorem dX6_runOn_53 : decode cX6_runOn 53 = .ok (.if_icmp .ne 16, 3) := by decide +kernel
theorem dX6_runOn_56 : decode cX6_runOn 56 = .ok (.aload 5, 2) := by decide +kernel
theorem dX6_runOn_58 : decode cX6_runOn 58 = .ok (.aload 5, 2) := by decide +kernel
theorem dX6_runOn_60 : decode cX6_runOn 60 = .ok (.getfield 71, 3) := by decide +kernel
theorem dX6_runOn_63 : decode cX6_runOn 63 = .ok (.putfield 131, 3) := by decide +kernel
theorem dX6_runOn_66 : decode cX6_runOn 66 = .ok (.goto 66, 3) := by decide +kernel
theorem dX6_runOn_69 : decode cX6_runOn 69 = .ok (.aload 5, 2) := by decide +kernel
theorem dX6_runOn_71 : decode cX6_runOn 71 = .ok (.getfield 89, 3) := by decide +kernel
theorem dX6_runOn_74 : decode cX6_runOn 74 = .ok (.bipush 9, 2) := by decide +kernel
theorem dX6_runOn_76 : decode cX6_runOn 76 = .ok (.if_icmp .ne 30, 3) := by decide +kernel
theorem dX6_runOn_79 : decode cX6_runOn 79 = .ok (.aload_n 0, 1) := by decide +kernel
theorem dX6_runOn_80 : decode cX6_runOn 80 = .ok (.aload 5, 2) := by decide +kernel
theorem dX6_runOn_82 : decode cX6_runOn 82 = .ok (.getfield 131, 3) := by decide +kernel
theorem dX6_runOn_85 : decode cX6_runOn 85 = .ok (.invokevirtual 135, 3) := by decide +kernel
theorem dX6_runOn_88 : decode cX6_runOn 88 = .ok (.ifCond .eq 13, 3) := by decide +kernel
theorem dX6_runOn_91 : decode cX6_runOn 91 = .ok (.aload 5, 2) := by decide +kernel
theorem dX6_runOn_93 : decode cX6_runOn 93 = .ok (.getfield 131, 3) := by decide +kernel
theorem dX6_runOn_96 : decode cX6_runOn 96 = .ok (.iconst 1, 1) := by decide +kernel
theorem dX6_runOn_97 : decode cX6_runOn 97 = .ok (.iadd, 1) := by decide +kernel
theorem dX6_runOn_98 : decode cX6_runOn 98 = .ok (.goto 4, 3) := by decide +kernel
theorem dX6_runOn_101 : decode cX6_runOn 101 = .ok (.iload_n 3, 1) := by decide +kernel
theorem dX6_runOn_102 : decode cX6_runOn 102 = .ok (.istore_n 3, 1) := by decide +kernel
theorem dX6_runOn_103 : decode cX6_runOn 103 = .ok (.goto 29, 3) := by decide +kernel
theorem dX6_runOn_106 : decode cX6_runOn 106 = .ok (.iload_n 2, 1) := by decide +kernel
theorem dX6_runOn_107 : decode cX6_runOn 107 = .ok (.bipush 40, 2) := by decide +kernel
theorem dX6_runOn_109 : decode cX6_runOn 109 = .ok (.if_icmp .ge 12, 3) := by decide +kernel
theorem dX6_runOn_112 : decode cX6_runOn 112 = .ok (.aload 5, 2) := by decide +kernel
theorem dX6_runOn_114 : decode cX6_runOn 114 = .ok (.aload_n 1, 1) := by decide +kernel
theorem dX6_runOn_115 : decode cX6_runOn 115 = .ok (.invokevirtual 139, 3) := by decide +kernel
theorem dX6_runOn_118 : decode cX6_runOn 118 = .ok (.ifCond .eq 5, 3) := by decide +kernel
theorem dX6_runOn_121 : decode cX6_runOn 121 = .ok (.iload_n 2, 1) := by decide +kernel
theorem dX6_runOn_122 : decode cX6_runOn 122 = .ok (.ireturn, 1) := by decide +kernel
theorem dX6_runOn_123 : decode cX6_runOn 123 = .ok (.aload 5, 2) := by decide +kernel
theorem dX6_runOn_125 : decode cX6_runOn 125 = .ok (.aload_n 1, 1) := by decide +kernel
theorem dX6_runOn_126 : decode cX6_runOn 126 = .ok (.invokevirtual 143, 3) := by decide +kernel
theorem dX6_runOn_129 : decode cX6_runOn 129 = .ok (.iinc 2 1, 3) := by decide +kernel
theorem dX6_runOn_132 : decode cX6_runOn 132 = .ok (.iinc 4 1, 3) := by decide +kernel
theorem dX6_runOn_135 : decode cX6_runOn 135 = .ok (.goto (-128), 3) := by decide +kernel
theorem dX6_runOn_138 : decode cX6_runOn 138 = .ok (.iload_n 2, 1) := by decide +kernel
theorem dX6_runOn_139 : decode cX6_runOn 139 = .ok (.ireturn, 1) := by decide +kernel
theorem dX6_isToRepeat_0 : decode cX6_isToRepeat 0 = .ok (.iload_n 1, 1) := by decide +kernel
theorem dX6_isToRepeat_1 : decode cX6_isToRepeat 1 = .ok (.ifCond .lt 12, 3) := by decide +kernel
theorem dX6_isToRepeat_4 : decode cX6_isToRepeat 4 = .ok (.iload_n 1, 1) := by decide +kernel
theorem dX6_isToRepeat_5 : decode cX6_isToRepeat 5 = .ok (.aload_n 0, 1) := by decide +kernel
theorem dX6_isToRepeat_6 : decode cX6_isToRepeat 6 = .ok (.getfield 13, 3) := by decide +kernel
theorem dX6_isToRepeat_9 : decode cX6_isToRepeat 9 = .ok (.arraylength, 1) := by decide +kernel
theorem dX6_isToRepeat_10 : decode cX6_isToRepeat 10 = .ok (.if_icmp .lt 5, 3) := by decide +kernel
theorem dX6_isToRepeat_13 : decode cX6_isToRepeat 13 = .ok (.iconst 0, 1) := by decide +kernel
theorem dX6_isToRepeat_14 : decode cX6_isToRepeat 14 = .ok (.ireturn, 1) := by decide +kernel
theorem dX6_isToRepeat_15 : decode cX6_isToRepeat 15 = .ok (.aload_n 0, 1) := by decide +kernel
theorem dX6_isToRepeat_16 : decode cX6_isToRepeat 16 = .ok (.getfield 13, 3) := by decide +kernel
theorem dX6_isToRepeat_19 : decode cX6_isToRepeat 19 = .ok (.iload_n 1, 1) := by decide +kernel
theorem dX6_isToRepeat_20 : decode cX6_isToRepeat 20 = .ok (.aaload, 1) := by decide +kernel
theorem dX6_isToRepeat_21 : decode cX6_isToRepeat 21 = .ok (.dup, 1) := by decide +kernel
theorem dX6_isToRepeat_22 : decode cX6_isToRepeat 22 = .ok (.getfield 131, 3) := by decide +kernel
theorem dX6_isToRepeat_25 : decode cX6_isToRepeat 25 = .ok (.iconst 1, 1) := by decide +kernel
theorem dX6_isToRepeat_26 : decode cX6_isToRepeat 26 = .ok (.isub, 1) := by decide +kernel
theorem dX6_isToRepeat_27 : decode cX6_isToRepeat 27 = .ok (.putfield 131, 3) := by decide +kernel
theorem dX6_isToRepeat_30 : decode cX6_isToRepeat 30 = .ok (.aload_n 0, 1) := by decide +kernel
theorem dX6_isToRepeat_31 : decode cX6_isToRepeat 31 = .ok (.getfield 13, 3) := by decide +kernel
theorem dX6_isToRepeat_34 : decode cX6_isToRepeat 34 = .ok (.iload_n 1, 1) := by decide +kernel
theorem dX6_isToRepeat_35 : decode cX6_isToRepeat 35 = .ok (.aaload, 1) := by decide +kernel
theorem dX6_isToRepeat_36 : decode cX6_isToRepeat 36 = .ok (.getfield 131, 3) := by decide +kernel
theorem dX6_isToRepeat_39 : decode cX6_isToRepeat 39 = .ok (.ifCond .le 7, 3) := by decide +kernel
theorem dX6_isToRepeat_42 : decode cX6_isToRepeat 42 = .ok (.iconst 1, 1) := by decide +kernel
theorem dX6_isToRepeat_43 : decode cX6_isToRepeat 43 = .ok (.goto 4, 3) := by decide +kernel
theorem dX6_isToRepeat_46 : decode cX6_isToRepeat 46 = .ok (.iconst 0, 1) := by decide +kernel
theorem dX6_isToRepeat_47 : decode cX6_isToRepeat 47 = .ok (.ireturn, 1) := by decide +kernel
theorem dX7_init_0 : decode cX7_init 0 = .ok (.aload_n 0, 1) := by decide +kernel
theorem dX7_init_1 : decode cX7_init 1 = .ok (.invokespecial 3, 3) := by decide +kernel
theorem dX7_init_4 : decode cX7_init 4 = .ok (.aload_n 0, 1) := by decide +kernel
theorem dX7_init_5 : decode cX7_init 5 = .ok (.sipush 176, 3) := by decide +kernel
theorem dX7_init_8 : decode cX7_init 8 = .ok (.newarray .byte, 2) := by decide +kernel
theorem dX7_init_10 : decode cX7_init 10 = .ok (.putfield 9, 3) := by decide +kernel
theorem dX7_init_13 : decode cX7_init 13 = .ok (.aload_n 0, 1) := by decide +kernel
theorem dX7_init_14 : decode cX7_init 14 = .ok (.iconst 0, 1) := by decide +kernel
theorem dX7_init_15 : decode cX7_init 15 = .ok (.putfield 15, 3) := by decide +kernel
theorem dX7_init_18 : decode cX7_init 18 = .ok (.return_, 1) := by decide +kernel
theorem dX7_byteAt_0 : decode cX7_byteAt 0 = .ok (.iload_n 1, 1) := by decide +kernel
theorem dX7_byteAt_1 : decode cX7_byteAt 1 = .ok (.ifCond .lt 33, 3) := by decide +kernel
theorem dX7_byteAt_4 : decode cX7_byteAt 4 = .ok (.iload_n 1, 1) := by decide +kernel
theorem dX7_byteAt_5 : decode cX7_byteAt 5 = .ok (.aload_n 0, 1) := by decide +kernel
theorem dX7_byteAt_6 : decode cX7_byteAt 6 = .ok (.getfield 15, 3) := by decide +kernel
theorem dX7_byteAt_9 : decode cX7_byteAt 9 = .ok (.if_icmp .ge 25, 3) := by decide +kernel
theorem dX7_byteAt_12 : decode cX7_byteAt 12 = .ok (.iload_n 1, 1) := by decide +kernel
theorem dX7_byteAt_13 : decode cX7_byteAt 13 = .ok (.aload_n 0, 1) := by decide +kernel
theorem dX7_byteAt_14 : decode cX7_byteAt 14 = .ok (.getfield 9, 3) := by decide +kernel
theorem dX7_byteAt_17 : decode cX7_byteAt 17 = .ok (.arraylength, 1) := by decide +kernel
theorem dX7_byteAt_18 : decode cX7_byteAt 18 = .ok (.if_icmp .ge 16, 3) := by decide +kernel
theorem dX7_byteAt_21 : decode cX7_byteAt 21 = .ok (.aload_n 0, 1) := by decide +kernel
theorem dX7_byteAt_22 : decode cX7_byteAt 22 = .ok (.getfield 9, 3) := by decide +kernel
theorem dX7_byteAt_25 : decode cX7_byteAt 25 = .ok (.iload_n 1, 1) := by decide +kernel
theorem dX7_byteAt_26 : decode cX7_byteAt 26 = .ok (.baload, 1) := by decide +kernel
theorem dX7_byteAt_27 : decode cX7_byteAt 27 = .ok (.sipush 255, 3) := by decide +kernel
theorem dX7_byteAt_30 : decode cX7_byteAt 30 = .ok (.iand, 1) := by decide +kernel
theorem dX7_byteAt_31 : decode cX7_byteAt 31 = .ok (.goto 4, 3) := by decide +kernel
theorem dX7_byteAt_34 : decode cX7_byteAt 34 = .ok (.iconst 0, 1) := by decide +kernel
theorem dX7_byteAt_35 : decode cX7_byteAt 35 = .ok (.ireturn, 1) := by decide +kernel
theorem dX7_write_0 : decode cX7_write 0 = .ok (.aload_n 0, 1) := by decide +kernel
theorem dX7_write_1 : decode cX7_write 1 = .ok (.iconst 0, 1) := by decide +kernel
theorem dX7_write_2 : decode cX7_write 2 = .ok (.putfield 15, 3) := by decide +kernel
theorem dX7_write_5 : decode cX7_write 5 = .ok (.aload_n 1, 1) := by decide +kernel
theorem dX7_write_6 : decode cX7_write 6 = .ok (.getfield 19, 3) := by decide +kernel
theorem dX7_write_9 : decode cX7_write 9 = .ok (.astore_n 3, 1) := by decide +kernel
theorem dX7_write_10 : decode cX7_write 10 = .ok (.aload_n 3, 1) := by decide +kernel
theorem dX7_write_11 : decode cX7_write 11 = .ok (.arraylength, 1) := by decide +kernel
theorem dX7_write_12 : decode cX7_write 12 = .ok (.istore 4, 2) := by decide +kernel
theorem dX7_write_14 : decode cX7_write 14 = .ok (.iconst 0, 1) := by decide +kernel
theorem dX7_write_15 : decode cX7_write 15 = .ok (.istore 5, 2) := by decide +kernel
theorem dX7_write_17 : decode cX7_write 17 = .ok (.iload 5, 2) := by decide +kernel
theorem dX7_write_19 : decode cX7_write 19 = .ok (.iload 4, 2) := by decide +kernel
theorem dX7_write_21 : decode cX7_write 21 = .ok (.if_icmp .ge 47, 3) := by decide +kernel
theorem dX7_write_24 : decode cX7_write 24 = .ok (.aload_n 3, 1) := by decide +kernel
theorem dX7_write_25 : decode cX7_write 25 = .ok (.iload 5, 2) := by decide +kernel
theorem dX7_write_27 : decode cX7_write 27 = .ok (.aaload, 1) := by decide +kernel
theorem dX7_write_28 : decode cX7_write 28 = .ok (.astore 6, 2) := by decide +kernel
theorem dX7_write_30 : decode cX7_write 30 = .ok (.aload 6, 2) := by decide +kernel
theorem dX7_write_32 : decode cX7_write 32 = .ok (.getfield 25, 3) := by decide +kernel
theorem dX7_write_35 : decode cX7_write 35 = .ok (.aload_n 1, 1) := by decide +kernel
theorem dX7_write_36 : decode cX7_write 36 = .ok (.getfield 30, 3) := by decide +kernel
theorem dX7_write_39 : decode cX7_write 39 = .ok (.if_icmp .ge 23, 3) := by decide +kernel
theorem dX7_write_42 : decode cX7_write 42 = .ok (.aload_n 0, 1) := by decide +kernel
theorem dX7_write_43 : decode cX7_write 43 = .ok (.aload 6, 2) := by decide +kernel
theorem dX7_write_45 : decode cX7_write 45 = .ok (.aload 6, 2) := by decide +kernel
theorem dX7_write_47 : decode cX7_write 47 = .ok (.getfield 25, 3) := by decide +kernel
theorem dX7_write_50 : decode cX7_write 50 = .ok (.iload_n 2, 1) := by decide +kernel
theorem dX7_write_51 : decode cX7_write 51 = .ok (.if_icmp .ne 7, 3) := by decide +kernel
theorem dX7_write_54 : decode cX7_write 54 = .ok (.iconst 1, 1) := by decide +kernel
theorem dX7_write_55 : decode cX7_write 55 = .ok (.goto 4, 3) := by decide +kernel
theorem dX7_write_58 : decode cX7_write 58 = .ok (.iconst 0, 1) := by decide +kernel
theorem dX7_write_59 : decode cX7_write 59 = .ok (.invokevirtual 33, 3) := by decide +kernel
theorem dX7_write_62 : decode cX7_write 62 = .ok (.iinc 5 1, 3) := by decide +kernel
theorem dX7_write_65 : decode cX7_write 65 = .ok (.goto (-48), 3) := by decide +kernel
theorem dX7_write_68 : decode cX7_write 68 = .ok (.return_, 1) := by decide +kernel
theorem dX7_writeLine_0 : decode cX7_writeLine 0 = .ok (.iconst 0, 1) := by decide +kernel
theorem dX7_writeLine_1 : decode cX7_writeLine 1 = .ok (.istore_n 3, 1) := by decide +kernel
theorem dX7_writeLine_2 : decode cX7_writeLine 2 = .ok (.iload_n 3, 1) := by decide +kernel
theorem dX7_writeLine_3 : decode cX7_writeLine 3 = .ok (.bipush 8, 2) := by decide +kernel
theorem dX7_writeLine_5 : decode cX7_writeLine 5 = .ok (.if_icmp .ge 32, 3) := by decide +kernel
theorem dX7_writeLine_8 : decode cX7_writeLine 8 = .ok (.aload_n 1, 1) := by decide +kernel
theorem dX7_writeLine_9 : decode cX7_writeLine 9 = .ok (.getfield 37, 3) := by decide +kernel
theorem dX7_writeLine_12 : decode cX7_writeLine 12 = .ok (.iload_n 3, 1) := by decide +kernel
theorem dX7_writeLine_13 : decode cX7_writeLine 13 = .ok (.invokestatic 41, 3) := by decide +kernel
theorem dX7_writeLine_16 : decode cX7_writeLine 16 = .ok (.ifCond .eq 21, 3) := by decide +kernel
theorem dX7_writeLine_19 : decode cX7_writeLine 19 = .ok (.aload_n 0, 1) := by decide +kernel
theorem dX7_writeLine_20 : decode cX7_writeLine 20 = .ok (.aload_n 1, 1) := by decide +kernel
theorem dX7_writeLine_21 : decode cX7_writeLine 21 = .ok (.getfield 37, 3) := by decide +kernel
theorem dX7_writeLine_24 : decode cX7_writeLine 24 = .ok (.iload_n 3, 1) := by decide +kernel
theorem dX7_writeLine_25 : decode cX7_writeLine 25 = .ok (.invokestatic 41, 3) := by decide +kernel
theorem dX7_writeLine_28 : decode cX7_writeLine 28 = .ok (.invokevirtual 47, 3) := by decide +kernel
theorem dX7_writeLine_31 : decode cX7_writeLine 31 = .ok (.iinc 3 1, 3) := by decide +kernel
theorem dX7_writeLine_34 : decode cX7_writeLine 34 = .ok (.goto (-32), 3) := by decide +kernel
theorem dX7_writeLine_37 : decode cX7_writeLine 37 = .ok (.aload_n 0, 1) := by decide +kernel
theorem dX7_writeLine_38 : decode cX7_writeLine 38 = .ok (.bipush 32, 2) := by decide +kernel
theorem dX7_writeLine_40 : decode cX7_writeLine 40 = .ok (.invokevirtual 47, 3) := by decide +kernel
theorem dX7_writeLine_43 : decode cX7_writeLine 43 = .ok (.aload_n 0, 1) := by decide +kernel
theorem dX7_writeLine_44 : decode cX7_writeLine 44 = .ok (.aload_n 1, 1) := by decide +kernel
theorem dX7_writeLine_45 : decode cX7_writeLine 45 = .ok (.getfield 51, 3) := by decide +kernel
theorem dX7_writeLine_48 : decode cX7_writeLine 48 = .ok (.invokevirtual 54, 3) := by decide +kernel
theorem dX7_writeLine_51 : decode cX7_writeLine 51 = .ok (.aload_n 0, 1) := by decide +kernel
theorem dX7_writeLine_52 : decode cX7_writeLine 52 = .ok (.bipush 47, 2) := by decide +kernel
theorem dX7_writeLine_54 : decode cX7_writeLine 54 = .ok (.invokevirtual 47, 3) := by decide +kernel
theorem dX7_writeLine_57 : decode cX7_writeLine 57 = .ok (.aload_n 0, 1) := by decide +kernel
theorem dX7_writeLine_58 : decode cX7_writeLine 58 = .ok (.aload_n 1, 1) := by decide +kernel
theorem dX7_writeLine_59 : decode cX7_writeLine 59 = .ok (.getfield 57, 3) := by decide +kernel
theorem dX7_writeLine_62 : decode cX7_writeLine 62 = .ok (.invokevirtual 54, 3) := by decide +kernel
theorem dX7_writeLine_65 : decode cX7_writeLine 65 = .ok (.iconst 0, 1) := by decide +kernel
theorem dX7_writeLine_66 : decode cX7_writeLine 66 = .ok (.istore_n 3, 1) := by decide +kernel
theorem dX7_writeLine_67 : decode cX7_writeLine 67 = .ok (.iload_n 3, 1) := by decide +kernel
theorem dX7_writeLine_68 : decode cX7_writeLine 68 = .ok (.aload_n 1, 1) := by decide +kernel
theorem dX7_writeLine_69 : decode cX7_writeLine 69 = .ok (.getfield 60, 3) := by decide +kernel
theorem dX7_writeLine_72 : decode cX7_writeLine 72 = .ok (.if_icmp .ge 15, 3) := by decide +kernel
theorem dX7_writeLine_75 : decode cX7_writeLine 75 = .ok (.aload_n 0, 1) := by decide +kernel
theorem dX7_writeLine_76 : decode cX7_writeLine 76 = .ok (.bipush 43, 2) := by decide +kernel
theorem dX7_writeLine_78 : decode cX7_writeLine 78 = .ok (.invokevirtual 47, 3) := by decide +kernel
theorem dX7_writeLine_81 : decode cX7_writeLine 81 = .ok (.iinc 3 1, 3) := by decide +kernel
theorem dX7_writeLine_84 : decode cX7_writeLine 84 = .ok (.goto (-17), 3) := by decide +kernel
theorem dX7_writeLine_87 : decode cX7_writeLine 87 = .ok (.iload_n 2, 1) := by decide +kernel
theorem dX7_writeLine_88 : decode cX7_writeLine 88 = .ok (.ifCond .eq 9, 3) := by decide +kernel
theorem dX7_writeLine_91 : decode cX7_writeLine 91 = .ok (.aload_n 0, 1) := by decide +kernel
theorem dX7_writeLine_92 : decode cX7_writeLine 92 = .ok (.bipush 42, 2) := by decide +kernel
theorem dX7_writeLine_94 : decode cX7_writeLine 94 = .ok (.invokevirtual 47, 3) := by decide +kernel
theorem dX7_writeLine_97 : decode cX7_writeLine 97 = .ok (.aload_n 0, 1) := by decide +kernel
theorem dX7_writeLine_98 : decode cX7_writeLine 98 = .ok (.bipush 10, 2) := by decide +kernel
theorem dX7_writeLine_100 : decode cX7_writeLine 100 = .ok (.invokevirtual 47, 3) := by decide +kernel
theorem dX7_writeLine_103 : decode cX7_writeLine 103 = .ok (.return_, 1) := by decide +kernel
theorem dX7_putNumber_0 : decode cX7_putNumber 0 = .ok (.iload_n 1, 1) := by decide +kernel
theorem dX7_putNumber_1 : decode cX7_putNumber 1 = .ok (.sipush 1000, 3) := by decide +kernel
theorem dX7_putNumber_4 : decode cX7_putNumber 4 = .ok (.if_icmp .lt 18, 3) := by decide +kernel
theorem dX7_putNumber_7 : decode cX7_putNumber 7 = .ok (.aload_n 0, 1) := by decide +kernel
theorem dX7_putNumber_8 : decode cX7_putNumber 8 = .ok (.bipush 48, 2) := by decide +kernel
theorem dX7_putNumber_10 : decode cX7_putNumber 10 = .ok (.iload_n 1, 1) := by decide +kernel
theorem dX7_putNumber_11 : decode cX7_putNumber 11 = .ok (.sipush 1000, 3) := by decide +kernel
theorem dX7_putNumber_14 : decode cX7_putNumber 14 = .ok (.idiv, 1) := by decide +kernel
theorem dX7_putNumber_15 : decode cX7_putNumber 15 = .ok (.bipush 10, 2) := by decide +kernel
theorem dX7_putNumber_17 : decode cX7_putNumber 17 = .ok (.irem, 1) := by decide +kernel
theorem dX7_putNumber_18 : decode cX7_putNumber 18 = .ok (.iadd, 1) := by decide +kernel
theorem dX7_putNumber_19 : decode cX7_putNumber 19 = .ok (.invokevirtual 47, 3) := by decide +kernel
theorem dX7_putNumber_22 : decode cX7_putNumber 22 = .ok (.iload_n 1, 1) := by decide +kernel
theorem dX7_putNumber_23 : decode cX7_putNumber 23 = .ok (.bipush 100, 2) := by decide +kernel
theorem dX7_putNumber_25 : decode cX7_putNumber 25 = .ok (.if_icmp .lt 17, 3) := by decide +kernel
theorem dX7_putNumber_28 : decode cX7_putNumber 28 = .ok (.aload_n 0, 1) := by decide +kernel
theorem dX7_putNumber_29 : decode cX7_putNumber 29 = .ok (.bipush 48, 2) := by decide +kernel
theorem dX7_putNumber_31 : decode cX7_putNumber 31 = .ok (.iload_n 1, 1) := by decide +kernel
theorem dX7_putNumber_32 : decode cX7_putNumber 32 = .ok (.bipush 100, 2) := by decide +kernel
theorem dX7_putNumber_34 : decode cX7_putNumber 34 = .ok (.idiv, 1) := by decide +kernel
theorem dX7_putNumber_35 : decode cX7_putNumber 35 = .ok (.bipush 10, 2) := by decide +kernel
theorem dX7_putNumber_37 : decode cX7_putNumber 37 = .ok (.irem, 1) := by decide +kernel
theorem dX7_putNumber_38 : decode cX7_putNumber 38 = .ok (.iadd, 1) := by decide +kernel
theorem dX7_putNumber_39 : decode cX7_putNumber 39 = .ok (.invokevirtual 47, 3) := by decide +kernel
theorem dX7_putNumber_42 : decode cX7_putNumber 42 = .ok (.iload_n 1, 1) := by decide +kernel
theorem dX7_putNumber_43 : decode cX7_putNumber 43 = .ok (.bipush 10, 2) := by decide +kernel
theorem dX7_putNumber_45 : decode cX7_putNumber 45 = .ok (.if_icmp .lt 17, 3) := by decide +kernel
theorem dX7_putNumber_48 : decode cX7_putNumber 48 = .ok (.aload_n 0, 1) := by decide +kernel
theorem dX7_putNumber_49 : decode cX7_putNumber 49 = .ok (.bipush 48, 2) := by decide +kernel
theorem dX7_putNumber_51 : decode cX7_putNumber 51 = .ok (.iload_n 1, 1) := by decide +kernel
theorem dX7_putNumber_52 : decode cX7_putNumber 52 = .ok (.bipush 10, 2) := by decide +kernel
theorem dX7_putNumber_54 : decode cX7_putNumber 54 = .ok (.idiv, 1) := by decide +kernel
theorem dX7_putNumber_55 : decode cX7_putNumber 55 = .ok (.bipush 10, 2) := by decide +kernel
theorem dX7_putNumber_57 : decode cX7_putNumber 57 = .ok (.irem, 1) := by decide +kernel
theorem dX7_putNumber_58 : decode cX7_putNumber 58 = .ok (.iadd, 1) := by decide +kernel
theorem dX7_putNumber_59 : decode cX7_putNumber 59 = .ok (.invokevirtual 47, 3) := by decide +kernel
theorem dX7_putNumber_62 : decode cX7_putNumber 62 = .ok (.aload_n 0, 1) := by decide +kernel
theorem dX7_putNumber_63 : decode cX7_putNumber 63 = .ok (.bipush 48, 2) := by decide +kernel
theorem dX7_putNumber_65 : decode cX7_putNumber 65 = .ok (.iload_n 1, 1) := by decide +kernel
theorem dX7_putNumber_66 : decode cX7_putNumber 66 = .ok (.bipush 10, 2) := by decide +kernel
theorem dX7_putNumber_68 : decode cX7_putNumber 68 = .ok (.irem, 1) := by decide +kernel
theorem dX7_putNumber_69 : decode cX7_putNumber 69 = .ok (.iadd, 1) := by decide +kernel
theorem dX7_putNumber_70 : decode cX7_putNumber 70 = .ok (.invokevirtual 47, 3) := by decide +kernel
theorem dX7_putNumber_73 : decode cX7_putNumber 73 = .ok (.return_, 1) := by decide +kernel
theorem dX7_put_0 : decode cX7_put 0 = .ok (.aload_n 0, 1) := by decide +kernel
theorem dX7_put_1 : decode cX7_put 1 = .ok (.getfield 15, 3) := by decide +kernel
theorem dX7_put_4 : decode cX7_put 4 = .ok (.ifCond .lt 36, 3) := by decide +kernel
theorem dX7_put_7 : decode cX7_put 7 = .ok (.aload_n 0, 1) := by decide +kernel
theorem dX7_put_8 : decode cX7_put 8 = .ok (.getfield 15, 3) := by decide +kernel
theorem dX7_put_11 : decode cX7_put 11 = .ok (.aload_n 0, 1) := by decide +kernel
theorem dX7_put_12 : decode cX7_put 12 = .ok (.getfield 9, 3) := by decide +kernel
theorem dX7_put_15 : decode cX7_put 15 = .ok (.arraylength, 1) := by decide +kernel
theorem dX7_put_16 : decode cX7_put 16 = .ok (.if_icmp .ge 24, 3) := by decide +kernel
theorem dX7_put_19 : decode cX7_put 19 = .ok (.aload_n 0, 1) := by decide +kernel
theorem dX7_put_20 : decode cX7_put 20 = .ok (.getfield 9, 3) := by decide +kernel
theorem dX7_put_23 : decode cX7_put 23 = .ok (.aload_n 0, 1) := by decide +kernel
theorem dX7_put_24 : decode cX7_put 24 = .ok (.getfield 15, 3) := by decide +kernel
theorem dX7_put_27 : decode cX7_put 27 = .ok (.iload_n 1, 1) := by decide +kernel
theorem dX7_put_28 : decode cX7_put 28 = .ok (.i2b, 1) := by decide +kernel
theorem dX7_put_29 : decode cX7_put 29 = .ok (.bastore, 1) := by decide +kernel
theorem dX7_put_30 : decode cX7_put 30 = .ok (.aload_n 0, 1) := by decide +kernel
theorem dX7_put_31 : decode cX7_put 31 = .ok (.dup, 1) := by decide +kernel
theorem dX7_put_32 : decode cX7_put 32 = .ok (.getfield 15, 3) := by decide +kernel
theorem dX7_put_35 : decode cX7_put 35 = .ok (.iconst 1, 1) := by decide +kernel
theorem dX7_put_36 : decode cX7_put 36 = .ok (.iadd, 1) := by decide +kernel
theorem dX7_put_37 : decode cX7_put 37 = .ok (.putfield 15, 3) := by decide +kernel
theorem dX7_put_40 : decode cX7_put 40 = .ok (.return_, 1) := by decide +kernel
theorem dX8_readInto_0 : decode cX8_readInto 0 = .ok (.aload_n 0, 1) := by decide +kernel
theorem dX8_readInto_1 : decode cX8_readInto 1 = .ok (.invokevirtual 9, 3) := by decide +kernel
theorem dX8_readInto_4 : decode cX8_readInto 4 = .ok (.iconst 0, 1) := by decide +kernel
theorem dX8_readInto_5 : decode cX8_readInto 5 = .ok (.istore_n 2, 1) := by decide +kernel
theorem dX8_readInto_6 : decode cX8_readInto 6 = .ok (.iconst 0, 1) := by decide +kernel
theorem dX8_readInto_7 : decode cX8_readInto 7 = .ok (.istore_n 3, 1) := by decide +kernel
theorem dX8_readInto_8 : decode cX8_readInto 8 = .ok (.iload_n 3, 1) := by decide +kernel
theorem dX8_readInto_9 : decode cX8_readInto 9 = .ok (.sipush 600, 3) := by decide +kernel
theorem dX8_readInto_12 : decode cX8_readInto 12 = .ok (.if_icmp .ge 84, 3) := by decide +kernel
theorem dX8_readInto_15 : decode cX8_readInto 15 = .ok (.aload_n 1, 1) := by decide +kernel
theorem dX8_readInto_16 : decode cX8_readInto 16 = .ok (.getfield 14, 3) := by decide +kernel
theorem dX8_readInto_19 : decode cX8_readInto 19 = .ok (.ifCond .eq 77, 3) := by decide +kernel
theorem dX8_readInto_22 : decode cX8_readInto 22 = .ok (.aload_n 1, 1) := by decide +kernel
theorem dX8_readInto_23 : decode cX8_readInto 23 = .ok (.ldc 20, 2) := by decide +kernel
theorem dX8_readInto_25 : decode cX8_readInto 25 = .ok (.invokevirtual 22, 3) := by decide +kernel
theorem dX8_readInto_28 : decode cX8_readInto 28 = .ok (.ifCond .eq 34, 3) := by decide +kernel
theorem dX8_readInto_31 : decode cX8_readInto 31 = .ok (.iload_n 2, 1) := by decide +kernel
theorem dX8_readInto_32 : decode cX8_readInto 32 = .ok (.ifCond .eq 8, 3) := by decide +kernel
theorem dX8_readInto_35 : decode cX8_readInto 35 = .ok (.aload_n 1, 1) := by decide +kernel
theorem dX8_readInto_36 : decode cX8_readInto 36 = .ok (.iconst 3, 1) := by decide +kernel
theorem dX8_readInto_37 : decode cX8_readInto 37 = .ok (.invokevirtual 26, 3) := by decide +kernel
theorem dX8_readInto_40 : decode cX8_readInto 40 = .ok (.iconst 1, 1) := by decide +kernel
theorem dX8_readInto_41 : decode cX8_readInto 41 = .ok (.istore_n 2, 1) := by decide +kernel
theorem dX8_readInto_42 : decode cX8_readInto 42 = .ok (.aload_n 1, 1) := by decide +kernel
theorem dX8_readInto_43 : decode cX8_readInto 43 = .ok (.invokevirtual 30, 3) := by decide +kernel
theorem dX8_readInto_46 : decode cX8_readInto 46 = .ok (.aload_n 0, 1) := by decide +kernel
theorem dX8_readInto_47 : decode cX8_readInto 47 = .ok (.aload_n 1, 1) := by decide +kernel
theorem dX8_readInto_48 : decode cX8_readInto 48 = .ok (.bipush 100, 2) := by decide +kernel
theorem dX8_readInto_50 : decode cX8_readInto 50 = .ok (.sipush 999, 3) := by decide +kernel
theorem dX8_readInto_53 : decode cX8_readInto 53 = .ok (.invokevirtual 33, 3) := by decide +kernel
theorem dX8_readInto_56 : decode cX8_readInto 56 = .ok (.putfield 37, 3) := by decide +kernel
theorem dX8_readInto_59 : decode cX8_readInto 59 = .ok (.goto 25, 3) := by decide +kernel
theorem dX8_readInto_62 : decode cX8_readInto 62 = .ok (.aload_n 1, 1) := by decide +kernel
theorem dX8_readInto_63 : decode cX8_readInto 63 = .ok (.ldc 39, 2) := by decide +kernel
theorem dX8_readInto_65 : decode cX8_readInto 65 = .ok (.invokevirtual 22, 3) := by decide +kernel
theorem dX8_readInto_68 : decode cX8_readInto 68 = .ok (.ifCond .eq 11, 3) := by decide +kernel
theorem dX8_readInto_71 : decode cX8_readInto 71 = .ok (.aload_n 0, 1) := by decide +kernel
theorem dX8_readInto_72 : decode cX8_readInto 72 = .ok (.aload_n 1, 1) := by decide +kernel
theorem dX8_readInto_73 : decode cX8_readInto 73 = .ok (.invokestatic 41, 3) := by decide +kernel
theorem dX8_readInto_76 : decode cX8_readInto 76 = .ok (.goto 8, 3) := by decide +kernel
theorem dX8_readInto_79 : decode cX8_readInto 79 = .ok (.aload_n 1, 1) := by decide +kernel
theorem dX8_readInto_80 : decode cX8_readInto 80 = .ok (.iconst 1, 1) := by decide +kernel
theorem dX8_readInto_81 : decode cX8_readInto 81 = .ok (.invokevirtual 26, 3) := by decide +kernel
theorem dX8_readInto_84 : decode cX8_readInto 84 = .ok (.aload_n 1, 1) := by decide +kernel
theorem dX8_readInto_85 : decode cX8_readInto 85 = .ok (.bipush 59, 2) := by decide +kernel
theorem dX8_readInto_87 : decode cX8_readInto 87 = .ok (.invokevirtual 47, 3) := by decide +kernel
theorem dX8_readInto_90 : decode cX8_readInto 90 = .ok (.iinc 3 1, 3) := by decide +kernel
theorem dX8_readInto_93 : decode cX8_readInto 93 = .ok (.goto (-85), 3) := by decide +kernel
theorem dX8_readInto_96 : decode cX8_readInto 96 = .ok (.return_, 1) := by decide +kernel
theorem dX8_readFighter_0 : decode cX8_readFighter 0 = .ok (.aload_n 0, 1) := by decide +kernel
theorem dX8_readFighter_1 : decode cX8_readFighter 1 = .ok (.getfield 51, 3) := by decide +kernel
theorem dX8_readFighter_4 : decode cX8_readFighter 4 = .ok (.bipush 8, 2) := by decide +kernel
theorem dX8_readFighter_6 : decode cX8_readFighter 6 = .ok (.if_icmp .lt 8, 3) := by decide +kernel
theorem dX8_readFighter_9 : decode cX8_readFighter 9 = .ok (.aload_n 1, 1) := by decide +kernel
theorem dX8_readFighter_10 : decode cX8_readFighter 10 = .ok (.iconst 5, 1) := by decide +kernel
theorem dX8_readFighter_11 : decode cX8_readFighter 11 = .ok (.invokevirtual 26, 3) := by decide +kernel
theorem dX8_readFighter_14 : decode cX8_readFighter 14 = .ok (.aload_n 1, 1) := by decide +kernel
theorem dX8_readFighter_15 : decode cX8_readFighter 15 = .ok (.invokevirtual 30, 3) := by decide +kernel
theorem dX8_readFighter_18 : decode cX8_readFighter 18 = .ok (.aload_n 0, 1) := by decide +kernel
theorem dX8_readFighter_19 : decode cX8_readFighter 19 = .ok (.aload_n 0, 1) := by decide +kernel
theorem dX8_readFighter_20 : decode cX8_readFighter 20 = .ok (.getfield 51, 3) := by decide +kernel
theorem dX8_readFighter_23 : decode cX8_readFighter 23 = .ok (.invokevirtual 54, 3) := by decide +kernel
theorem dX8_readFighter_26 : decode cX8_readFighter 26 = .ok (.astore_n 2, 1) := by decide +kernel
theorem dX8_readFighter_27 : decode cX8_readFighter 27 = .ok (.aload_n 2, 1) := by decide +kernel
theorem dX8_readFighter_28 : decode cX8_readFighter 28 = .ok (.aload_n 0, 1) := by decide +kernel
theorem dX8_readFighter_29 : decode cX8_readFighter 29 = .ok (.aload_n 1, 1) := by decide +kernel
theorem dX8_readFighter_30 : decode cX8_readFighter 30 = .ok (.invokestatic 58, 3) := by decide +kernel
theorem dX8_readFighter_33 : decode cX8_readFighter 33 = .ok (.putfield 62, 3) := by decide +kernel
theorem dX8_readFighter_36 : decode cX8_readFighter 36 = .ok (.aload_n 2, 1) := by decide +kernel
theorem dX8_readFighter_37 : decode cX8_readFighter 37 = .ok (.aload_n 1, 1) := by decide +kernel
theorem dX8_readFighter_38 : decode cX8_readFighter 38 = .ok (.invokestatic 68, 3) := by decide +kernel
theorem dX8_readFighter_41 : decode cX8_readFighter 41 = .ok (.putfield 72, 3) := by decide +kernel
theorem dX8_readFighter_44 : decode cX8_readFighter 44 = .ok (.aload_n 1, 1) := by decide +kernel
theorem dX8_readFighter_45 : decode cX8_readFighter 45 = .ok (.ldc 75, 2) := by decide +kernel
theorem dX8_readFighter_47 : decode cX8_readFighter 47 = .ok (.invokevirtual 77, 3) := by decide +kernel
theorem dX8_readFighter_50 : decode cX8_readFighter 50 = .ok (.aload_n 2, 1) := by decide +kernel
theorem dX8_readFighter_51 : decode cX8_readFighter 51 = .ok (.aload_n 1, 1) := by decide +kernel
theorem dX8_readFighter_52 : decode cX8_readFighter 52 = .ok (.iconst 1, 1) := by decide +kernel
theorem dX8_readFighter_53 : decode cX8_readFighter 53 = .ok (.bipush 99, 2) := by decide +kernel
theorem dX8_readFighter_55 : decode cX8_readFighter 55 = .ok (.invokevirtual 33, 3) := by decide +kernel
theorem dX8_readFighter_58 : decode cX8_readFighter 58 = .ok (.putfield 81, 3) := by decide +kernel
theorem dX8_readFighter_61 : decode cX8_readFighter 61 = .ok (.aload_n 1, 1) := by decide +kernel
theorem dX8_readFighter_62 : decode cX8_readFighter 62 = .ok (.ldc 83, 2) := by decide +kernel
theorem dX8_readFighter_64 : decode cX8_readFighter 64 = .ok (.invokevirtual 77, 3) := by decide +kernel
theorem dX8_readFighter_67 : decode cX8_readFighter 67 = .ok (.aload_n 2, 1) := by decide +kernel
theorem dX8_readFighter_68 : decode cX8_readFighter 68 = .ok (.aload_n 1, 1) := by decide +kernel
theorem dX8_readFighter_69 : decode cX8_readFighter 69 = .ok (.iconst 1, 1) := by decide +kernel
theorem dX8_readFighter_70 : decode cX8_readFighter 70 = .ok (.sipush 999, 3) := by decide +kernel
theorem dX8_readFighter_73 : decode cX8_readFighter 73 = .ok (.invokevirtual 33, 3) := by decide +kernel
theorem dX8_readFighter_76 : decode cX8_readFighter 76 = .ok (.putfield 85, 3) := by decide +kernel
theorem dX8_readFighter_79 : decode cX8_readFighter 79 = .ok (.aload_n 1, 1) := by decide +kernel
theorem dX8_readFighter_80 : decode cX8_readFighter 80 = .ok (.ldc 87, 2) := by decide +kernel
theorem dX8_readFighter_82 : decode cX8_readFighter 82 = .ok (.invokevirtual 22, 3) := by decide +kernel
theorem dX8_readFighter_85 : decode cX8_readFighter 85 = .ok (.ifCond .eq 18, 3) := by decide +kernel
theorem dX8_readFighter_88 : decode cX8_readFighter 88 = .ok (.aload_n 1, 1) := by decide +kernel
theorem dX8_readFighter_89 : decode cX8_readFighter 89 = .ok (.invokevirtual 30, 3) := by decide +kernel
theorem dX8_readFighter_92 : decode cX8_readFighter 92 = .ok (.aload_n 2, 1) := by decide +kernel
theorem dX8_readFighter_93 : decode cX8_readFighter 93 = .ok (.aload_n 1, 1) := by decide +kernel
theorem dX8_readFighter_94 : decode cX8_readFighter 94 = .ok (.iconst 0, 1) := by decide +kernel
theorem dX8_readFighter_95 : decode cX8_readFighter 95 = .ok (.bipush 9, 2) := by decide +kernel
theorem dX8_readFighter_97 : decode cX8_readFighter 97 = .ok (.invokevirtual 33, 3) := by decide +kernel
theorem dX8_readFighter_100 : decode cX8_readFighter 100 = .ok (.putfield 89, 3) := by decide +kernel
theorem dX8_readFighter_103 : decode cX8_readFighter 103 = .ok (.aload_n 1, 1) := by decide +kernel
theorem dX8_readFighter_104 : decode cX8_readFighter 104 = .ok (.ldc 91, 2) := by decide +kernel
theorem dX8_readFighter_106 : decode cX8_readFighter 106 = .ok (.invokevirtual 77, 3) := by decide +kernel
theorem dX8_readFighter_109 : decode cX8_readFighter 109 = .ok (.aload_n 2, 1) := by decide +kernel
theorem dX8_readFighter_110 : decode cX8_readFighter 110 = .ok (.aload_n 1, 1) := by decide +kernel
theorem dX8_readFighter_111 : decode cX8_readFighter 111 = .ok (.invokestatic 93, 3) := by decide +kernel
theorem dX8_readFighter_114 : decode cX8_readFighter 114 = .ok (.aload_n 0, 1) := by decide +kernel
theorem dX8_readFighter_115 : decode cX8_readFighter 115 = .ok (.dup, 1) := by decide +kernel
theorem dX8_readFighter_116 : decode cX8_readFighter 116 = .ok (.getfield 51, 3) := by decide +kernel
theorem dX8_readFighter_119 : decode cX8_readFighter 119 = .ok (.iconst 1, 1) := by decide +kernel
theorem dX8_readFighter_120 : decode cX8_readFighter 120 = .ok (.iadd, 1) := by decide +kernel
theorem dX8_readFighter_121 : decode cX8_readFighter 121 = .ok (.putfield 51, 3) := by decide +kernel
theorem dX8_readFighter_124 : decode cX8_readFighter 124 = .ok (.return_, 1) := by decide +kernel
theorem dX8_readNewName_0 : decode cX8_readNewName 0 = .ok (.aload_n 1, 1) := by decide +kernel
theorem dX8_readNewName_1 : decode cX8_readNewName 1 = .ok (.getfield 14, 3) := by decide +kernel
theorem dX8_readNewName_4 : decode cX8_readNewName 4 = .ok (.iconst 1, 1) := by decide +kernel
theorem dX8_readNewName_5 : decode cX8_readNewName 5 = .ok (.if_icmp .eq 8, 3) := by decide +kernel
theorem dX8_readNewName_8 : decode cX8_readNewName 8 = .ok (.aload_n 1, 1) := by decide +kernel
theorem dX8_readNewName_9 : decode cX8_readNewName 9 = .ok (.iconst 1, 1) := by decide +kernel
theorem dX8_readNewName_10 : decode cX8_readNewName 10 = .ok (.invokevirtual 26, 3) := by decide +kernel
theorem dX8_readNewName_13 : decode cX8_readNewName 13 = .ok (.aload_n 0, 1) := by decide +kernel
theorem dX8_readNewName_14 : decode cX8_readNewName 14 = .ok (.aload_n 1, 1) := by decide +kernel
theorem dX8_readNewName_15 : decode cX8_readNewName 15 = .ok (.getfield 97, 3) := by decide +kernel
theorem dX8_readNewName_18 : decode cX8_readNewName 18 = .ok (.invokevirtual 100, 3) := by decide +kernel
theorem dX8_readNewName_21 : decode cX8_readNewName 21 = .ok (.iconst (-1), 1) := by decide +kernel
theorem dX8_readNewName_22 : decode cX8_readNewName 22 = .ok (.if_icmp .eq 8, 3) := by decide +kernel
theorem dX8_readNewName_25 : decode cX8_readNewName 25 = .ok (.aload_n 1, 1) := by decide +kernel
theorem dX8_readNewName_26 : decode cX8_readNewName 26 = .ok (.iconst 3, 1) := by decide +kernel
theorem dX8_readNewName_27 : decode cX8_readNewName 27 = .ok (.invokevirtual 26, 3) := by decide +kernel
theorem dX8_readNewName_30 : decode cX8_readNewName 30 = .ok (.aload_n 1, 1) := by decide +kernel
theorem dX8_readNewName_31 : decode cX8_readNewName 31 = .ok (.getfield 97, 3) := by decide +kernel
theorem dX8_readNewName_34 : decode cX8_readNewName 34 = .ok (.lstore_n 2, 1) := by decide +kernel
theorem dX8_readNewName_35 : decode cX8_readNewName 35 = .ok (.aload_n 1, 1) := by decide +kernel
theorem dX8_readNewName_36 : decode cX8_readNewName 36 = .ok (.invokevirtual 30, 3) := by decide +kernel
theorem dX8_readNewName_39 : decode cX8_readNewName 39 = .ok (.lload_n 2, 1) := by decide +kernel
theorem dX8_readNewName_40 : decode cX8_readNewName 40 = .ok (.lreturn, 1) := by decide +kernel
theorem dX8_readSide_0 : decode cX8_readSide 0 = .ok (.aload_n 0, 1) := by decide +kernel
theorem dX8_readSide_1 : decode cX8_readSide 1 = .ok (.ldc 104, 2) := by decide +kernel
theorem dX8_readSide_3 : decode cX8_readSide 3 = .ok (.invokevirtual 22, 3) := by decide +kernel
theorem dX8_readSide_6 : decode cX8_readSide 6 = .ok (.ifCond .eq 9, 3) := by decide +kernel
theorem dX8_readSide_9 : decode cX8_readSide 9 = .ok (.aload_n 0, 1) := by decide +kernel
theorem dX8_readSide_10 : decode cX8_readSide 10 = .ok (.invokevirtual 30, 3) := by decide +kernel
theorem dX8_readSide_13 : decode cX8_readSide 13 = .ok (.iconst 0, 1) := by decide +kernel
theorem dX8_readSide_14 : decode cX8_readSide 14 = .ok (.ireturn, 1) := by decide +kernel
theorem dX8_readSide_15 : decode cX8_readSide 15 = .ok (.aload_n 0, 1) := by decide +kernel
theorem dX8_readSide_16 : decode cX8_readSide 16 = .ok (.ldc 106, 2) := by decide +kernel
theorem dX8_readSide_18 : decode cX8_readSide 18 = .ok (.invokevirtual 77, 3) := by decide +kernel
theorem dX8_readSide_21 : decode cX8_readSide 21 = .ok (.iconst 1, 1) := by decide +kernel
theorem dX8_readSide_22 : decode cX8_readSide 22 = .ok (.ireturn, 1) := by decide +kernel
theorem dX8_readPlan_0 : decode cX8_readPlan 0 = .ok (.iconst 0, 1) := by decide +kernel
theorem dX8_readPlan_1 : decode cX8_readPlan 1 = .ok (.istore_n 2, 1) := by decide +kernel
theorem dX8_readPlan_2 : decode cX8_readPlan 2 = .ok (.iload_n 2, 1) := by decide +kernel
theorem dX8_readPlan_3 : decode cX8_readPlan 3 = .ok (.bipush 6, 2) := by decide +kernel
theorem dX8_readPlan_5 : decode cX8_readPlan 5 = .ok (.if_icmp .gt 66, 3) := by decide +kernel
theorem dX8_readPlan_8 : decode cX8_readPlan 8 = .ok (.iload_n 2, 1) := by decide +kernel
theorem dX8_readPlan_9 : decode cX8_readPlan 9 = .ok (.ifCond .eq 12, 3) := by decide +kernel
theorem dX8_readPlan_12 : decode cX8_readPlan 12 = .ok (.aload_n 1, 1) := by decide +kernel
theorem dX8_readPlan_13 : decode cX8_readPlan 13 = .ok (.bipush 59, 2) := by decide +kernel
theorem dX8_readPlan_15 : decode cX8_readPlan 15 = .ok (.invokevirtual 108, 3) := by decide +kernel
theorem dX8_readPlan_18 : decode cX8_readPlan 18 = .ok (.ifCond .ne 53, 3) := by decide +kernel
theorem dX8_readPlan_21 : decode cX8_readPlan 21 = .ok (.aload_n 1, 1) := by decide +kernel
theorem dX8_readPlan_22 : decode cX8_readPlan 22 = .ok (.invokestatic 112, 3) := by decide +kernel
theorem dX8_readPlan_25 : decode cX8_readPlan 25 = .ok (.istore_n 3, 1) := by decide +kernel
theorem dX8_readPlan_26 : decode cX8_readPlan 26 = .ok (.iload_n 3, 1) := by decide +kernel
theorem dX8_readPlan_27 : decode cX8_readPlan 27 = .ok (.iconst (-1), 1) := by decide +kernel
theorem dX8_readPlan_28 : decode cX8_readPlan 28 = .ok (.if_icmp .ne 8, 3) := by decide +kernel
theorem dX8_readPlan_31 : decode cX8_readPlan 31 = .ok (.aload_n 1, 1) := by decide +kernel
theorem dX8_readPlan_32 : decode cX8_readPlan 32 = .ok (.iconst 1, 1) := by decide +kernel
theorem dX8_readPlan_33 : decode cX8_readPlan 33 = .ok (.invokevirtual 26, 3) := by decide +kernel
theorem dX8_readPlan_36 : decode cX8_readPlan 36 = .ok (.iload_n 2, 1) := by decide +kernel
theorem dX8_readPlan_37 : decode cX8_readPlan 37 = .ok (.bipush 6, 2) := by decide +kernel
theorem dX8_readPlan_39 : decode cX8_readPlan 39 = .ok (.if_icmp .ne 8, 3) := by decide +kernel
theorem dX8_readPlan_42 : decode cX8_readPlan 42 = .ok (.aload_n 1, 1) := by decide +kernel
theorem dX8_readPlan_43 : decode cX8_readPlan 43 = .ok (.iconst 5, 1) := by decide +kernel
theorem dX8_readPlan_44 : decode cX8_readPlan 44 = .ok (.invokevirtual 26, 3) := by decide +kernel
theorem dX8_readPlan_47 : decode cX8_readPlan 47 = .ok (.aload_n 1, 1) := by decide +kernel
theorem dX8_readPlan_48 : decode cX8_readPlan 48 = .ok (.invokevirtual 30, 3) := by decide +kernel
theorem dX8_readPlan_51 : decode cX8_readPlan 51 = .ok (.aload_n 0, 1) := by decide +kernel
theorem dX8_readPlan_52 : decode cX8_readPlan 52 = .ok (.iload_n 3, 1) := by decide +kernel
theorem dX8_readPlan_53 : decode cX8_readPlan 53 = .ok (.aload_n 1, 1) := by decide +kernel
theorem dX8_readPlan_54 : decode cX8_readPlan 54 = .ok (.iconst 1, 1) := by decide +kernel
theorem dX8_readPlan_55 : decode cX8_readPlan 55 = .ok (.iload_n 3, 1) := by decide +kernel
theorem dX8_readPlan_56 : decode cX8_readPlan 56 = .ok (.invokestatic 117, 3) := by decide +kernel
theorem dX8_readPlan_59 : decode cX8_readPlan 59 = .ok (.invokevirtual 33, 3) := by decide +kernel
theorem dX8_readPlan_62 : decode cX8_readPlan 62 = .ok (.invokevirtual 121, 3) := by decide +kernel
theorem dX8_readPlan_65 : decode cX8_readPlan 65 = .ok (.iinc 2 1, 3) := by decide +kernel
theorem dX8_readPlan_68 : decode cX8_readPlan 68 = .ok (.goto (-66), 3) := by decide +kernel
theorem dX8_readPlan_71 : decode cX8_readPlan 71 = .ok (.return_, 1) := by decide +kernel
theorem dX9_init_0 : decode cX9_init 0 = .ok (.aload_n 0, 1) := by decide +kernel
theorem dX9_init_1 : decode cX9_init 1 = .ok (.invokespecial 3, 3) := by decide +kernel
theorem dX9_init_4 : decode cX9_init 4 = .ok (.aload_n 0, 1) := by decide +kernel
theorem dX9_init_5 : decode cX9_init 5 = .ok (.sipush 600, 3) := by decide +kernel
theorem dX9_init_8 : decode cX9_init 8 = .ok (.newarray .byte, 2) := by decide +kernel
theorem dX9_init_10 : decode cX9_init 10 = .ok (.putfield 9, 3) := by decide +kernel
theorem dX9_init_13 : decode cX9_init 13 = .ok (.aload_n 0, 1) := by decide +kernel
theorem dX9_init_14 : decode cX9_init 14 = .ok (.iconst 0, 1) := by decide +kernel
theorem dX9_init_15 : decode cX9_init 15 = .ok (.putfield 15, 3) := by decide +kernel
theorem dX9_init_18 : decode cX9_init 18 = .ok (.aload_n 0, 1) := by decide +kernel
theorem dX9_init_19 : decode cX9_init 19 = .ok (.iconst 0, 1) := by decide +kernel
theorem dX9_init_20 : decode cX9_init 20 = .ok (.putfield 19, 3) := by decide +kernel
theorem dX9_init_23 : decode cX9_init 23 = .ok (.aload_n 0, 1) := by decide +kernel
theorem dX9_init_24 : decode cX9_init 24 = .ok (.iconst (-1), 1) := by decide +kernel
theorem dX9_init_25 : decode cX9_init 25 = .ok (.putfield 22, 3) := by decide +kernel
theorem dX9_init_28 : decode cX9_init 28 = .ok (.aload_n 0, 1) := by decide +kernel
theorem dX9_init_29 : decode cX9_init 29 = .ok (.iconst 0, 1) := by decide +kernel
theorem dX9_init_30 : decode cX9_init 30 = .ok (.putfield 25, 3) := by decide +kernel
theorem dX9_init_33 : decode cX9_init 33 = .ok (.aload_n 0, 1) := by decide +kernel
theorem dX9_init_34 : decode cX9_init 34 = .ok (.iconst 0, 1) := by decide +kernel
theorem dX9_init_35 : decode cX9_init 35 = .ok (.putfield 28, 3) := by decide +kernel
theorem dX9_init_38 : decode cX9_init 38 = .ok (.aload_n 0, 1) := by decide +kernel
theorem dX9_init_39 : decode cX9_init 39 = .ok (.iconst 0, 1) := by decide +kernel
theorem dX9_init_40 : decode cX9_init 40 = .ok (.putfield 31, 3) := by decide +kernel
theorem dX9_init_43 : decode cX9_init 43 = .ok (.aload_n 0, 1) := by decide +kernel
theorem dX9_init_44 : decode cX9_init 44 = .ok (.iconst 0, 1) := by decide +kernel
theorem dX9_init_45 : decode cX9_init 45 = .ok (.putfield 34, 3) := by decide +kernel
theorem dX9_init_48 : decode cX9_init 48 = .ok (.aload_n 0, 1) := by decide +kernel
theorem dX9_init_49 : decode cX9_init 49 = .ok (.lconst 0, 1) := by decide +kernel
theorem dX9_init_50 : decode cX9_init 50 = .ok (.putfield 37, 3) := by decide +kernel
theorem dX9_init_53 : decode cX9_init 53 = .ok (.aload_n 0, 1) := by decide +kernel
theorem dX9_init_54 : decode cX9_init 54 = .ok (.iconst 0, 1) := by decide +kernel
theorem dX9_init_55 : decode cX9_init 55 = .ok (.putfield 41, 3) := by decide +kernel
theorem dX9_init_58 : decode cX9_init 58 = .ok (.aload_n 0, 1) := by decide +kernel
theorem dX9_init_59 : decode cX9_init 59 = .ok (.iconst 0, 1) := by decide +kernel
theorem dX9_init_60 : decode cX9_init 60 = .ok (.putfield 44, 3) := by decide +kernel
theorem dX9_init_63 : decode cX9_init 63 = .ok (.return_, 1) := by decide +kernel
theorem dX9_hasRoomFor_0 : decode cX9_hasRoomFor 0 = .ok (.aload_n 0, 1) := by decide +kernel
theorem dX9_hasRoomFor_1 : decode cX9_hasRoomFor 1 = .ok (.getfield 15, 3) := by decide +kernel
theorem dX9_hasRoomFor_4 : decode cX9_hasRoomFor 4 = .ok (.iload_n 1, 1) := by decide +kernel
theorem dX9_hasRoomFor_5 : decode cX9_hasRoomFor 5 = .ok (.iadd, 1) := by decide +kernel
theorem dX9_hasRoomFor_6 : decode cX9_hasRoomFor 6 = .ok (.aload_n 0, 1) := by decide +kernel
theorem dX9_hasRoomFor_7 : decode cX9_hasRoomFor 7 = .ok (.getfield 9, 3) := by decide +kernel
theorem dX9_hasRoomFor_10 : decode cX9_hasRoomFor 10 = .ok (.arraylength, 1) := by decide +kernel
theorem dX9_hasRoomFor_11 : decode cX9_hasRoomFor 11 = .ok (.if_icmp .gt 7, 3) := by decide +kernel
theorem dX9_hasRoomFor_14 : decode cX9_hasRoomFor 14 = .ok (.iconst 1, 1) := by decide +kernel
theorem dX9_hasRoomFor_15 : decode cX9_hasRoomFor 15 = .ok (.goto 4, 3) := by decide +kernel
theorem dX9_hasRoomFor_18 : decode cX9_hasRoomFor 18 = .ok (.iconst 0, 1) := by decide +kernel
theorem dX9_hasRoomFor_19 : decode cX9_hasRoomFor 19 = .ok (.ireturn, 1) := by decide +kernel
theorem dX9_append_0 : decode cX9_append 0 = .ok (.bipush 24, 2) := by decide +kernel
theorem dX9_append_2 : decode cX9_append 2 = .ok (.istore_n 2, 1) := by decide +kernel
theorem dX9_append_3 : decode cX9_append 3 = .ok (.iload_n 2, 1) := by decide +kernel
theorem dX9_append_4 : decode cX9_append 4 = .ok (.ifCond .lt 51, 3) := by decide +kernel
theorem dX9_append_7 : decode cX9_append 7 = .ok (.aload_n 0, 1) := by decide +kernel
theorem dX9_append_8 : decode cX9_append 8 = .ok (.getfield 15, 3) := by decide +kernel
theorem dX9_append_11 : decode cX9_append 11 = .ok (.ifCond .lt 38, 3) := by decide +kernel
theorem dX9_append_14 : decode cX9_append 14 = .ok (.aload_n 0, 1) := by decide +kernel
theorem dX9_append_15 : decode cX9_append 15 = .ok (.getfield 15, 3) := by decide +kernel
theorem dX9_append_18 : decode cX9_append 18 = .ok (.aload_n 0, 1) := by decide +kernel
theorem dX9_append_19 : decode cX9_append 19 = .ok (.getfield 9, 3) := by decide +kernel
theorem dX9_append_22 : decode cX9_append 22 = .ok (.arraylength, 1) := by decide +kernel
theorem dX9_append_23 : decode cX9_append 23 = .ok (.if_icmp .ge 26, 3) := by decide +kernel
theorem dX9_append_26 : decode cX9_append 26 = .ok (.aload_n 0, 1) := by decide +kernel
theorem dX9_append_27 : decode cX9_append 27 = .ok (.getfield 9, 3) := by decide +kernel
theorem dX9_append_30 : decode cX9_append 30 = .ok (.aload_n 0, 1) := by decide +kernel
theorem dX9_append_31 : decode cX9_append 31 = .ok (.getfield 15, 3) := by decide +kernel
theorem dX9_append_34 : decode cX9_append 34 = .ok (.iload_n 1, 1) := by decide +kernel
theorem dX9_append_35 : decode cX9_append 35 = .ok (.iload_n 2, 1) := by decide +kernel
theorem dX9_append_36 : decode cX9_append 36 = .ok (.iushr, 1) := by decide +kernel
theorem dX9_append_37 : decode cX9_append 37 = .ok (.i2b, 1) := by decide +kernel
theorem dX9_append_38 : decode cX9_append 38 = .ok (.bastore, 1) := by decide +kernel
theorem dX9_append_39 : decode cX9_append 39 = .ok (.aload_n 0, 1) := by decide +kernel
theorem dX9_append_40 : decode cX9_append 40 = .ok (.dup, 1) := by decide +kernel
theorem dX9_append_41 : decode cX9_append 41 = .ok (.getfield 15, 3) := by decide +kernel
theorem dX9_append_44 : decode cX9_append 44 = .ok (.iconst 1, 1) := by decide +kernel
theorem dX9_append_45 : decode cX9_append 45 = .ok (.iadd, 1) := by decide +kernel
theorem dX9_append_46 : decode cX9_append 46 = .ok (.putfield 15, 3) := by decide +kernel
theorem dX9_append_49 : decode cX9_append 49 = .ok (.iinc 2 (-8), 3) := by decide +kernel
theorem dX9_append_52 : decode cX9_append 52 = .ok (.goto (-49), 3) := by decide +kernel
theorem dX9_append_55 : decode cX9_append 55 = .ok (.return_, 1) := by decide +kernel
theorem dX9_begin_0 : decode cX9_begin 0 = .ok (.aload_n 0, 1) := by decide +kernel
theorem dX9_begin_1 : decode cX9_begin 1 = .ok (.aload_n 0, 1) := by decide +kernel
theorem dX9_begin_2 : decode cX9_begin 2 = .ok (.getfield 15, 3) := by decide +kernel
theorem dX9_begin_5 : decode cX9_begin 5 = .ok (.putfield 25, 3) := by decide +kernel
theorem dX9_begin_8 : decode cX9_begin 8 = .ok (.aload_n 0, 1) := by decide +kernel
theorem dX9_begin_9 : decode cX9_begin 9 = .ok (.iconst 0, 1) := by decide +kernel
theorem dX9_begin_10 : decode cX9_begin 10 = .ok (.putfield 15, 3) := by decide +kernel
theorem dX9_begin_13 : decode cX9_begin 13 = .ok (.aload_n 0, 1) := by decide +kernel
theorem dX9_begin_14 : decode cX9_begin 14 = .ok (.iconst 0, 1) := by decide +kernel
theorem dX9_begin_15 : decode cX9_begin 15 = .ok (.putfield 19, 3) := by decide +kernel
theorem dX9_begin_18 : decode cX9_begin 18 = .ok (.aload_n 0, 1) := by decide +kernel
theorem dX9_begin_19 : decode cX9_begin 19 = .ok (.iconst (-1), 1) := by decide +kernel
theorem dX9_begin_20 : decode cX9_begin 20 = .ok (.putfield 22, 3) := by decide +kernel
theorem dX9_begin_23 : decode cX9_begin 23 = .ok (.aload_n 0, 1) := by decide +kernel
theorem dX9_begin_24 : decode cX9_begin 24 = .ok (.iconst 0, 1) := by decide +kernel
theorem dX9_begin_25 : decode cX9_begin 25 = .ok (.putfield 31, 3) := by decide +kernel
theorem dX9_begin_28 : decode cX9_begin 28 = .ok (.aload_n 0, 1) := by decide +kernel
theorem dX9_begin_29 : decode cX9_begin 29 = .ok (.invokevirtual 47, 3) := by decide +kernel
theorem dX9_begin_32 : decode cX9_begin 32 = .ok (.return_, 1) := by decide +kernel
theorem dX9_fail_0 : decode cX9_fail 0 = .ok (.aload_n 0, 1) := by decide +kernel
theorem dX9_fail_1 : decode cX9_fail 1 = .ok (.iload_n 1, 1) := by decide +kernel
theorem dX9_fail_2 : decode cX9_fail 2 = .ok (.putfield 19, 3) := by decide +kernel
theorem dX9_fail_5 : decode cX9_fail 5 = .ok (.aload_n 0, 1) := by decide +kernel
theorem dX9_fail_6 : decode cX9_fail 6 = .ok (.aload_n 0, 1) := by decide +kernel
theorem dX9_fail_7 : decode cX9_fail 7 = .ok (.getfield 28, 3) := by decide +kernel
theorem dX9_fail_10 : decode cX9_fail 10 = .ok (.putfield 22, 3) := by decide +kernel
theorem dX9_fail_13 : decode cX9_fail 13 = .ok (.new 50, 3) := by decide +kernel
theorem dX9_fail_16 : decode cX9_fail 16 = .ok (.dup, 1) := by decide +kernel
theorem dX9_fail_17 : decode cX9_fail 17 = .ok (.ldc 52, 2) := by decide +kernel
theorem dX9_fail_19 : decode cX9_fail 19 = .ok (.invokespecial 54, 3) := by decide +kernel
theorem dX9_fail_22 : decode cX9_fail 22 = .ok (.athrow, 1) := by decide +kernel
theorem dX9_step_0 : decode cX9_step 0 = .ok (.aload_n 0, 1) := by decide +kernel
theorem dX9_step_1 : decode cX9_step 1 = .ok (.aload_n 0, 1) := by decide +kernel
theorem dX9_step_2 : decode cX9_step 2 = .ok (.getfield 31, 3) := by decide +kernel
theorem dX9_step_5 : decode cX9_step 5 = .ok (.putfield 28, 3) := by decide +kernel
theorem dX9_step_8 : decode cX9_step 8 = .ok (.aload_n 0, 1) := by decide +kernel
theorem dX9_step_9 : decode cX9_step 9 = .ok (.getfield 28, 3) := by decide +kernel
theorem dX9_step_12 : decode cX9_step 12 = .ok (.aload_n 0, 1) := by decide +kernel
theorem dX9_step_13 : decode cX9_step 13 = .ok (.getfield 25, 3) := by decide +kernel
theorem dX9_step_16 : decode cX9_step 16 = .ok (.if_icmp .ge 42, 3) := by decide +kernel
theorem dX9_step_19 : decode cX9_step 19 = .ok (.aload_n 0, 1) := by decide +kernel
theorem dX9_step_20 : decode cX9_step 20 = .ok (.aload_n 0, 1) := by decide +kernel
theorem dX9_step_21 : decode cX9_step 21 = .ok (.getfield 28, 3) := by decide +kernel
theorem dX9_step_24 : decode cX9_step 24 = .ok (.invokevirtual 57, 3) := by decide +kernel
theorem dX9_step_27 : decode cX9_step 27 = .ok (.bipush 32, 2) := by decide +kernel
theorem dX9_step_29 : decode cX9_step 29 = .ok (.if_icmp .eq 16, 3) := by decide +kernel
theorem dX9_step_32 : decode cX9_step 32 = .ok (.aload_n 0, 1) := by decide +kernel
theorem dX9_step_33 : decode cX9_step 33 = .ok (.aload_n 0, 1) := by decide +kernel
theorem dX9_step_34 : decode cX9_step 34 = .ok (.getfield 28, 3) := by decide +kernel
theorem dX9_step_37 : decode cX9_step 37 = .ok (.invokevirtual 57, 3) := by decide +kernel
theorem dX9_step_40 : decode cX9_step 40 = .ok (.bipush 10, 2) := by decide +kernel
theorem dX9_step_42 : decode cX9_step 42 = .ok (.if_icmp .ne 16, 3) := by decide +kernel
theorem dX9_step_45 : decode cX9_step 45 = .ok (.aload_n 0, 1) := by decide +kernel
theorem dX9_step_46 : decode cX9_step 46 = .ok (.dup, 1) := by decide +kernel
theorem dX9_step_47 : decode cX9_step 47 = .ok (.getfield 28, 3) := by decide +kernel
theorem dX9_step_50 : decode cX9_step 50 = .ok (.iconst 1, 1) := by decide +kernel
theorem dX9_step_51 : decode cX9_step 51 = .ok (.iadd, 1) := by decide +kernel
theorem dX9_step_52 : decode cX9_step 52 = .ok (.putfield 28, 3) := by decide +kernel
theorem dX9_step_55 : decode cX9_step 55 = .ok (.goto (-47), 3) := by decide +kernel
theorem dX9_step_58 : decode cX9_step 58 = .ok (.aload_n 0, 1) := by decide +kernel
theorem dX9_step_59 : decode cX9_step 59 = .ok (.aload_n 0, 1) := by decide +kernel
theorem dX9_step_60 : decode cX9_step 60 = .ok (.getfield 28, 3) := by decide +kernel
theorem dX9_step_63 : decode cX9_step 63 = .ok (.invokevirtual 57, 3) := by decide +kernel
theorem dX9_step_66 : decode cX9_step 66 = .ok (.istore_n 1, 1) := by decide +kernel
theorem dX9_step_67 : decode cX9_step 67 = .ok (.aload_n 0, 1) := by decide +kernel
theorem dX9_step_68 : decode cX9_step 68 = .ok (.aload_n 0, 1) := by decide +kernel
theorem dX9_step_69 : decode cX9_step 69 = .ok (.getfield 28, 3) := by decide +kernel
theorem dX9_step_72 : decode cX9_step 72 = .ok (.iconst 1, 1) := by decide +kernel
theorem dX9_step_73 : decode cX9_step 73 = .ok (.iadd, 1) := by decide +kernel
theorem dX9_step_74 : decode cX9_step 74 = .ok (.putfield 31, 3) := by decide +kernel
theorem dX9_step_77 : decode cX9_step 77 = .ok (.aload_n 0, 1) := by decide +kernel
theorem dX9_step_78 : decode cX9_step 78 = .ok (.getfield 28, 3) := by decide +kernel
theorem dX9_step_81 : decode cX9_step 81 = .ok (.aload_n 0, 1) := by decide +kernel
theorem dX9_step_82 : decode cX9_step 82 = .ok (.getfield 25, 3) := by decide +kernel
theorem dX9_step_85 : decode cX9_step 85 = .ok (.if_icmp .lt 19, 3) := by decide +kernel
theorem dX9_step_88 : decode cX9_step 88 = .ok (.aload_n 0, 1) := by decide +kernel
theorem dX9_step_89 : decode cX9_step 89 = .ok (.iconst 0, 1) := by decide +kernel
theorem dX9_step_90 : decode cX9_step 90 = .ok (.putfield 34, 3) := by decide +kernel
theorem dX9_step_93 : decode cX9_step 93 = .ok (.aload_n 0, 1) := by decide +kernel
theorem dX9_step_94 : decode cX9_step 94 = .ok (.aload_n 0, 1) := by decide +kernel
theorem dX9_step_95 : decode cX9_step 95 = .ok (.getfield 25, 3) := by decide +kernel
theorem dX9_step_98 : decode cX9_step 98 = .ok (.putfield 31, 3) := by decide +kernel
theorem dX9_step_101 : decode cX9_step 101 = .ok (.goto 63, 3) := by decide +kernel
theorem dX9_step_104 : decode cX9_step 104 = .ok (.iload_n 1, 1) := by decide +kernel
theorem dX9_step_105 : decode cX9_step 105 = .ok (.invokestatic 61, 3) := by decide +kernel
theorem dX9_step_108 : decode cX9_step 108 = .ok (.ifCond .eq 10, 3) := by decide +kernel
theorem dX9_step_111 : decode cX9_step 111 = .ok (.aload_n 0, 1) := by decide +kernel
theorem dX9_step_112 : decode cX9_step 112 = .ok (.invokevirtual 65, 3) := by decide +kernel
theorem dX9_step_115 : decode cX9_step 115 = .ok (.goto 49, 3) := by decide +kernel
theorem dX9_step_118 : decode cX9_step 118 = .ok (.iload_n 1, 1) := by decide +kernel
theorem dX9_step_119 : decode cX9_step 119 = .ok (.invokestatic 68, 3) := by decide +kernel
theorem dX9_step_122 : decode cX9_step 122 = .ok (.ifCond .eq 10, 3) := by decide +kernel
theorem dX9_step_125 : decode cX9_step 125 = .ok (.aload_n 0, 1) := by decide +kernel
theorem dX9_step_126 : decode cX9_step 126 = .ok (.invokevirtual 71, 3) := by decide +kernel
theorem dX9_step_129 : decode cX9_step 129 = .ok (.goto 35, 3) := by decide +kernel
theorem dX9_step_132 : decode cX9_step 132 = .ok (.aload_n 0, 1) := by decide +kernel
theorem dX9_step_133 : decode cX9_step 133 = .ok (.iload_n 1, 1) := by decide +kernel
theorem dX9_step_134 : decode cX9_step 134 = .ok (.bipush 59, 2) := by decide +kernel
theorem dX9_step_136 : decode cX9_step 136 = .ok (.if_icmp .eq 15, 3) := by decide +kernel
theorem dX9_step_139 : decode cX9_step 139 = .ok (.iload_n 1, 1) := by decide +kernel
theorem dX9_step_140 : decode cX9_step 140 = .ok (.bipush 40, 2) := by decide +kernel
theorem dX9_step_142 : decode cX9_step 142 = .ok (.if_icmp .eq 9, 3) := by decide +kernel
theorem dX9_step_145 : decode cX9_step 145 = .ok (.iload_n 1, 1) := by decide +kernel
theorem dX9_step_146 : decode cX9_step 146 = .ok (.bipush 41, 2) := by decide +kernel
theorem dX9_step_148 : decode cX9_step 148 = .ok (.if_icmp .ne 7, 3) := by decide +kernel
theorem dX9_step_151 : decode cX9_step 151 = .ok (.iconst 3, 1) := by decide +kernel
theorem dX9_step_152 : decode cX9_step 152 = .ok (.goto 4, 3) := by decide +kernel
theorem dX9_step_155 : decode cX9_step 155 = .ok (.iconst 4, 1) := by decide +kernel
theorem dX9_step_156 : decode cX9_step 156 = .ok (.putfield 34, 3) := by decide +kernel
theorem dX9_step_159 : decode cX9_step 159 = .ok (.aload_n 0, 1) := by decide +kernel
theorem dX9_step_160 : decode cX9_step 160 = .ok (.iload_n 1, 1) := by decide +kernel
theorem dX9_step_161 : decode cX9_step 161 = .ok (.putfield 44, 3) := by decide +kernel
theorem dX9_step_164 : decode cX9_step 164 = .ok (.return_, 1) := by decide +kernel
theorem dX9_readWord_0 : decode cX9_readWord 0 = .ok (.aload_n 0, 1) := by decide +kernel
theorem dX9_readWord_1 : decode cX9_readWord 1 = .ok (.aload_n 0, 1) := by decide +kernel
theorem dX9_readWord_2 : decode cX9_readWord 2 = .ok (.getfield 28, 3) := by decide +kernel
theorem dX9_readWord_5 : decode cX9_readWord 5 = .ok (.putfield 31, 3) := by decide +kernel
theorem dX9_readWord_8 : decode cX9_readWord 8 = .ok (.aload_n 0, 1) := by decide +kernel
theorem dX9_readWord_9 : decode cX9_readWord 9 = .ok (.getfield 31, 3) := by decide +kernel
theorem dX9_readWord_12 : decode cX9_readWord 12 = .ok (.aload_n 0, 1) := by decide +kernel
theorem dX9_readWord_13 : decode cX9_readWord 13 = .ok (.getfield 25, 3) := by decide +kernel
theorem dX9_readWord_16 : decode cX9_readWord 16 = .ok (.if_icmp .ge 30, 3) := by decide +kernel
theorem dX9_readWord_19 : decode cX9_readWord 19 = .ok (.aload_n 0, 1) := by decide +kernel
theorem dX9_readWord_20 : decode cX9_readWord 20 = .ok (.aload_n 0, 1) := by decide +kernel
theorem dX9_readWord_21 : decode cX9_readWord 21 = .ok (.getfield 31, 3) := by decide +kernel
theorem dX9_readWord_24 : decode cX9_readWord 24 = .ok (.invokevirtual 57, 3) := by decide +kernel
theorem dX9_readWord_27 : decode cX9_readWord 27 = .ok (.invokestatic 61, 3) := by decide +kernel
theorem dX9_readWord_30 : decode cX9_readWord 30 = .ok (.ifCond .eq 16, 3) := by decide +kernel
theorem dX9_readWord_33 : decode cX9_readWord 33 = .ok (.aload_n 0, 1) := by decide +kernel
theorem dX9_readWord_34 : decode cX9_readWord 34 = .ok (.dup, 1) := by decide +kernel
theorem dX9_readWord_35 : decode cX9_readWord 35 = .ok (.getfield 31, 3) := by decide +kernel
theorem dX9_readWord_38 : decode cX9_readWord 38 = .ok (.iconst 1, 1) := by decide +kernel
theorem dX9_readWord_39 : decode cX9_readWord 39 = .ok (.iadd, 1) := by decide +kernel
theorem dX9_readWord_40 : decode cX9_readWord 40 = .ok (.putfield 31, 3) := by decide +kernel
theorem dX9_readWord_43 : decode cX9_readWord 43 = .ok (.goto (-35), 3) := by decide +kernel
theorem dX9_readWord_46 : decode cX9_readWord 46 = .ok (.aload_n 0, 1) := by decide +kernel
theorem dX9_readWord_47 : decode cX9_readWord 47 = .ok (.aload_n 0, 1) := by decide +kernel
theorem dX9_readWord_48 : decode cX9_readWord 48 = .ok (.getfield 31, 3) := by decide +kernel
theorem dX9_readWord_51 : decode cX9_readWord 51 = .ok (.aload_n 0, 1) := by decide +kernel
theorem dX9_readWord_52 : decode cX9_readWord 52 = .ok (.getfield 28, 3) := by decide +kernel
theorem dX9_readWord_55 : decode cX9_readWord 55 = .ok (.isub, 1) := by decide +kernel
theorem dX9_readWord_56 : decode cX9_readWord 56 = .ok (.bipush 8, 2) := by decide +kernel
theorem dX9_readWord_58 : decode cX9_readWord 58 = .ok (.if_icmp .gt 7, 3) := by decide +kernel
theorem dX9_readWord_61 : decode cX9_readWord 61 = .ok (.iconst 1, 1) := by decide +kernel
theorem dX9_readWord_62 : decode cX9_readWord 62 = .ok (.goto 4, 3) := by decide +kernel
theorem dX9_readWord_65 : decode cX9_readWord 65 = .ok (.iconst 4, 1) := by decide +kernel
theorem dX9_readWord_66 : decode cX9_readWord 66 = .ok (.putfield 34, 3) := by decide +kernel
theorem dX9_readWord_69 : decode cX9_readWord 69 = .ok (.aload_n 0, 1) := by decide +kernel
theorem dX9_readWord_70 : decode cX9_readWord 70 = .ok (.lconst 0, 1) := by decide +kernel
theorem dX9_readWord_71 : decode cX9_readWord 71 = .ok (.putfield 37, 3) := by decide +kernel
theorem dX9_readWord_74 : decode cX9_readWord 74 = .ok (.aload_n 0, 1) := by decide +kernel
theorem dX9_readWord_75 : decode cX9_readWord 75 = .ok (.getfield 28, 3) := by decide +kernel
theorem dX9_readWord_78 : decode cX9_readWord 78 = .ok (.istore_n 1, 1) := by decide +kernel
theorem dX9_readWord_79 : decode cX9_readWord 79 = .ok (.iload_n 1, 1) := by decide +kernel
theorem dX9_readWord_80 : decode cX9_readWord 80 = .ok (.aload_n 0, 1) := by decide +kernel
theorem dX9_readWord_81 : decode cX9_readWord 81 = .ok (.getfield 28, 3) := by decide +kernel
theorem dX9_readWord_84 : decode cX9_readWord 84 = .ok (.bipush 8, 2) := by decide +kernel
theorem dX9_readWord_86 : decode cX9_readWord 86 = .ok (.iadd, 1) := by decide +kernel
theorem dX9_readWord_87 : decode cX9_readWord 87 = .ok (.if_icmp .ge 39, 3) := by decide +kernel
theorem dX9_readWord_90 : decode cX9_readWord 90 = .ok (.aload_n 0, 1) := by decide +kernel
theorem dX9_readWord_91 : decode cX9_readWord 91 = .ok (.aload_n 0, 1) := by decide +kernel
theorem dX9_readWord_92 : decode cX9_readWord 92 = .ok (.getfield 37, 3) := by decide +kernel
theorem dX9_readWord_95 : decode cX9_readWord 95 = .ok (.bipush 8, 2) := by decide +kernel
theorem dX9_readWord_97 : decode cX9_readWord 97 = .ok (.lshl, 1) := by decide +kernel
theorem dX9_readWord_98 : decode cX9_readWord 98 = .ok (.iload_n 1, 1) := by decide +kernel
theorem dX9_readWord_99 : decode cX9_readWord 99 = .ok (.aload_n 0, 1) := by decide +kernel
theorem dX9_readWord_100 : decode cX9_readWord 100 = .ok (.getfield 31, 3) := by decide +kernel
theorem dX9_readWord_103 : decode cX9_readWord 103 = .ok (.if_icmp .ge 11, 3) := by decide +kernel
theorem dX9_readWord_106 : decode cX9_readWord 106 = .ok (.aload_n 0, 1) := by decide +kernel
theorem dX9_readWord_107 : decode cX9_readWord 107 = .ok (.iload_n 1, 1) := by decide +kernel
theorem dX9_readWord_108 : decode cX9_readWord 108 = .ok (.invokevirtual 57, 3) := by decide +kernel
theorem dX9_readWord_111 : decode cX9_readWord 111 = .ok (.goto 4, 3) := by decide +kernel
theorem dX9_readWord_114 : decode cX9_readWord 114 = .ok (.iconst 0, 1) := by decide +kernel
theorem dX9_readWord_115 : decode cX9_readWord 115 = .ok (.i2l, 1) := by decide +kernel
theorem dX9_readWord_116 : decode cX9_readWord 116 = .ok (.lor, 1) := by decide +kernel
theorem dX9_readWord_117 : decode cX9_readWord 117 = .ok (.putfield 37, 3) := by decide +kernel
theorem dX9_readWord_120 : decode cX9_readWord 120 = .ok (.iinc 1 1, 3) := by decide +kernel
theorem dX9_readWord_123 : decode cX9_readWord 123 = .ok (.goto (-44), 3) := by decide +kernel
theorem dX9_readWord_126 : decode cX9_readWord 126 = .ok (.return_, 1) := by decide +kernel
theorem dX9_readNumber_0 : decode cX9_readNumber 0 = .ok (.aload_n 0, 1) := by decide +kernel
theorem dX9_readNumber_1 : decode cX9_readNumber 1 = .ok (.aload_n 0, 1) := by decide +kernel
theorem dX9_readNumber_2 : decode cX9_readNumber 2 = .ok (.getfield 28, 3) := by decide +kernel
theorem dX9_readNumber_5 : decode cX9_readNumber 5 = .ok (.putfield 31, 3) := by decide +kernel
theorem dX9_readNumber_8 : decode cX9_readNumber 8 = .ok (.aload_n 0, 1) := by decide +kernel
theorem dX9_readNumber_9 : decode cX9_readNumber 9 = .ok (.getfield 31, 3) := by decide +kernel
theorem dX9_readNumber_12 : decode cX9_readNumber 12 = .ok (.aload_n 0, 1) := by decide +kernel
theorem dX9_readNumber_13 : decode cX9_readNumber 13 = .ok (.getfield 25, 3) := by decide +kernel
theorem dX9_readNumber_16 : decode cX9_readNumber 16 = .ok (.if_icmp .ge 30, 3) := by decide +kernel
theorem dX9_readNumber_19 : decode cX9_readNumber 19 = .ok (.aload_n 0, 1) := by decide +kernel
theorem dX9_readNumber_20 : decode cX9_readNumber 20 = .ok (.aload_n 0, 1) := by decide +kernel
theorem dX9_readNumber_21 : decode cX9_readNumber 21 = .ok (.getfield 31, 3) := by decide +kernel
theorem dX9_readNumber_24 : decode cX9_readNumber 24 = .ok (.invokevirtual 57, 3) := by decide +kernel
theorem dX9_readNumber_27 : decode cX9_readNumber 27 = .ok (.invokestatic 68, 3) := by decide +kernel
theorem dX9_readNumber_30 : decode cX9_readNumber 30 = .ok (.ifCond .eq 16, 3) := by decide +kernel
theorem dX9_readNumber_33 : decode cX9_readNumber 33 = .ok (.aload_n 0, 1) := by decide +kernel
theorem dX9_readNumber_34 : decode cX9_readNumber 34 = .ok (.dup, 1) := by decide +kernel
theorem dX9_readNumber_35 : decode cX9_readNumber 35 = .ok (.getfield 31, 3) := by decide +kernel
theorem dX9_readNumber_38 : decode cX9_readNumber 38 = .ok (.iconst 1, 1) := by decide +kernel
theorem dX9_readNumber_39 : decode cX9_readNumber 39 = .ok (.iadd, 1) := by decide +kernel
theorem dX9_readNumber_40 : decode cX9_readNumber 40 = .ok (.putfield 31, 3) := by decide +kernel
theorem dX9_readNumber_43 : decode cX9_readNumber 43 = .ok (.goto (-35), 3) := by decide +kernel
theorem dX9_readNumber_46 : decode cX9_readNumber 46 = .ok (.aload_n 0, 1) := by decide +kernel
theorem dX9_readNumber_47 : decode cX9_readNumber 47 = .ok (.aload_n 0, 1) := by decide +kernel
theorem dX9_readNumber_48 : decode cX9_readNumber 48 = .ok (.getfield 31, 3) := by decide +kernel
theorem dX9_readNumber_51 : decode cX9_readNumber 51 = .ok (.aload_n 0, 1) := by decide +kernel
theorem dX9_readNumber_52 : decode cX9_readNumber 52 = .ok (.getfield 28, 3) := by decide +kernel
theorem dX9_readNumber_55 : decode cX9_readNumber 55 = .ok (.isub, 1) := by decide +kernel
theorem dX9_readNumber_56 : decode cX9_readNumber 56 = .ok (.iconst 3, 1) := by decide +kernel
theorem dX9_readNumber_57 : decode cX9_readNumber 57 = .ok (.if_icmp .gt 7, 3) := by decide +kernel
theorem dX9_readNumber_60 : decode cX9_readNumber 60 = .ok (.iconst 2, 1) := by decide +kernel
theorem dX9_readNumber_61 : decode cX9_readNumber 61 = .ok (.goto 4, 3) := by decide +kernel
theorem dX9_readNumber_64 : decode cX9_readNumber 64 = .ok (.iconst 4, 1) := by decide +kernel
theorem dX9_readNumber_65 : decode cX9_readNumber 65 = .ok (.putfield 34, 3) := by decide +kernel
theorem dX9_readNumber_68 : decode cX9_readNumber 68 = .ok (.aload_n 0, 1) := by decide +kernel
theorem dX9_readNumber_69 : decode cX9_readNumber 69 = .ok (.iconst 0, 1) := by decide +kernel
theorem dX9_readNumber_70 : decode cX9_readNumber 70 = .ok (.putfield 41, 3) := by decide +kernel
theorem dX9_readNumber_73 : decode cX9_readNumber 73 = .ok (.aload_n 0, 1) := by decide +kernel
theorem dX9_readNumber_74 : decode cX9_readNumber 74 = .ok (.getfield 28, 3) := by decide +kernel
theorem dX9_readNumber_77 : decode cX9_readNumber 77 = .ok (.istore_n 1, 1) := by decide +kernel
theorem dX9_readNumber_78 : decode cX9_readNumber 78 = .ok (.iload_n 1, 1) := by decide +kernel
theorem dX9_readNumber_79 : decode cX9_readNumber 79 = .ok (.aload_n 0, 1) := by decide +kernel
theorem dX9_readNumber_80 : decode cX9_readNumber 80 = .ok (.getfield 31, 3) := by decide +kernel
theorem dX9_readNumber_83 : decode cX9_readNumber 83 = .ok (.if_icmp .ge 39, 3) := by decide +kernel
theorem dX9_readNumber_86 : decode cX9_readNumber 86 = .ok (.iload_n 1, 1) := by decide +kernel
theorem dX9_readNumber_87 : decode cX9_readNumber 87 = .ok (.aload_n 0, 1) := by decide +kernel
theorem dX9_readNumber_88 : decode cX9_readNumber 88 = .ok (.getfield 28, 3) := by decide +kernel
theorem dX9_readNumber_91 : decode cX9_readNumber 91 = .ok (.iconst 3, 1) := by decide +kernel
theorem dX9_readNumber_92 : decode cX9_readNumber 92 = .ok (.iadd, 1) := by decide +kernel
theorem dX9_readNumber_93 : decode cX9_readNumber 93 = .ok (.if_icmp .ge 29, 3) := by decide +kernel
theorem dX9_readNumber_96 : decode cX9_readNumber 96 = .ok (.aload_n 0, 1) := by decide +kernel
theorem dX9_readNumber_97 : decode cX9_readNumber 97 = .ok (.aload_n 0, 1) := by decide +kernel
theorem dX9_readNumber_98 : decode cX9_readNumber 98 = .ok (.getfield 41, 3) := by decide +kernel
theorem dX9_readNumber_101 : decode cX9_readNumber 101 = .ok (.bipush 10, 2) := by decide +kernel
theorem dX9_readNumber_103 : decode cX9_readNumber 103 = .ok (.imul, 1) := by decide +kernel
theorem dX9_readNumber_104 : decode cX9_readNumber 104 = .ok (.aload_n 0, 1) := by decide +kernel
theorem dX9_readNumber_105 : decode cX9_readNumber 105 = .ok (.iload_n 1, 1) := by decide +kernel
theorem dX9_readNumber_106 : decode cX9_readNumber 106 = .ok (.invokevirtual 57, 3) := by decide +kernel
theorem dX9_readNumber_109 : decode cX9_readNumber 109 = .ok (.iadd, 1) := by decide +kernel
theorem dX9_readNumber_110 : decode cX9_readNumber 110 = .ok (.bipush 48, 2) := by decide +kernel
theorem dX9_readNumber_112 : decode cX9_readNumber 112 = .ok (.isub, 1) := by decide +kernel
theorem dX9_readNumber_113 : decode cX9_readNumber 113 = .ok (.putfield 41, 3) := by decide +kernel
theorem dX9_readNumber_116 : decode cX9_readNumber 116 = .ok (.iinc 1 1, 3) := by decide +kernel
theorem dX9_readNumber_119 : decode cX9_readNumber 119 = .ok (.goto (-41), 3) := by decide +kernel
theorem dX9_readNumber_122 : decode cX9_readNumber 122 = .ok (.return_, 1) := by decide +kernel
theorem dX9_byteAt_0 : decode cX9_byteAt 0 = .ok (.iload_n 1, 1) := by decide +kernel
theorem dX9_byteAt_1 : decode cX9_byteAt 1 = .ok (.ifCond .lt 33, 3) := by decide +kernel
theorem dX9_byteAt_4 : decode cX9_byteAt 4 = .ok (.iload_n 1, 1) := by decide +kernel
theorem dX9_byteAt_5 : decode cX9_byteAt 5 = .ok (.aload_n 0, 1) := by decide +kernel
theorem dX9_byteAt_6 : decode cX9_byteAt 6 = .ok (.getfield 25, 3) := by decide +kernel
theorem dX9_byteAt_9 : decode cX9_byteAt 9 = .ok (.if_icmp .ge 25, 3) := by decide +kernel
theorem dX9_byteAt_12 : decode cX9_byteAt 12 = .ok (.iload_n 1, 1) := by decide +kernel
theorem dX9_byteAt_13 : decode cX9_byteAt 13 = .ok (.aload_n 0, 1) := by decide +kernel
theorem dX9_byteAt_14 : decode cX9_byteAt 14 = .ok (.getfield 9, 3) := by decide +kernel
theorem dX9_byteAt_17 : decode cX9_byteAt 17 = .ok (.arraylength, 1) := by decide +kernel
theorem dX9_byteAt_18 : decode cX9_byteAt 18 = .ok (.if_icmp .ge 16, 3) := by decide +kernel
theorem dX9_byteAt_21 : decode cX9_byteAt 21 = .ok (.aload_n 0, 1) := by decide +kernel
theorem dX9_byteAt_22 : decode cX9_byteAt 22 = .ok (.getfield 9, 3) := by decide +kernel
theorem dX9_byteAt_25 : decode cX9_byteAt 25 = .ok (.iload_n 1, 1) := by decide +kernel
theorem dX9_byteAt_26 : decode cX9_byteAt 26 = .ok (.baload, 1) := by decide +kernel
theorem dX9_byteAt_27 : decode cX9_byteAt 27 = .ok (.sipush 255, 3) := by decide +kernel
theorem dX9_byteAt_30 : decode cX9_byteAt 30 = .ok (.iand, 1) := by decide +kernel
theorem dX9_byteAt_31 : decode cX9_byteAt 31 = .ok (.goto 4, 3) := by decide +kernel
theorem dX9_byteAt_34 : decode cX9_byteAt 34 = .ok (.iconst 0, 1) := by decide +kernel
theorem dX9_byteAt_35 : decode cX9_byteAt 35 = .ok (.ireturn, 1) := by decide +kernel
theorem dX9_isLetter_0 : decode cX9_isLetter 0 = .ok (.iload_n 0, 1) := by decide +kernel
theorem dX9_isLetter_1 : decode cX9_isLetter 1 = .ok (.bipush 97, 2) := by decide +kernel
theorem dX9_isLetter_3 : decode cX9_isLetter 3 = .ok (.if_icmp .lt 13, 3) := by decide +kernel
theorem dX9_isLetter_6 : decode cX9_isLetter 6 = .ok (.iload_n 0, 1) := by decide +kernel
theorem dX9_isLetter_7 : decode cX9_isLetter 7 = .ok (.bipush 122, 2) := by decide +kernel
theorem dX9_isLetter_9 : decode cX9_isLetter 9 = .ok (.if_icmp .gt 7, 3) := by decide +kernel
theorem dX9_isLetter_12 : decode cX9_isLetter 12 = .ok (.iconst 1, 1) := by decide +kernel
theorem dX9_isLetter_13 : decode cX9_isLetter 13 = .ok (.goto 4, 3) := by decide +kernel
theorem dX9_isLetter_16 : decode cX9_isLetter 16 = .ok (.iconst 0, 1) := by decide +kernel
theorem dX9_isLetter_17 : decode cX9_isLetter 17 = .ok (.ireturn, 1) := by decide +kernel
theorem dX9_isDigit_0 : decode cX9_isDigit 0 = .ok (.iload_n 0, 1) := by decide +kernel
theorem dX9_isDigit_1 : decode cX9_isDigit 1 = .ok (.bipush 48, 2) := by decide +kernel
theorem dX9_isDigit_3 : decode cX9_isDigit 3 = .ok (.if_icmp .lt 13, 3) := by decide +kernel
theorem dX9_isDigit_6 : decode cX9_isDigit 6 = .ok (.iload_n 0, 1) := by decide +kernel
theorem dX9_isDigit_7 : decode cX9_isDigit 7 = .ok (.bipush 57, 2) := by decide +kernel
theorem dX9_isDigit_9 : decode cX9_isDigit 9 = .ok (.if_icmp .gt 7, 3) := by decide +kernel
theorem dX9_isDigit_12 : decode cX9_isDigit 12 = .ok (.iconst 1, 1) := by decide +kernel
theorem dX9_isDigit_13 : decode cX9_isDigit 13 = .ok (.goto 4, 3) := by decide +kernel
theorem dX9_isDigit_16 : decode cX9_isDigit 16 = .ok (.iconst 0, 1) := by decide +kernel
theorem dX9_isDigit_17 : decode cX9_isDigit 17 = .ok (.ireturn, 1) := by decide +kernel
theorem dX9_isWord_0 : decode cX9_isWord 0 = .ok (.aload_n 0, 1) := by decide +kernel
theorem dX9_isWord_1 : decode cX9_isWord 1 = .ok (.getfield 34, 3) := by decide +kernel
theorem dX9_isWord_4 : decode cX9_isWord 4 = .ok (.iconst 1, 1) := by decide +kernel
theorem dX9_isWord_5 : decode cX9_isWord 5 = .ok (.if_icmp .ne 19, 3) := by decide +kernel
theorem dX9_isWord_8 : decode cX9_isWord 8 = .ok (.aload_n 0, 1) := by decide +kernel
theorem dX9_isWord_9 : decode cX9_isWord 9 = .ok (.getfield 37, 3) := by decide +kernel
theorem dX9_isWord_12 : decode cX9_isWord 12 = .ok (.aload_n 1, 1) := by decide +kernel
theorem dX9_isWord_13 : decode cX9_isWord 13 = .ok (.invokestatic 74, 3) := by decide +kernel
theorem dX9_isWord_16 : decode cX9_isWord 16 = .ok (.lcmp, 1) := by decide +kernel
theorem dX9_isWord_17 : decode cX9_isWord 17 = .ok (.ifCond .ne 7, 3) := by decide +kernel
theorem dX9_isWord_20 : decode cX9_isWord 20 = .ok (.iconst 1, 1) := by decide +kernel
theorem dX9_isWord_21 : decode cX9_isWord 21 = .ok (.goto 4, 3) := by decide +kernel
theorem dX9_isWord_24 : decode cX9_isWord 24 = .ok (.iconst 0, 1) := by decide +kernel
theorem dX9_isWord_25 : decode cX9_isWord 25 = .ok (.ireturn, 1) := by decide +kernel
theorem dX9_isSign_0 : decode cX9_isSign 0 = .ok (.aload_n 0, 1) := by decide +kernel
theorem dX9_isSign_1 : decode cX9_isSign 1 = .ok (.getfield 34, 3) := by decide +kernel
theorem dX9_isSign_4 : decode cX9_isSign 4 = .ok (.iconst 3, 1) := by decide +kernel
theorem dX9_isSign_5 : decode cX9_isSign 5 = .ok (.if_icmp .ne 15, 3) := by decide +kernel
theorem dX9_isSign_8 : decode cX9_isSign 8 = .ok (.aload_n 0, 1) := by decide +kernel
theorem dX9_isSign_9 : decode cX9_isSign 9 = .ok (.getfield 44, 3) := by decide +kernel
theorem dX9_isSign_12 : decode cX9_isSign 12 = .ok (.iload_n 1, 1) := by decide +kernel
theorem dX9_isSign_13 : decode cX9_isSign 13 = .ok (.if_icmp .ne 7, 3) := by decide +kernel
theorem dX9_isSign_16 : decode cX9_isSign 16 = .ok (.iconst 1, 1) := by decide +kernel
theorem dX9_isSign_17 : decode cX9_isSign 17 = .ok (.goto 4, 3) := by decide +kernel
theorem dX9_isSign_20 : decode cX9_isSign 20 = .ok (.iconst 0, 1) := by decide +kernel
theorem dX9_isSign_21 : decode cX9_isSign 21 = .ok (.ireturn, 1) := by decide +kernel
theorem dX9_takeWord_0 : decode cX9_takeWord 0 = .ok (.aload_n 0, 1) := by decide +kernel
theorem dX9_takeWord_1 : decode cX9_takeWord 1 = .ok (.aload_n 1, 1) := by decide +kernel
theorem dX9_takeWord_2 : decode cX9_takeWord 2 = .ok (.invokevirtual 80, 3) := by decide +kernel
theorem dX9_takeWord_5 : decode cX9_takeWord 5 = .ok (.ifCond .ne 8, 3) := by decide +kernel
theorem dX9_takeWord_8 : decode cX9_takeWord 8 = .ok (.aload_n 0, 1) := by decide +kernel
theorem dX9_takeWord_9 : decode cX9_takeWord 9 = .ok (.iconst 1, 1) := by decide +kernel
theorem dX9_takeWord_10 : decode cX9_takeWord 10 = .ok (.invokevirtual 84, 3) := by decide +kernel
theorem dX9_takeWord_13 : decode cX9_takeWord 13 = .ok (.aload_n 0, 1) := by decide +kernel
theorem dX9_takeWord_14 : decode cX9_takeWord 14 = .ok (.invokevirtual 47, 3) := by decide +kernel
theorem dX9_takeWord_17 : decode cX9_takeWord 17 = .ok (.return_, 1) := by decide +kernel
theorem dX9_takeSign_0 : decode cX9_takeSign 0 = .ok (.aload_n 0, 1) := by decide +kernel
theorem dX9_takeSign_1 : decode cX9_takeSign 1 = .ok (.iload_n 1, 1) := by decide +kernel
theorem dX9_takeSign_2 : decode cX9_takeSign 2 = .ok (.invokevirtual 88, 3) := by decide +kernel
theorem dX9_takeSign_5 : decode cX9_takeSign 5 = .ok (.ifCond .ne 8, 3) := by decide +kernel
theorem dX9_takeSign_8 : decode cX9_takeSign 8 = .ok (.aload_n 0, 1) := by decide +kernel
theorem dX9_takeSign_9 : decode cX9_takeSign 9 = .ok (.iconst 1, 1) := by decide +kernel
theorem dX9_takeSign_10 : decode cX9_takeSign 10 = .ok (.invokevirtual 84, 3) := by decide +kernel
theorem dX9_takeSign_13 : decode cX9_takeSign 13 = .ok (.aload_n 0, 1) := by decide +kernel
theorem dX9_takeSign_14 : decode cX9_takeSign 14 = .ok (.invokevirtual 47, 3) := by decide +kernel
theorem dX9_takeSign_17 : decode cX9_takeSign 17 = .ok (.return_, 1) := by decide +kernel
theorem dX9_takeNumber_0 : decode cX9_takeNumber 0 = .ok (.aload_n 0, 1) := by decide +kernel
theorem dX9_takeNumber_1 : decode cX9_takeNumber 1 = .ok (.getfield 34, 3) := by decide +kernel
theorem dX9_takeNumber_4 : decode cX9_takeNumber 4 = .ok (.iconst 2, 1) := by decide +kernel
theorem dX9_takeNumber_5 : decode cX9_takeNumber 5 = .ok (.if_icmp .eq 8, 3) := by decide +kernel
theorem dX9_takeNumber_8 : decode cX9_takeNumber 8 = .ok (.aload_n 0, 1) := by decide +kernel
theorem dX9_takeNumber_9 : decode cX9_takeNumber 9 = .ok (.iconst 1, 1) := by decide +kernel
theorem dX9_takeNumber_10 : decode cX9_takeNumber 10 = .ok (.invokevirtual 84, 3) := by decide +kernel
theorem dX9_takeNumber_13 : decode cX9_takeNumber 13 = .ok (.aload_n 0, 1) := by decide +kernel
theorem dX9_takeNumber_14 : decode cX9_takeNumber 14 = .ok (.getfield 41, 3) := by decide +kernel
theorem dX9_takeNumber_17 : decode cX9_takeNumber 17 = .ok (.iload_n 1, 1) := by decide +kernel
theorem dX9_takeNumber_18 : decode cX9_takeNumber 18 = .ok (.if_icmp .lt 11, 3) := by decide +kernel
theorem dX9_takeNumber_21 : decode cX9_takeNumber 21 = .ok (.aload_n 0, 1) := by decide +kernel
theorem dX9_takeNumber_22 : decode cX9_takeNumber 22 = .ok (.getfield 41, 3) := by decide +kernel
theorem dX9_takeNumber_25 : decode cX9_takeNumber 25 = .ok (.iload_n 2, 1) := by decide +kernel
theorem dX9_takeNumber_26 : decode cX9_takeNumber 26 = .ok (.if_icmp .le 8, 3) := by decide +kernel
theorem dX9_takeNumber_29 : decode cX9_takeNumber 29 = .ok (.aload_n 0, 1) := by decide +kernel
theorem dX9_takeNumber_30 : decode cX9_takeNumber 30 = .ok (.iconst 2, 1) := by decide +kernel
theorem dX9_takeNumber_31 : decode cX9_takeNumber 31 = .ok (.invokevirtual 84, 3) := by decide +kernel
theorem dX9_takeNumber_34 : decode cX9_takeNumber 34 = .ok (.aload_n 0, 1) := by decide +kernel
theorem dX9_takeNumber_35 : decode cX9_takeNumber 35 = .ok (.getfield 41, 3) := by decide +kernel
theorem dX9_takeNumber_38 : decode cX9_takeNumber 38 = .ok (.istore_n 3, 1) := by decide +kernel
theorem dX9_takeNumber_39 : decode cX9_takeNumber 39 = .ok (.aload_n 0, 1) := by decide +kernel
theorem dX9_takeNumber_40 : decode cX9_takeNumber 40 = .ok (.invokevirtual 47, 3) := by decide +kernel
theorem dX9_takeNumber_43 : decode cX9_takeNumber 43 = .ok (.iload_n 3, 1) := by decide +kernel
theorem dX9_takeNumber_44 : decode cX9_takeNumber 44 = .ok (.ireturn, 1) := by decide +kernel
theorem dX10_packed_0 : decode cX10_packed 0 = .ok (.lconst 0, 1) := by decide +kernel
theorem dX10_packed_1 : decode cX10_packed 1 = .ok (.lstore_n 1, 1) := by decide +kernel
theorem dX10_packed_2 : decode cX10_packed 2 = .ok (.iconst 0, 1) := by decide +kernel
theorem dX10_packed_3 : decode cX10_packed 3 = .ok (.istore_n 3, 1) := by decide +kernel
theorem dX10_packed_4 : decode cX10_packed 4 = .ok (.iload_n 3, 1) := by decide +kernel
theorem dX10_packed_5 : decode cX10_packed 5 = .ok (.bipush 8, 2) := by decide +kernel
theorem dX10_packed_7 : decode cX10_packed 7 = .ok (.if_icmp .ge 37, 3) := by decide +kernel
theorem dX10_packed_10 : decode cX10_packed 10 = .ok (.lload_n 1, 1) := by decide +kernel
theorem dX10_packed_11 : decode cX10_packed 11 = .ok (.bipush 8, 2) := by decide +kernel
theorem dX10_packed_13 : decode cX10_packed 13 = .ok (.lshl, 1) := by decide +kernel
theorem dX10_packed_14 : decode cX10_packed 14 = .ok (.iload_n 3, 1) := by decide +kernel
theorem dX10_packed_15 : decode cX10_packed 15 = .ok (.aload_n 0, 1) := by decide +kernel
theorem dX10_packed_16 : decode cX10_packed 16 = .ok (.invokevirtual 9, 3) := by decide +kernel
theorem dX10_packed_19 : decode cX10_packed 19 = .ok (.if_icmp .ge 15, 3) := by decide +kernel
theorem dX10_packed_22 : decode cX10_packed 22 = .ok (.aload_n 0, 1) := by decide +kernel
theorem dX10_packed_23 : decode cX10_packed 23 = .ok (.iload_n 3, 1) := by decide +kernel
theorem dX10_packed_24 : decode cX10_packed 24 = .ok (.invokevirtual 15, 3) := by decide +kernel
theorem dX10_packed_27 : decode cX10_packed 27 = .ok (.sipush 255, 3) := by decide +kernel
theorem dX10_packed_30 : decode cX10_packed 30 = .ok (.iand, 1) := by decide +kernel
theorem dX10_packed_31 : decode cX10_packed 31 = .ok (.goto 4, 3) := by decide +kernel
theorem dX10_packed_34 : decode cX10_packed 34 = .ok (.iconst 0, 1) := by decide +kernel
theorem dX10_packed_35 : decode cX10_packed 35 = .ok (.i2l, 1) := by decide +kernel
theorem dX10_packed_36 : decode cX10_packed 36 = .ok (.lor, 1) := by decide +kernel
theorem dX10_packed_37 : decode cX10_packed 37 = .ok (.lstore_n 1, 1) := by decide +kernel
theorem dX10_packed_38 : decode cX10_packed 38 = .ok (.iinc 3 1, 3) := by decide +kernel
theorem dX10_packed_41 : decode cX10_packed 41 = .ok (.goto (-37), 3) := by decide +kernel
theorem dX10_packed_44 : decode cX10_packed 44 = .ok (.lload_n 1, 1) := by decide +kernel
theorem dX10_packed_45 : decode cX10_packed 45 = .ok (.lreturn, 1) := by decide +kernel
theorem dX10_letterAt_0 : decode cX10_letterAt 0 = .ok (.iload_n 2, 1) := by decide +kernel
theorem dX10_letterAt_1 : decode cX10_letterAt 1 = .ok (.ifCond .lt 26, 3) := by decide +kernel
theorem dX10_letterAt_4 : decode cX10_letterAt 4 = .ok (.iload_n 2, 1) := by decide +kernel
theorem dX10_letterAt_5 : decode cX10_letterAt 5 = .ok (.bipush 8, 2) := by decide +kernel
theorem dX10_letterAt_7 : decode cX10_letterAt 7 = .ok (.if_icmp .ge 20, 3) := by decide +kernel
theorem dX10_letterAt_10 : decode cX10_letterAt 10 = .ok (.lload_n 0, 1) := by decide +kernel
theorem dX10_letterAt_11 : decode cX10_letterAt 11 = .ok (.bipush 8, 2) := by decide +kernel
theorem dX10_letterAt_13 : decode cX10_letterAt 13 = .ok (.bipush 7, 2) := by decide +kernel
theorem dX10_letterAt_15 : decode cX10_letterAt 15 = .ok (.iload_n 2, 1) := by decide +kernel
theorem dX10_letterAt_16 : decode cX10_letterAt 16 = .ok (.isub, 1) := by decide +kernel
theorem dX10_letterAt_17 : decode cX10_letterAt 17 = .ok (.imul, 1) := by decide +kernel
theorem dX10_letterAt_18 : decode cX10_letterAt 18 = .ok (.lushr, 1) := by decide +kernel
theorem dX10_letterAt_19 : decode cX10_letterAt 19 = .ok (.l2i, 1) := by decide +kernel
theorem dX10_letterAt_20 : decode cX10_letterAt 20 = .ok (.sipush 255, 3) := by decide +kernel
theorem dX10_letterAt_23 : decode cX10_letterAt 23 = .ok (.iand, 1) := by decide +kernel
theorem dX10_letterAt_24 : decode cX10_letterAt 24 = .ok (.goto 4, 3) := by decide +kernel
theorem dX10_letterAt_27 : decode cX10_letterAt 27 = .ok (.iconst 0, 1) := by decide +kernel
theorem dX10_letterAt_28 : decode cX10_letterAt 28 = .ok (.ireturn, 1) := by decide +kernel
theorem dX11_init_0 : decode cX11_init 0 = .ok (.aload_n 0, 1) := by decide +kernel
theorem dX11_init_1 : decode cX11_init 1 = .ok (.invokespecial 1, 3) := by decide +kernel
theorem dX11_init_4 : decode cX11_init 4 = .ok (.aload_n 0, 1) := by decide +kernel
theorem dX11_init_5 : decode cX11_init 5 = .ok (.new 7, 3) := by decide +kernel
theorem dX11_init_8 : decode cX11_init 8 = .ok (.dup, 1) := by decide +kernel
theorem dX11_init_9 : decode cX11_init 9 = .ok (.invokespecial 9, 3) := by decide +kernel
theorem dX11_init_12 : decode cX11_init 12 = .ok (.putfield 10, 3) := by decide +kernel
theorem dX11_init_15 : decode cX11_init 15 = .ok (.aload_n 0, 1) := by decide +kernel
theorem dX11_init_16 : decode cX11_init 16 = .ok (.new 16, 3) := by decide +kernel
theorem dX11_init_19 : decode cX11_init 19 = .ok (.dup, 1) := by decide +kernel
theorem dX11_init_20 : decode cX11_init 20 = .ok (.invokespecial 18, 3) := by decide +kernel
theorem dX11_init_23 : decode cX11_init 23 = .ok (.putfield 19, 3) := by decide +kernel
theorem dX11_init_26 : decode cX11_init 26 = .ok (.aload_n 0, 1) := by decide +kernel
theorem dX11_init_27 : decode cX11_init 27 = .ok (.new 23, 3) := by decide +kernel
theorem dX11_init_30 : decode cX11_init 30 = .ok (.dup, 1) := by decide +kernel
theorem dX11_init_31 : decode cX11_init 31 = .ok (.invokespecial 25, 3) := by decide +kernel
theorem dX11_init_34 : decode cX11_init 34 = .ok (.putfield 26, 3) := by decide +kernel
theorem dX11_init_37 : decode cX11_init 37 = .ok (.aload_n 0, 1) := by decide +kernel
theorem dX11_init_38 : decode cX11_init 38 = .ok (.new 23, 3) := by decide +kernel
theorem dX11_init_41 : decode cX11_init 41 = .ok (.dup, 1) := by decide +kernel
theorem dX11_init_42 : decode cX11_init 42 = .ok (.invokespecial 25, 3) := by decide +kernel
theorem dX11_init_45 : decode cX11_init 45 = .ok (.putfield 30, 3) := by decide +kernel
theorem dX11_init_48 : decode cX11_init 48 = .ok (.aload_n 0, 1) := by decide +kernel
theorem dX11_init_49 : decode cX11_init 49 = .ok (.new 23, 3) := by decide +kernel
theorem dX11_init_52 : decode cX11_init 52 = .ok (.dup, 1) := by decide +kernel
theorem dX11_init_53 : decode cX11_init 53 = .ok (.invokespecial 25, 3) := by decide +kernel
theorem dX11_init_56 : decode cX11_init 56 = .ok (.putfield 33, 3) := by decide +kernel
theorem dX11_init_59 : decode cX11_init 59 = .ok (.aload_n 0, 1) := by decide +kernel
theorem dX11_init_60 : decode cX11_init 60 = .ok (.new 36, 3) := by decide +kernel
theorem dX11_init_63 : decode cX11_init 63 = .ok (.dup, 1) := by decide +kernel
theorem dX11_init_64 : decode cX11_init 64 = .ok (.invokespecial 38, 3) := by decide +kernel
theorem dX11_init_67 : decode cX11_init 67 = .ok (.putfield 39, 3) := by decide +kernel
theorem dX11_init_70 : decode cX11_init 70 = .ok (.aload_n 0, 1) := by decide +kernel
theorem dX11_init_71 : decode cX11_init 71 = .ok (.new 43, 3) := by decide +kernel
theorem dX11_init_74 : decode cX11_init 74 = .ok (.dup, 1) := by decide +kernel
theorem dX11_init_75 : decode cX11_init 75 = .ok (.invokespecial 45, 3) := by decide +kernel
theorem dX11_init_78 : decode cX11_init 78 = .ok (.putfield 46, 3) := by decide +kernel
theorem dX11_init_81 : decode cX11_init 81 = .ok (.aload_n 0, 1) := by decide +kernel
theorem dX11_init_82 : decode cX11_init 82 = .ok (.new 50, 3) := by decide +kernel
theorem dX11_init_85 : decode cX11_init 85 = .ok (.dup, 1) := by decide +kernel
theorem dX11_init_86 : decode cX11_init 86 = .ok (.invokespecial 52, 3) := by decide +kernel
theorem dX11_init_89 : decode cX11_init 89 = .ok (.putfield 53, 3) := by decide +kernel
theorem dX11_init_92 : decode cX11_init 92 = .ok (.aload_n 0, 1) := by decide +kernel
theorem dX11_init_93 : decode cX11_init 93 = .ok (.iconst 0, 1) := by decide +kernel
theorem dX11_init_94 : decode cX11_init 94 = .ok (.putfield 57, 3) := by decide +kernel
theorem dX11_init_97 : decode cX11_init 97 = .ok (.return_, 1) := by decide +kernel
theorem dX11_feed_0 : decode cX11_feed 0 = .ok (.aload_n 0, 1) := by decide +kernel
theorem dX11_feed_1 : decode cX11_feed 1 = .ok (.getfield 10, 3) := by decide +kernel
theorem dX11_feed_4 : decode cX11_feed 4 = .ok (.bipush 20, 2) := by decide +kernel
theorem dX11_feed_6 : decode cX11_feed 6 = .ok (.invokevirtual 61, 3) := by decide +kernel
theorem dX11_feed_9 : decode cX11_feed 9 = .ok (.ifCond .ne 13, 3) := by decide +kernel
theorem dX11_feed_12 : decode cX11_feed 12 = .ok (.new 65, 3) := by decide +kernel
theorem dX11_feed_15 : decode cX11_feed 15 = .ok (.dup, 1) := by decide +kernel
theorem dX11_feed_16 : decode cX11_feed 16 = .ok (.ldc 67, 2) := by decide +kernel
theorem dX11_feed_18 : decode cX11_feed 18 = .ok (.invokespecial 69, 3) := by decide +kernel
theorem dX11_feed_21 : decode cX11_feed 21 = .ok (.athrow, 1) := by decide +kernel
theorem dX11_feed_22 : decode cX11_feed 22 = .ok (.aload_n 0, 1) := by decide +kernel
theorem dX11_feed_23 : decode cX11_feed 23 = .ok (.getfield 10, 3) := by decide +kernel
theorem dX11_feed_26 : decode cX11_feed 26 = .ok (.iload_n 1, 1) := by decide +kernel
theorem dX11_feed_27 : decode cX11_feed 27 = .ok (.invokevirtual 72, 3) := by decide +kernel
theorem dX11_feed_30 : decode cX11_feed 30 = .ok (.aload_n 0, 1) := by decide +kernel
theorem dX11_feed_31 : decode cX11_feed 31 = .ok (.getfield 10, 3) := by decide +kernel
theorem dX11_feed_34 : decode cX11_feed 34 = .ok (.iload_n 2, 1) := by decide +kernel
theorem dX11_feed_35 : decode cX11_feed 35 = .ok (.invokevirtual 72, 3) := by decide +kernel
theorem dX11_feed_38 : decode cX11_feed 38 = .ok (.aload_n 0, 1) := by decide +kernel
theorem dX11_feed_39 : decode cX11_feed 39 = .ok (.getfield 10, 3) := by decide +kernel
theorem dX11_feed_42 : decode cX11_feed 42 = .ok (.iload_n 3, 1) := by decide +kernel
theorem dX11_feed_43 : decode cX11_feed 43 = .ok (.invokevirtual 72, 3) := by decide +kernel
theorem dX11_feed_46 : decode cX11_feed 46 = .ok (.aload_n 0, 1) := by decide +kernel
theorem dX11_feed_47 : decode cX11_feed 47 = .ok (.getfield 10, 3) := by decide +kernel
theorem dX11_feed_50 : decode cX11_feed 50 = .ok (.iload 4, 2) := by decide +kernel
theorem dX11_feed_52 : decode cX11_feed 52 = .ok (.invokevirtual 72, 3) := by decide +kernel
theorem dX11_feed_55 : decode cX11_feed 55 = .ok (.aload_n 0, 1) := by decide +kernel
theorem dX11_feed_56 : decode cX11_feed 56 = .ok (.getfield 10, 3) := by decide +kernel
theorem dX11_feed_59 : decode cX11_feed 59 = .ok (.iload 5, 2) := by decide +kernel
theorem dX11_feed_61 : decode cX11_feed 61 = .ok (.invokevirtual 72, 3) := by decide +kernel
theorem dX11_feed_64 : decode cX11_feed 64 = .ok (.aload_n 0, 1) := by decide +kernel
theorem dX11_feed_65 : decode cX11_feed 65 = .ok (.getfield 10, 3) := by decide +kernel
theorem dX11_feed_68 : decode cX11_feed 68 = .ok (.getfield 76, 3) := by decide +kernel
theorem dX11_feed_71 : decode cX11_feed 71 = .ok (.ireturn, 1) := by decide +kernel
theorem dX11_truncate_0 : decode cX11_truncate 0 = .ok (.iload_n 1, 1) := by decide +kernel
theorem dX11_truncate_1 : decode cX11_truncate 1 = .ok (.ifCond .lt 18, 3) := by decide +kernel
theorem dX11_truncate_4 : decode cX11_truncate 4 = .ok (.iload_n 1, 1) := by decide +kernel
theorem dX11_truncate_5 : decode cX11_truncate 5 = .ok (.aload_n 0, 1) := by decide +kernel
theorem dX11_truncate_6 : decode cX11_truncate 6 = .ok (.getfield 10, 3) := by decide +kernel
theorem dX11_truncate_9 : decode cX11_truncate 9 = .ok (.getfield 76, 3) := by decide +kernel
theorem dX11_truncate_12 : decode cX11_truncate 12 = .ok (.if_icmp .gt 7, 3) := by decide +kernel
theorem dX11_truncate_15 : decode cX11_truncate 15 = .ok (.iconst 1, 1) := by decide +kernel
theorem dX11_truncate_16 : decode cX11_truncate 16 = .ok (.goto 4, 3) := by decide +kernel
theorem dX11_truncate_19 : decode cX11_truncate 19 = .ok (.iconst 0, 1) := by decide +kernel
theorem dX11_truncate_20 : decode cX11_truncate 20 = .ok (.invokestatic 80, 3) := by decide +kernel
theorem dX11_truncate_23 : decode cX11_truncate 23 = .ok (.aload_n 0, 1) := by decide +kernel
theorem dX11_truncate_24 : decode cX11_truncate 24 = .ok (.getfield 10, 3) := by decide +kernel
theorem dX11_truncate_27 : decode cX11_truncate 27 = .ok (.iload_n 1, 1) := by decide +kernel
theorem dX11_truncate_28 : decode cX11_truncate 28 = .ok (.putfield 76, 3) := by decide +kernel
theorem dX11_truncate_31 : decode cX11_truncate 31 = .ok (.iload_n 1, 1) := by decide +kernel
theorem dX11_truncate_32 : decode cX11_truncate 32 = .ok (.ireturn, 1) := by decide +kernel
theorem dX11_readText_0 : decode cX11_readText 0 = .ok (.aload_n 0, 1) := by decide +kernel
theorem dX11_readText_1 : decode cX11_readText 1 = .ok (.getfield 10, 3) := by decide +kernel
theorem dX11_readText_4 : decode cX11_readText 4 = .ok (.invokevirtual 84, 3) := by decide +kernel
theorem dX11_readText_7 : decode cX11_readText 7 = .ok (.aload_n 0, 1) := by decide +kernel
theorem dX11_readText_8 : decode cX11_readText 8 = .ok (.getfield 30, 3) := by decide +kernel
theorem dX11_readText_11 : decode cX11_readText 11 = .ok (.aload_n 0, 1) := by decide +kernel
theorem dX11_readText_12 : decode cX11_readText 12 = .ok (.getfield 10, 3) := by decide +kernel
theorem dX11_readText_15 : decode cX11_readText 15 = .ok (.invokestatic 87, 3) := by decide +kernel
theorem dX11_readText_18 : decode cX11_readText 18 = .ok (.aload_n 0, 1) := by decide +kernel
theorem dX11_readText_19 : decode cX11_readText 19 = .ok (.getfield 26, 3) := by decide +kernel
theorem dX11_readText_22 : decode cX11_readText 22 = .ok (.aload_n 0, 1) := by decide +kernel
theorem dX11_readText_23 : decode cX11_readText 23 = .ok (.getfield 30, 3) := by decide +kernel
theorem dX11_readText_26 : decode cX11_readText 26 = .ok (.invokevirtual 93, 3) := by decide +kernel
theorem dX11_readText_29 : decode cX11_readText 29 = .ok (.aload_n 0, 1) := by decide +kernel
theorem dX11_readText_30 : decode cX11_readText 30 = .ok (.getfield 46, 3) := by decide +kernel
theorem dX11_readText_33 : decode cX11_readText 33 = .ok (.invokevirtual 97, 3) := by decide +kernel
theorem dX11_readText_36 : decode cX11_readText 36 = .ok (.aload_n 0, 1) := by decide +kernel
theorem dX11_readText_37 : decode cX11_readText 37 = .ok (.getfield 26, 3) := by decide +kernel
theorem dX11_readText_40 : decode cX11_readText 40 = .ok (.getfield 100, 3) := by decide +kernel
theorem dX11_readText_43 : decode cX11_readText 43 = .ok (.ireturn, 1) := by decide +kernel
theorem dX11_runScript_0 : decode cX11_runScript 0 = .ok (.aload_n 0, 1) := by decide +kernel
theorem dX11_runScript_1 : decode cX11_runScript 1 = .ok (.getfield 10, 3) := by decide +kernel
theorem dX11_runScript_4 : decode cX11_runScript 4 = .ok (.invokevirtual 84, 3) := by decide +kernel
theorem dX11_runScript_7 : decode cX11_runScript 7 = .ok (.aload_n 0, 1) := by decide +kernel
theorem dX11_runScript_8 : decode cX11_runScript 8 = .ok (.getfield 19, 3) := by decide +kernel
theorem dX11_runScript_11 : decode cX11_runScript 11 = .ok (.aload_n 0, 1) := by decide +kernel
theorem dX11_runScript_12 : decode cX11_runScript 12 = .ok (.getfield 10, 3) := by decide +kernel
theorem dX11_runScript_15 : decode cX11_runScript 15 = .ok (.aload_n 0, 1) := by decide +kernel
theorem dX11_runScript_16 : decode cX11_runScript 16 = .ok (.getfield 26, 3) := by decide +kernel
theorem dX11_runScript_19 : decode cX11_runScript 19 = .ok (.invokevirtual 103, 3) := by decide +kernel
theorem dX11_runScript_22 : decode cX11_runScript 22 = .ok (.aload_n 0, 1) := by decide +kernel
theorem dX11_runScript_23 : decode cX11_runScript 23 = .ok (.getfield 46, 3) := by decide +kernel
theorem dX11_runScript_26 : decode cX11_runScript 26 = .ok (.aload_n 0, 1) := by decide +kernel
theorem dX11_runScript_27 : decode cX11_runScript 27 = .ok (.getfield 26, 3) := by decide +kernel
theorem dX11_runScript_30 : decode cX11_runScript 30 = .ok (.invokevirtual 107, 3) := by decide +kernel
theorem dX11_runScript_33 : decode cX11_runScript 33 = .ok (.aload_n 0, 1) := by decide +kernel
theorem dX11_runScript_34 : decode cX11_runScript 34 = .ok (.getfield 19, 3) := by decide +kernel
theorem dX11_runScript_37 : decode cX11_runScript 37 = .ok (.aload_n 0, 1) := by decide +kernel
theorem dX11_runScript_38 : decode cX11_runScript 38 = .ok (.getfield 26, 3) := by decide +kernel
theorem dX11_runScript_41 : decode cX11_runScript 41 = .ok (.invokevirtual 110, 3) := by decide +kernel
theorem dX11_runScript_44 : decode cX11_runScript 44 = .ok (.ireturn, 1) := by decide +kernel
theorem dX11_errorCode_0 : decode cX11_errorCode 0 = .ok (.aload_n 0, 1) := by decide +kernel
theorem dX11_errorCode_1 : decode cX11_errorCode 1 = .ok (.getfield 10, 3) := by decide +kernel
theorem dX11_errorCode_4 : decode cX11_errorCode 4 = .ok (.getfield 114, 3) := by decide +kernel
theorem dX11_errorCode_7 : decode cX11_errorCode 7 = .ok (.ireturn, 1) := by decide +kernel
theorem dX11_errorPosition_0 : decode cX11_errorPosition 0 = .ok (.aload_n 0, 1) := by decide +kernel
theorem dX11_errorPosition_1 : decode cX11_errorPosition 1 = .ok (.getfield 10, 3) := by decide +kernel
theorem dX11_errorPosition_4 : decode cX11_errorPosition 4 = .ok (.getfield 117, 3) := by decide +kernel
theorem dX11_errorPosition_7 : decode cX11_errorPosition 7 = .ok (.ireturn, 1) := by decide +kernel
theorem dX11_setting_0 : decode cX11_setting 0 = .ok (.iload_n 1, 1) := by decide +kernel
theorem dX11_setting_1 : decode cX11_setting 1 = .ok (.tableswitch 145 0 9 #[55, 63, 71, 79, 87, 95, 104, 113, 121, 137], 55) := by decide +kernel
theorem dX11_setting_56 : decode cX11_setting 56 = .ok (.aload_n 0, 1) := by decide +kernel
theorem dX11_setting_57 : decode cX11_setting 57 = .ok (.getfield 26, 3) := by decide +kernel
theorem dX11_setting_60 : decode cX11_setting 60 = .ok (.getfield 100, 3) := by decide +kernel
theorem dX11_setting_63 : decode cX11_setting 63 = .ok (.ireturn, 1) := by decide +kernel
theorem dX11_setting_64 : decode cX11_setting 64 = .ok (.aload_n 0, 1) := by decide +kernel
theorem dX11_setting_65 : decode cX11_setting 65 = .ok (.getfield 26, 3) := by decide +kernel
theorem dX11_setting_68 : decode cX11_setting 68 = .ok (.getfield 120, 3) := by decide +kernel
theorem dX11_setting_71 : decode cX11_setting 71 = .ok (.ireturn, 1) := by decide +kernel
theorem dX11_setting_72 : decode cX11_setting 72 = .ok (.aload_n 0, 1) := by decide +kernel
theorem dX11_setting_73 : decode cX11_setting 73 = .ok (.getfield 26, 3) := by decide +kernel
theorem dX11_setting_76 : decode cX11_setting 76 = .ok (.getfield 123, 3) := by decide +kernel
theorem dX11_setting_79 : decode cX11_setting 79 = .ok (.ireturn, 1) := by decide +kernel
theorem dX11_setting_80 : decode cX11_setting 80 = .ok (.aload_n 0, 1) := by decide +kernel
theorem dX11_setting_81 : decode cX11_setting 81 = .ok (.getfield 26, 3) := by decide +kernel
theorem dX11_setting_84 : decode cX11_setting 84 = .ok (.getfield 126, 3) := by decide +kernel
theorem dX11_setting_87 : decode cX11_setting 87 = .ok (.ireturn, 1) := by decide +kernel
theorem dX11_setting_88 : decode cX11_setting 88 = .ok (.aload_n 0, 1) := by decide +kernel
theorem dX11_setting_89 : decode cX11_setting 89 = .ok (.getfield 26, 3) := by decide +kernel
theorem dX11_setting_92 : decode cX11_setting 92 = .ok (.invokevirtual 129, 3) := by decide +kernel
theorem dX11_setting_95 : decode cX11_setting 95 = .ok (.ireturn, 1) := by decide +kernel
theorem dX11_setting_96 : decode cX11_setting 96 = .ok (.aload_n 0, 1) := by decide +kernel
theorem dX11_setting_97 : decode cX11_setting 97 = .ok (.getfield 26, 3) := by decide +kernel
theorem dX11_setting_100 : decode cX11_setting 100 = .ok (.iconst 0, 1) := by decide +kernel
theorem dX11_setting_101 : decode cX11_setting 101 = .ok (.invokevirtual 133, 3) := by decide +kernel
theorem dX11_setting_104 : decode cX11_setting 104 = .ok (.ireturn, 1) := by decide +kernel
theorem dX11_setting_105 : decode cX11_setting 105 = .ok (.aload_n 0, 1) := by decide +kernel
theorem dX11_setting_106 : decode cX11_setting 106 = .ok (.getfield 26, 3) := by decide +kernel
theorem dX11_setting_109 : decode cX11_setting 109 = .ok (.iconst 1, 1) := by decide +kernel
theorem dX11_setting_110 : decode cX11_setting 110 = .ok (.invokevirtual 133, 3) := by decide +kernel
theorem dX11_setting_113 : decode cX11_setting 113 = .ok (.ireturn, 1) := by decide +kernel
theorem dX11_setting_114 : decode cX11_setting 114 = .ok (.aload_n 0, 1) := by decide +kernel
theorem dX11_setting_115 : decode cX11_setting 115 = .ok (.getfield 26, 3) := by decide +kernel
theorem dX11_setting_118 : decode cX11_setting 118 = .ok (.invokevirtual 137, 3) := by decide +kernel
theorem dX11_setting_121 : decode cX11_setting 121 = .ok (.ireturn, 1) := by decide +kernel
theorem dX11_setting_122 : decode cX11_setting 122 = .ok (.aload_n 0, 1) := by decide +kernel
theorem dX11_setting_123 : decode cX11_setting 123 = .ok (.getfield 26, 3) := by decide +kernel
theorem dX11_setting_126 : decode cX11_setting 126 = .ok (.invokevirtual 140, 3) := by decide +kernel
theorem dX11_setting_129 : decode cX11_setting 129 = .ok (.ifCond .eq 7, 3) := by decide +kernel
theorem dX11_setting_132 : decode cX11_setting 132 = .ok (.iconst 1, 1) := by decide +kernel
theorem dX11_setting_133 : decode cX11_setting 133 = .ok (.goto 4, 3) := by decide +kernel
theorem dX11_setting_136 : decode cX11_setting 136 = .ok (.iconst 0, 1) := by decide +kernel
theorem dX11_setting_137 : decode cX11_setting 137 = .ok (.ireturn, 1) := by decide +kernel
theorem dX11_setting_138 : decode cX11_setting 138 = .ok (.aload_n 0, 1) := by decide +kernel
theorem dX11_setting_139 : decode cX11_setting 139 = .ok (.getfield 46, 3) := by decide +kernel
theorem dX11_setting_142 : decode cX11_setting 142 = .ok (.getfield 144, 3) := by decide +kernel
theorem dX11_setting_145 : decode cX11_setting 145 = .ok (.ireturn, 1) := by decide +kernel
theorem dX11_setting_146 : decode cX11_setting 146 = .ok (.new 147, 3) := by decide +kernel
theorem dX11_setting_149 : decode cX11_setting 149 = .ok (.dup, 1) := by decide +kernel
theorem dX11_setting_150 : decode cX11_setting 150 = .ok (.ldc 149, 2) := by decide +kernel
theorem dX11_setting_152 : decode cX11_setting 152 = .ok (.invokespecial 151, 3) := by decide +kernel
theorem dX11_setting_155 : decode cX11_setting 155 = .ok (.athrow, 1) := by decide +kernel
theorem dX11_fighter_0 : decode cX11_fighter 0 = .ok (.aload_n 0, 1) := by decide +kernel
theorem dX11_fighter_1 : decode cX11_fighter 1 = .ok (.iload_n 1, 1) := by decide +kernel
theorem dX11_fighter_2 : decode cX11_fighter 2 = .ok (.invokevirtual 152, 3) := by decide +kernel
theorem dX11_fighter_5 : decode cX11_fighter 5 = .ok (.astore_n 3, 1) := by decide +kernel
theorem dX11_fighter_6 : decode cX11_fighter 6 = .ok (.iload_n 2, 1) := by decide +kernel
theorem dX11_fighter_7 : decode cX11_fighter 7 = .ok (.tableswitch 121 0 11 #[61, 66, 71, 76, 81, 86, 91, 96, 101, 106, 111, 116], 61) := by decide +kernel
theorem dX11_fighter_68 : decode cX11_fighter 68 = .ok (.aload_n 3, 1) := by decide +kernel
theorem dX11_fighter_69 : decode cX11_fighter 69 = .ok (.getfield 156, 3) := by decide +kernel
theorem dX11_fighter_72 : decode cX11_fighter 72 = .ok (.ireturn, 1) := by decide +kernel
theorem dX11_fighter_73 : decode cX11_fighter 73 = .ok (.aload_n 3, 1) := by decide +kernel
theorem dX11_fighter_74 : decode cX11_fighter 74 = .ok (.getfield 161, 3) := by decide +kernel
theorem dX11_fighter_77 : decode cX11_fighter 77 = .ok (.ireturn, 1) := by decide +kernel
theorem dX11_fighter_78 : decode cX11_fighter 78 = .ok (.aload_n 3, 1) := by decide +kernel
theorem dX11_fighter_79 : decode cX11_fighter 79 = .ok (.getfield 164, 3) := by decide +kernel
theorem dX11_fighter_82 : decode cX11_fighter 82 = .ok (.ireturn, 1) := by decide +kernel
theorem dX11_fighter_83 : decode cX11_fighter 83 = .ok (.aload_n 3, 1) := by decide +kernel
theorem dX11_fighter_84 : decode cX11_fighter 84 = .ok (.getfield 167, 3) := by decide +kernel
theorem dX11_fighter_87 : decode cX11_fighter 87 = .ok (.ireturn, 1) := by decide +kernel
theorem dX11_fighter_88 : decode cX11_fighter 88 = .ok (.aload_n 3, 1) := by decide +kernel
theorem dX11_fighter_89 : decode cX11_fighter 89 = .ok (.getfield 170, 3) := by decide +kernel
theorem dX11_fighter_92 : decode cX11_fighter 92 = .ok (.ireturn, 1) := by decide +kernel
theorem dX11_fighter_93 : decode cX11_fighter 93 = .ok (.aload_n 3, 1) := by decide +kernel
theorem dX11_fighter_94 : decode cX11_fighter 94 = .ok (.getfield 173, 3) := by decide +kernel
theorem dX11_fighter_97 : decode cX11_fighter 97 = .ok (.ireturn, 1) := by decide +kernel
theorem dX11_fighter_98 : decode cX11_fighter 98 = .ok (.aload_n 3, 1) := by decide +kernel
theorem dX11_fighter_99 : decode cX11_fighter 99 = .ok (.getfield 176, 3) := by decide +kernel
theorem dX11_fighter_102 : decode cX11_fighter 102 = .ok (.ireturn, 1) := by decide +kernel
theorem dX11_fighter_103 : decode cX11_fighter 103 = .ok (.aload_n 3, 1) := by decide +kernel
theorem dX11_fighter_104 : decode cX11_fighter 104 = .ok (.getfield 179, 3) := by decide +kernel
theorem dX11_fighter_107 : decode cX11_fighter 107 = .ok (.ireturn, 1) := by decide +kernel
theorem dX11_fighter_108 : decode cX11_fighter 108 = .ok (.aload_n 3, 1) := by decide +kernel
theorem dX11_fighter_109 : decode cX11_fighter 109 = .ok (.getfield 182, 3) := by decide +kernel
theorem dX11_fighter_112 : decode cX11_fighter 112 = .ok (.ireturn, 1) := by decide +kernel
theorem dX11_fighter_113 : decode cX11_fighter 113 = .ok (.aload_n 3, 1) := by decide +kernel
theorem dX11_fighter_114 : decode cX11_fighter 114 = .ok (.getfield 185, 3) := by decide +kernel
theorem dX11_fighter_117 : decode cX11_fighter 117 = .ok (.ireturn, 1) := by decide +kernel
theorem dX11_fighter_118 : decode cX11_fighter 118 = .ok (.aload_n 3, 1) := by decide +kernel
theorem dX11_fighter_119 : decode cX11_fighter 119 = .ok (.getfield 186, 3) := by decide +kernel
theorem dX11_fighter_122 : decode cX11_fighter 122 = .ok (.ireturn, 1) := by decide +kernel
theorem dX11_fighter_123 : decode cX11_fighter 123 = .ok (.aload_n 3, 1) := by decide +kernel
theorem dX11_fighter_124 : decode cX11_fighter 124 = .ok (.getfield 189, 3) := by decide +kernel
theorem dX11_fighter_127 : decode cX11_fighter 127 = .ok (.ireturn, 1) := by decide +kernel
theorem dX11_fighter_128 : decode cX11_fighter 128 = .ok (.new 147, 3) := by decide +kernel
theorem dX11_fighter_131 : decode cX11_fighter 131 = .ok (.dup, 1) := by decide +kernel
theorem dX11_fighter_132 : decode cX11_fighter 132 = .ok (.ldc 192, 2) := by decide +kernel
theorem dX11_fighter_134 : decode cX11_fighter 134 = .ok (.invokespecial 151, 3) := by decide +kernel
theorem dX11_fighter_137 : decode cX11_fighter 137 = .ok (.athrow, 1) := by decide +kernel
theorem dX11_actKind_0 : decode cX11_actKind 0 = .ok (.aload_n 0, 1) := by decide +kernel
theorem dX11_actKind_1 : decode cX11_actKind 1 = .ok (.iload_n 1, 1) := by decide +kernel
theorem dX11_actKind_2 : decode cX11_actKind 2 = .ok (.invokevirtual 152, 3) := by decide +kernel
theorem dX11_actKind_5 : decode cX11_actKind 5 = .ok (.iload_n 2, 1) := by decide +kernel
theorem dX11_actKind_6 : decode cX11_actKind 6 = .ok (.invokevirtual 194, 3) := by decide +kernel
theorem dX11_actKind_9 : decode cX11_actKind 9 = .ok (.ireturn, 1) := by decide +kernel
theorem dX11_actNumber_0 : decode cX11_actNumber 0 = .ok (.aload_n 0, 1) := by decide +kernel
theorem dX11_actNumber_1 : decode cX11_actNumber 1 = .ok (.iload_n 1, 1) := by decide +kernel
theorem dX11_actNumber_2 : decode cX11_actNumber 2 = .ok (.invokevirtual 152, 3) := by decide +kernel
theorem dX11_actNumber_5 : decode cX11_actNumber 5 = .ok (.iload_n 2, 1) := by decide +kernel
theorem dX11_actNumber_6 : decode cX11_actNumber 6 = .ok (.invokevirtual 197, 3) := by decide +kernel
theorem dX11_actNumber_9 : decode cX11_actNumber 9 = .ok (.ireturn, 1) := by decide +kernel
theorem dX11_letter_0 : decode cX11_letter 0 = .ok (.aload_n 0, 1) := by decide +kernel
theorem dX11_letter_1 : decode cX11_letter 1 = .ok (.iload_n 1, 1) := by decide +kernel
theorem dX11_letter_2 : decode cX11_letter 2 = .ok (.invokevirtual 152, 3) := by decide +kernel
theorem dX11_letter_5 : decode cX11_letter 5 = .ok (.getfield 200, 3) := by decide +kernel
theorem dX11_letter_8 : decode cX11_letter 8 = .ok (.iload_n 2, 1) := by decide +kernel
theorem dX11_letter_9 : decode cX11_letter 9 = .ok (.invokestatic 204, 3) := by decide +kernel
theorem dX11_letter_12 : decode cX11_letter 12 = .ok (.ireturn, 1) := by decide +kernel
theorem dX11_ticksTo_0 : decode cX11_ticksTo 0 = .ok (.aload_n 0, 1) := by decide +kernel
theorem dX11_ticksTo_1 : decode cX11_ticksTo 1 = .ok (.iload_n 1, 1) := by decide +kernel
theorem dX11_ticksTo_2 : decode cX11_ticksTo 2 = .ok (.invokevirtual 152, 3) := by decide +kernel
theorem dX11_ticksTo_5 : decode cX11_ticksTo 5 = .ok (.astore_n 2, 1) := by decide +kernel
theorem dX11_ticksTo_6 : decode cX11_ticksTo 6 = .ok (.aload_n 2, 1) := by decide +kernel
theorem dX11_ticksTo_7 : decode cX11_ticksTo 7 = .ok (.getfield 164, 3) := by decide +kernel
theorem dX11_ticksTo_10 : decode cX11_ticksTo 10 = .ok (.ifCond .le 17, 3) := by decide +kernel
theorem dX11_ticksTo_13 : decode cX11_ticksTo 13 = .ok (.aload_n 2, 1) := by decide +kernel
theorem dX11_ticksTo_14 : decode cX11_ticksTo 14 = .ok (.aload_n 0, 1) := by decide +kernel
theorem dX11_ticksTo_15 : decode cX11_ticksTo 15 = .ok (.getfield 26, 3) := by decide +kernel
theorem dX11_ticksTo_18 : decode cX11_ticksTo 18 = .ok (.getfield 120, 3) := by decide +kernel
theorem dX11_ticksTo_21 : decode cX11_ticksTo 21 = .ok (.invokevirtual 210, 3) := by decide +kernel
theorem dX11_ticksTo_24 : decode cX11_ticksTo 24 = .ok (.goto 4, 3) := by decide +kernel
theorem dX11_ticksTo_27 : decode cX11_ticksTo 27 = .ok (.iconst (-1), 1) := by decide +kernel
theorem dX11_ticksTo_28 : decode cX11_ticksTo 28 = .ok (.ireturn, 1) := by decide +kernel
theorem dX11_row_0 : decode cX11_row 0 = .ok (.aload_n 0, 1) := by decide +kernel
theorem dX11_row_1 : decode cX11_row 1 = .ok (.getfield 26, 3) := by decide +kernel
theorem dX11_row_4 : decode cX11_row 4 = .ok (.iload_n 1, 1) := by decide +kernel
theorem dX11_row_5 : decode cX11_row 5 = .ok (.invokevirtual 213, 3) := by decide +kernel
theorem dX11_row_8 : decode cX11_row 8 = .ok (.getfield 216, 3) := by decide +kernel
theorem dX11_row_11 : decode cX11_row 11 = .ok (.ireturn, 1) := by decide +kernel
theorem dX11_meanSpeed_0 : decode cX11_meanSpeed 0 = .ok (.aload_n 0, 1) := by decide +kernel
theorem dX11_meanSpeed_1 : decode cX11_meanSpeed 1 = .ok (.getfield 26, 3) := by decide +kernel
theorem dX11_meanSpeed_4 : decode cX11_meanSpeed 4 = .ok (.invokevirtual 129, 3) := by decide +kernel
theorem dX11_meanSpeed_7 : decode cX11_meanSpeed 7 = .ok (.istore_n 1, 1) := by decide +kernel
theorem dX11_meanSpeed_8 : decode cX11_meanSpeed 8 = .ok (.iload_n 1, 1) := by decide +kernel
theorem dX11_meanSpeed_9 : decode cX11_meanSpeed 9 = .ok (.ifCond .le 17, 3) := by decide +kernel
theorem dX11_meanSpeed_12 : decode cX11_meanSpeed 12 = .ok (.aload_n 0, 1) := by decide +kernel
theorem dX11_meanSpeed_13 : decode cX11_meanSpeed 13 = .ok (.getfield 26, 3) := by decide +kernel
theorem dX11_meanSpeed_16 : decode cX11_meanSpeed 16 = .ok (.invokevirtual 219, 3) := by decide +kernel
theorem dX11_meanSpeed_19 : decode cX11_meanSpeed 19 = .ok (.i2d, 1) := by decide +kernel
theorem dX11_meanSpeed_20 : decode cX11_meanSpeed 20 = .ok (.iload_n 1, 1) := by decide +kernel
theorem dX11_meanSpeed_21 : decode cX11_meanSpeed 21 = .ok (.i2d, 1) := by decide +kernel
theorem dX11_meanSpeed_22 : decode cX11_meanSpeed 22 = .ok (.ddiv, 1) := by decide +kernel
theorem dX11_meanSpeed_23 : decode cX11_meanSpeed 23 = .ok (.goto 4, 3) := by decide +kernel
theorem dX11_meanSpeed_26 : decode cX11_meanSpeed 26 = .ok (.dconst 0, 1) := by decide +kernel
theorem dX11_meanSpeed_27 : decode cX11_meanSpeed 27 = .ok (.dreturn, 1) := by decide +kernel
theorem dX11_share_0 : decode cX11_share 0 = .ok (.aload_n 0, 1) := by decide +kernel
theorem dX11_share_1 : decode cX11_share 1 = .ok (.getfield 26, 3) := by decide +kernel
theorem dX11_share_4 : decode cX11_share 4 = .ok (.iconst 0, 1) := by decide +kernel
theorem dX11_share_5 : decode cX11_share 5 = .ok (.invokevirtual 133, 3) := by decide +kernel
theorem dX11_share_8 : decode cX11_share 8 = .ok (.istore_n 1, 1) := by decide +kernel
theorem dX11_share_9 : decode cX11_share 9 = .ok (.iload_n 1, 1) := by decide +kernel
theorem dX11_share_10 : decode cX11_share 10 = .ok (.aload_n 0, 1) := by decide +kernel
theorem dX11_share_11 : decode cX11_share 11 = .ok (.getfield 26, 3) := by decide +kernel
theorem dX11_share_14 : decode cX11_share 14 = .ok (.iconst 1, 1) := by decide +kernel
theorem dX11_share_15 : decode cX11_share 15 = .ok (.invokevirtual 133, 3) := by decide +kernel
theorem dX11_share_18 : decode cX11_share 18 = .ok (.iadd, 1) := by decide +kernel
theorem dX11_share_19 : decode cX11_share 19 = .ok (.istore_n 2, 1) := by decide +kernel
theorem dX11_share_20 : decode cX11_share 20 = .ok (.iload_n 2, 1) := by decide +kernel
theorem dX11_share_21 : decode cX11_share 21 = .ok (.ifCond .le 11, 3) := by decide +kernel
theorem dX11_share_24 : decode cX11_share 24 = .ok (.iload_n 1, 1) := by decide +kernel
theorem dX11_share_25 : decode cX11_share 25 = .ok (.i2f, 1) := by decide +kernel
theorem dX11_share_26 : decode cX11_share 26 = .ok (.iload_n 2, 1) := by decide +kernel
theorem dX11_share_27 : decode cX11_share 27 = .ok (.i2f, 1) := by decide +kernel
theorem dX11_share_28 : decode cX11_share 28 = .ok (.fdiv, 1) := by decide +kernel
theorem dX11_share_29 : decode cX11_share 29 = .ok (.goto 4, 3) := by decide +kernel
theorem dX11_share_32 : decode cX11_share 32 = .ok (.fconst 0, 1) := by decide +kernel
theorem dX11_share_33 : decode cX11_share 33 = .ok (.freturn, 1) := by decide +kernel
theorem dX11_turn_0 : decode cX11_turn 0 = .ok (.iload_n 1, 1) := by decide +kernel
theorem dX11_turn_1 : decode cX11_turn 1 = .ok (.ifCond .lt 13, 3) := by decide +kernel
theorem dX11_turn_4 : decode cX11_turn 4 = .ok (.iload_n 1, 1) := by decide +kernel
theorem dX11_turn_5 : decode cX11_turn 5 = .ok (.bipush 99, 2) := by decide +kernel
theorem dX11_turn_7 : decode cX11_turn 7 = .ok (.if_icmp .gt 7, 3) := by decide +kernel
theorem dX11_turn_10 : decode cX11_turn 10 = .ok (.iconst 1, 1) := by decide +kernel
theorem dX11_turn_11 : decode cX11_turn 11 = .ok (.goto 4, 3) := by decide +kernel
theorem dX11_turn_14 : decode cX11_turn 14 = .ok (.iconst 0, 1) := by decide +kernel
theorem dX11_turn_15 : decode cX11_turn 15 = .ok (.invokestatic 80, 3) := by decide +kernel
theorem dX11_turn_18 : decode cX11_turn 18 = .ok (.aload_n 0, 1) := by decide +kernel
theorem dX11_turn_19 : decode cX11_turn 19 = .ok (.getfield 39, 3) := by decide +kernel
theorem dX11_turn_22 : decode cX11_turn 22 = .ok (.aload_n 0, 1) := by decide +kernel
theorem dX11_turn_23 : decode cX11_turn 23 = .ok (.getfield 26, 3) := by decide +kernel
theorem dX11_turn_26 : decode cX11_turn 26 = .ok (.iload_n 1, 1) := by decide +kernel
theorem dX11_turn_27 : decode cX11_turn 27 = .ok (.invokevirtual 222, 3) := by decide +kernel
theorem dX11_turn_30 : decode cX11_turn 30 = .ok (.getfield 216, 3) := by decide +kernel
theorem dX11_turn_33 : decode cX11_turn 33 = .ok (.ireturn, 1) := by decide +kernel
theorem dX11_turnTime_0 : decode cX11_turnTime 0 = .ok (.iload_n 1, 1) := by decide +kernel
theorem dX11_turnTime_1 : decode cX11_turnTime 1 = .ok (.ifCond .lt 13, 3) := by decide +kernel
theorem dX11_turnTime_4 : decode cX11_turnTime 4 = .ok (.iload_n 1, 1) := by decide +kernel
theorem dX11_turnTime_5 : decode cX11_turnTime 5 = .ok (.bipush 99, 2) := by decide +kernel
theorem dX11_turnTime_7 : decode cX11_turnTime 7 = .ok (.if_icmp .gt 7, 3) := by decide +kernel
theorem dX11_turnTime_10 : decode cX11_turnTime 10 = .ok (.iconst 1, 1) := by decide +kernel
theorem dX11_turnTime_11 : decode cX11_turnTime 11 = .ok (.goto 4, 3) := by decide +kernel
theorem dX11_turnTime_14 : decode cX11_turnTime 14 = .ok (.iconst 0, 1) := by decide +kernel
theorem dX11_turnTime_15 : decode cX11_turnTime 15 = .ok (.invokestatic 80, 3) := by decide +kernel
theorem dX11_turnTime_18 : decode cX11_turnTime 18 = .ok (.aload_n 0, 1) := by decide +kernel
theorem dX11_turnTime_19 : decode cX11_turnTime 19 = .ok (.getfield 39, 3) := by decide +kernel
theorem dX11_turnTime_22 : decode cX11_turnTime 22 = .ok (.aload_n 0, 1) := by decide +kernel
theorem dX11_turnTime_23 : decode cX11_turnTime 23 = .ok (.getfield 26, 3) := by decide +kernel
theorem dX11_turnTime_26 : decode cX11_turnTime 26 = .ok (.iload_n 1, 1) := by decide +kernel
theorem dX11_turnTime_27 : decode cX11_turnTime 27 = .ok (.invokevirtual 226, 3) := by decide +kernel
theorem dX11_turnTime_30 : decode cX11_turnTime 30 = .ok (.ireturn, 1) := by decide +kernel
theorem dX11_turnKind_0 : decode cX11_turnKind 0 = .ok (.iload_n 1, 1) := by decide +kernel
theorem dX11_turnKind_1 : decode cX11_turnKind 1 = .ok (.ifCond .lt 13, 3) := by decide +kernel
theorem dX11_turnKind_4 : decode cX11_turnKind 4 = .ok (.iload_n 1, 1) := by decide +kernel
theorem dX11_turnKind_5 : decode cX11_turnKind 5 = .ok (.bipush 99, 2) := by decide +kernel
theorem dX11_turnKind_7 : decode cX11_turnKind 7 = .ok (.if_icmp .gt 7, 3) := by decide +kernel
theorem dX11_turnKind_10 : decode cX11_turnKind 10 = .ok (.iconst 1, 1) := by decide +kernel
theorem dX11_turnKind_11 : decode cX11_turnKind 11 = .ok (.goto 4, 3) := by decide +kernel
theorem dX11_turnKind_14 : decode cX11_turnKind 14 = .ok (.iconst 0, 1) := by decide +kernel
theorem dX11_turnKind_15 : decode cX11_turnKind 15 = .ok (.invokestatic 80, 3) := by decide +kernel
theorem dX11_turnKind_18 : decode cX11_turnKind 18 = .ok (.aload_n 0, 1) := by decide +kernel
theorem dX11_turnKind_19 : decode cX11_turnKind 19 = .ok (.getfield 39, 3) := by decide +kernel
theorem dX11_turnKind_22 : decode cX11_turnKind 22 = .ok (.aload_n 0, 1) := by decide +kernel
theorem dX11_turnKind_23 : decode cX11_turnKind 23 = .ok (.getfield 26, 3) := by decide +kernel
theorem dX11_turnKind_26 : decode cX11_turnKind 26 = .ok (.iload_n 1, 1) := by decide +kernel
theorem dX11_turnKind_27 : decode cX11_turnKind 27 = .ok (.invokevirtual 230, 3) := by decide +kernel
theorem dX11_turnKind_30 : decode cX11_turnKind 30 = .ok (.ireturn, 1) := by decide +kernel
theorem dX11_lifeIn_0 : decode cX11_lifeIn 0 = .ok (.aload_n 0, 1) := by decide +kernel
theorem dX11_lifeIn_1 : decode cX11_lifeIn 1 = .ok (.iload_n 1, 1) := by decide +kernel
theorem dX11_lifeIn_2 : decode cX11_lifeIn 2 = .ok (.iload_n 2, 1) := by decide +kernel
theorem dX11_lifeIn_3 : decode cX11_lifeIn 3 = .ok (.invokevirtual 233, 3) := by decide +kernel
theorem dX11_lifeIn_6 : decode cX11_lifeIn 6 = .ok (.getfield 164, 3) := by decide +kernel
theorem dX11_lifeIn_9 : decode cX11_lifeIn 9 = .ok (.ireturn, 1) := by decide +kernel
theorem dX11_gaugeIn_0 : decode cX11_gaugeIn 0 = .ok (.aload_n 0, 1) := by decide +kernel
theorem dX11_gaugeIn_1 : decode cX11_gaugeIn 1 = .ok (.iload_n 1, 1) := by decide +kernel
theorem dX11_gaugeIn_2 : decode cX11_gaugeIn 2 = .ok (.iload_n 2, 1) := by decide +kernel
theorem dX11_gaugeIn_3 : decode cX11_gaugeIn 3 = .ok (.invokevirtual 233, 3) := by decide +kernel
theorem dX11_gaugeIn_6 : decode cX11_gaugeIn 6 = .ok (.getfield 170, 3) := by decide +kernel
theorem dX11_gaugeIn_9 : decode cX11_gaugeIn 9 = .ok (.ireturn, 1) := by decide +kernel
theorem dX11_turnsOf_0 : decode cX11_turnsOf 0 = .ok (.aload_n 0, 1) := by decide +kernel
theorem dX11_turnsOf_1 : decode cX11_turnsOf 1 = .ok (.iload_n 1, 1) := by decide +kernel
theorem dX11_turnsOf_2 : decode cX11_turnsOf 2 = .ok (.invokevirtual 152, 3) := by decide +kernel
theorem dX11_turnsOf_5 : decode cX11_turnsOf 5 = .ok (.astore_n 3, 1) := by decide +kernel
theorem dX11_turnsOf_6 : decode cX11_turnsOf 6 = .ok (.aload_n 0, 1) := by decide +kernel
theorem dX11_turnsOf_7 : decode cX11_turnsOf 7 = .ok (.iload_n 1, 1) := by decide +kernel
theorem dX11_turnsOf_8 : decode cX11_turnsOf 8 = .ok (.iload_n 2, 1) := by decide +kernel
theorem dX11_turnsOf_9 : decode cX11_turnsOf 9 = .ok (.invokevirtual 233, 3) := by decide +kernel
theorem dX11_turnsOf_12 : decode cX11_turnsOf 12 = .ok (.getfield 185, 3) := by decide +kernel
theorem dX11_turnsOf_15 : decode cX11_turnsOf 15 = .ok (.aload_n 3, 1) := by decide +kernel
theorem dX11_turnsOf_16 : decode cX11_turnsOf 16 = .ok (.getfield 185, 3) := by decide +kernel
theorem dX11_turnsOf_19 : decode cX11_turnsOf 19 = .ok (.isub, 1) := by decide +kernel
theorem dX11_turnsOf_20 : decode cX11_turnsOf 20 = .ok (.ireturn, 1) := by decide +kernel
theorem dX11_longestRun_0 : decode cX11_longestRun 0 = .ok (.iload_n 1, 1) := by decide +kernel
theorem dX11_longestRun_1 : decode cX11_longestRun 1 = .ok (.ifCond .lt 14, 3) := by decide +kernel
theorem dX11_longestRun_4 : decode cX11_longestRun 4 = .ok (.iload_n 1, 1) := by decide +kernel
theorem dX11_longestRun_5 : decode cX11_longestRun 5 = .ok (.sipush 200, 3) := by decide +kernel
theorem dX11_longestRun_8 : decode cX11_longestRun 8 = .ok (.if_icmp .gt 7, 3) := by decide +kernel
theorem dX11_longestRun_11 : decode cX11_longestRun 11 = .ok (.iconst 1, 1) := by decide +kernel
theorem dX11_longestRun_12 : decode cX11_longestRun 12 = .ok (.goto 4, 3) := by decide +kernel
theorem dX11_longestRun_15 : decode cX11_longestRun 15 = .ok (.iconst 0, 1) := by decide +kernel
theorem dX11_longestRun_16 : decode cX11_longestRun 16 = .ok (.invokestatic 80, 3) := by decide +kernel
theorem dX11_longestRun_19 : decode cX11_longestRun 19 = .ok (.aload_n 0, 1) := by decide +kernel
theorem dX11_longestRun_20 : decode cX11_longestRun 20 = .ok (.getfield 39, 3) := by decide +kernel
theorem dX11_longestRun_23 : decode cX11_longestRun 23 = .ok (.aload_n 0, 1) := by decide +kernel
theorem dX11_longestRun_24 : decode cX11_longestRun 24 = .ok (.getfield 26, 3) := by decide +kernel
theorem dX11_longestRun_27 : decode cX11_longestRun 27 = .ok (.iload_n 1, 1) := by decide +kernel
theorem dX11_longestRun_28 : decode cX11_longestRun 28 = .ok (.invokevirtual 237, 3) := by decide +kernel
theorem dX11_longestRun_31 : decode cX11_longestRun 31 = .ok (.ireturn, 1) := by decide +kernel
theorem dX11_endsIn_0 : decode cX11_endsIn 0 = .ok (.aload_n 0, 1) := by decide +kernel
theorem dX11_endsIn_1 : decode cX11_endsIn 1 = .ok (.getfield 39, 3) := by decide +kernel
theorem dX11_endsIn_4 : decode cX11_endsIn 4 = .ok (.aload_n 0, 1) := by decide +kernel
theorem dX11_endsIn_5 : decode cX11_endsIn 5 = .ok (.getfield 26, 3) := by decide +kernel
theorem dX11_endsIn_8 : decode cX11_endsIn 8 = .ok (.invokevirtual 240, 3) := by decide +kernel
theorem dX11_endsIn_11 : decode cX11_endsIn 11 = .ok (.ireturn, 1) := by decide +kernel
theorem dX11_winner_0 : decode cX11_winner 0 = .ok (.aload_n 0, 1) := by decide +kernel
theorem dX11_winner_1 : decode cX11_winner 1 = .ok (.getfield 39, 3) := by decide +kernel
theorem dX11_winner_4 : decode cX11_winner 4 = .ok (.aload_n 0, 1) := by decide +kernel
theorem dX11_winner_5 : decode cX11_winner 5 = .ok (.getfield 26, 3) := by decide +kernel
theorem dX11_winner_8 : decode cX11_winner 8 = .ok (.sipush 200, 3) := by decide +kernel
theorem dX11_winner_11 : decode cX11_winner 11 = .ok (.invokevirtual 243, 3) := by decide +kernel
theorem dX11_winner_14 : decode cX11_winner 14 = .ok (.invokevirtual 137, 3) := by decide +kernel
theorem dX11_winner_17 : decode cX11_winner 17 = .ok (.ireturn, 1) := by decide +kernel
theorem dX11_firstLoss_0 : decode cX11_firstLoss 0 = .ok (.aload_n 0, 1) := by decide +kernel
theorem dX11_firstLoss_1 : decode cX11_firstLoss 1 = .ok (.getfield 39, 3) := by decide +kernel
theorem dX11_firstLoss_4 : decode cX11_firstLoss 4 = .ok (.aload_n 0, 1) := by decide +kernel
theorem dX11_firstLoss_5 : decode cX11_firstLoss 5 = .ok (.getfield 26, 3) := by decide +kernel
theorem dX11_firstLoss_8 : decode cX11_firstLoss 8 = .ok (.aload_n 0, 1) := by decide +kernel
theorem dX11_firstLoss_9 : decode cX11_firstLoss 9 = .ok (.iload_n 1, 1) := by decide +kernel
theorem dX11_firstLoss_10 : decode cX11_firstLoss 10 = .ok (.invokevirtual 152, 3) := by decide +kernel
theorem dX11_firstLoss_13 : decode cX11_firstLoss 13 = .ok (.getfield 216, 3) := by decide +kernel
theorem dX11_firstLoss_16 : decode cX11_firstLoss 16 = .ok (.invokevirtual 247, 3) := by decide +kernel
theorem dX11_firstLoss_19 : decode cX11_firstLoss 19 = .ok (.ireturn, 1) := by decide +kernel
theorem dX11_repeatIn_0 : decode cX11_repeatIn 0 = .ok (.aload_n 0, 1) := by decide +kernel
theorem dX11_repeatIn_1 : decode cX11_repeatIn 1 = .ok (.getfield 39, 3) := by decide +kernel
theorem dX11_repeatIn_4 : decode cX11_repeatIn 4 = .ok (.aload_n 0, 1) := by decide +kernel
theorem dX11_repeatIn_5 : decode cX11_repeatIn 5 = .ok (.getfield 26, 3) := by decide +kernel
theorem dX11_repeatIn_8 : decode cX11_repeatIn 8 = .ok (.invokevirtual 250, 3) := by decide +kernel
theorem dX11_repeatIn_11 : decode cX11_repeatIn 11 = .ok (.aload_n 0, 1) := by decide +kernel
theorem dX11_repeatIn_12 : decode cX11_repeatIn 12 = .ok (.getfield 39, 3) := by decide +kernel
theorem dX11_repeatIn_15 : decode cX11_repeatIn 15 = .ok (.getfield 253, 3) := by decide +kernel
theorem dX11_repeatIn_18 : decode cX11_repeatIn 18 = .ok (.ireturn, 1) := by decide +kernel
theorem dX11_cycle_0 : decode cX11_cycle 0 = .ok (.aload_n 0, 1) := by decide +kernel
theorem dX11_cycle_1 : decode cX11_cycle 1 = .ok (.getfield 39, 3) := by decide +kernel
theorem dX11_cycle_4 : decode cX11_cycle 4 = .ok (.aload_n 0, 1) := by decide +kernel
theorem dX11_cycle_5 : decode cX11_cycle 5 = .ok (.getfield 26, 3) := by decide +kernel
theorem dX11_cycle_8 : decode cX11_cycle 8 = .ok (.invokevirtual 250, 3) := by decide +kernel
theorem dX11_cycle_11 : decode cX11_cycle 11 = .ok (.aload_n 0, 1) := by decide +kernel
theorem dX11_cycle_12 : decode cX11_cycle 12 = .ok (.getfield 39, 3) := by decide +kernel
theorem dX11_cycle_15 : decode cX11_cycle 15 = .ok (.getfield 256, 3) := by decide +kernel
theorem dX11_cycle_18 : decode cX11_cycle 18 = .ok (.ireturn, 1) := by decide +kernel
theorem dX11_leastSpeed_0 : decode cX11_leastSpeed 0 = .ok (.aload_n 0, 1) := by decide +kernel
theorem dX11_leastSpeed_1 : decode cX11_leastSpeed 1 = .ok (.getfield 39, 3) := by decide +kernel
theorem dX11_leastSpeed_4 : decode cX11_leastSpeed 4 = .ok (.aload_n 0, 1) := by decide +kernel
theorem dX11_leastSpeed_5 : decode cX11_leastSpeed 5 = .ok (.getfield 26, 3) := by decide +kernel
theorem dX11_leastSpeed_8 : decode cX11_leastSpeed 8 = .ok (.aload_n 0, 1) := by decide +kernel
theorem dX11_leastSpeed_9 : decode cX11_leastSpeed 9 = .ok (.iload_n 1, 1) := by decide +kernel
theorem dX11_leastSpeed_10 : decode cX11_leastSpeed 10 = .ok (.invokevirtual 152, 3) := by decide +kernel
theorem dX11_leastSpeed_13 : decode cX11_leastSpeed 13 = .ok (.invokevirtual 259, 3) := by decide +kernel
theorem dX11_leastSpeed_16 : decode cX11_leastSpeed 16 = .ok (.ireturn, 1) := by decide +kernel
theorem dX11_bestPush_0 : decode cX11_bestPush 0 = .ok (.iload_n 1, 1) := by decide +kernel
theorem dX11_bestPush_1 : decode cX11_bestPush 1 = .ok (.ifCond .eq 8, 3) := by decide +kernel
theorem dX11_bestPush_4 : decode cX11_bestPush 4 = .ok (.iload_n 1, 1) := by decide +kernel
theorem dX11_bestPush_5 : decode cX11_bestPush 5 = .ok (.iconst 1, 1) := by decide +kernel
theorem dX11_bestPush_6 : decode cX11_bestPush 6 = .ok (.if_icmp .ne 19, 3) := by decide +kernel
theorem dX11_bestPush_9 : decode cX11_bestPush 9 = .ok (.iload_n 2, 1) := by decide +kernel
theorem dX11_bestPush_10 : decode cX11_bestPush 10 = .ok (.iconst 1, 1) := by decide +kernel
theorem dX11_bestPush_11 : decode cX11_bestPush 11 = .ok (.if_icmp .lt 14, 3) := by decide +kernel
theorem dX11_bestPush_14 : decode cX11_bestPush 14 = .ok (.iload_n 2, 1) := by decide +kernel
theorem dX11_bestPush_15 : decode cX11_bestPush 15 = .ok (.sipush 999, 3) := by decide +kernel
theorem dX11_bestPush_18 : decode cX11_bestPush 18 = .ok (.if_icmp .gt 7, 3) := by decide +kernel
theorem dX11_bestPush_21 : decode cX11_bestPush 21 = .ok (.iconst 1, 1) := by decide +kernel
theorem dX11_bestPush_22 : decode cX11_bestPush 22 = .ok (.goto 4, 3) := by decide +kernel
theorem dX11_bestPush_25 : decode cX11_bestPush 25 = .ok (.iconst 0, 1) := by decide +kernel
theorem dX11_bestPush_26 : decode cX11_bestPush 26 = .ok (.invokestatic 80, 3) := by decide +kernel
theorem dX11_bestPush_29 : decode cX11_bestPush 29 = .ok (.aload_n 0, 1) := by decide +kernel
theorem dX11_bestPush_30 : decode cX11_bestPush 30 = .ok (.getfield 39, 3) := by decide +kernel
theorem dX11_bestPush_33 : decode cX11_bestPush 33 = .ok (.aload_n 0, 1) := by decide +kernel
theorem dX11_bestPush_34 : decode cX11_bestPush 34 = .ok (.getfield 26, 3) := by decide +kernel
theorem dX11_bestPush_37 : decode cX11_bestPush 37 = .ok (.iload_n 1, 1) := by decide +kernel
theorem dX11_bestPush_38 : decode cX11_bestPush 38 = .ok (.iload_n 2, 1) := by decide +kernel
theorem dX11_bestPush_39 : decode cX11_bestPush 39 = .ok (.invokevirtual 263, 3) := by decide +kernel
theorem dX11_bestPush_42 : decode cX11_bestPush 42 = .ok (.ireturn, 1) := by decide +kernel
theorem dX11_bestSwap_0 : decode cX11_bestSwap 0 = .ok (.aload_n 0, 1) := by decide +kernel
theorem dX11_bestSwap_1 : decode cX11_bestSwap 1 = .ok (.getfield 39, 3) := by decide +kernel
theorem dX11_bestSwap_4 : decode cX11_bestSwap 4 = .ok (.aload_n 0, 1) := by decide +kernel
theorem dX11_bestSwap_5 : decode cX11_bestSwap 5 = .ok (.getfield 26, 3) := by decide +kernel
theorem dX11_bestSwap_8 : decode cX11_bestSwap 8 = .ok (.aload_n 0, 1) := by decide +kernel
theorem dX11_bestSwap_9 : decode cX11_bestSwap 9 = .ok (.iload_n 1, 1) := by decide +kernel
theorem dX11_bestSwap_10 : decode cX11_bestSwap 10 = .ok (.invokevirtual 152, 3) := by decide +kernel
theorem dX11_bestSwap_13 : decode cX11_bestSwap 13 = .ok (.invokevirtual 267, 3) := by decide +kernel
theorem dX11_bestSwap_16 : decode cX11_bestSwap 16 = .ok (.ireturn, 1) := by decide +kernel
theorem dX11_bestPlace_0 : decode cX11_bestPlace 0 = .ok (.aload_n 0, 1) := by decide +kernel
theorem dX11_bestPlace_1 : decode cX11_bestPlace 1 = .ok (.getfield 39, 3) := by decide +kernel
theorem dX11_bestPlace_4 : decode cX11_bestPlace 4 = .ok (.aload_n 0, 1) := by decide +kernel
theorem dX11_bestPlace_5 : decode cX11_bestPlace 5 = .ok (.getfield 26, 3) := by decide +kernel
theorem dX11_bestPlace_8 : decode cX11_bestPlace 8 = .ok (.aload_n 0, 1) := by decide +kernel
theorem dX11_bestPlace_9 : decode cX11_bestPlace 9 = .ok (.iload_n 1, 1) := by decide +kernel
theorem dX11_bestPlace_10 : decode cX11_bestPlace 10 = .ok (.invokevirtual 152, 3) := by decide +kernel
theorem dX11_bestPlace_13 : decode cX11_bestPlace 13 = .ok (.invokevirtual 270, 3) := by decide +kernel
theorem dX11_bestPlace_16 : decode cX11_bestPlace 16 = .ok (.ireturn, 1) := by decide +kernel
theorem dX11_play_0 : decode cX11_play 0 = .ok (.aload_n 0, 1) := by decide +kernel
theorem dX11_play_1 : decode cX11_play 1 = .ok (.getfield 26, 3) := by decide +kernel
theorem dX11_play_4 : decode cX11_play 4 = .ok (.iload_n 1, 1) := by decide +kernel
theorem dX11_play_5 : decode cX11_play 5 = .ok (.invokevirtual 273, 3) := by decide +kernel
theorem dX11_play_8 : decode cX11_play 8 = .ok (.invokestatic 276, 3) := by decide +kernel
theorem dX11_play_11 : decode cX11_play 11 = .ok (.aload_n 0, 1) := by decide +kernel
theorem dX11_play_12 : decode cX11_play 12 = .ok (.getfield 46, 3) := by decide +kernel
theorem dX11_play_15 : decode cX11_play 15 = .ok (.aload_n 0, 1) := by decide +kernel
theorem dX11_play_16 : decode cX11_play 16 = .ok (.getfield 26, 3) := by decide +kernel
theorem dX11_play_19 : decode cX11_play 19 = .ok (.invokevirtual 107, 3) := by decide +kernel
theorem dX11_play_22 : decode cX11_play 22 = .ok (.aload_n 0, 1) := by decide +kernel
theorem dX11_play_23 : decode cX11_play 23 = .ok (.getfield 26, 3) := by decide +kernel
theorem dX11_play_26 : decode cX11_play 26 = .ok (.iload_n 1, 1) := by decide +kernel
theorem dX11_play_27 : decode cX11_play 27 = .ok (.invokevirtual 279, 3) := by decide +kernel
theorem dX11_play_30 : decode cX11_play 30 = .ok (.ireturn, 1) := by decide +kernel
theorem dX11_push_0 : decode cX11_push 0 = .ok (.aload_n 0, 1) := by decide +kernel
theorem dX11_push_1 : decode cX11_push 1 = .ok (.iload_n 1, 1) := by decide +kernel
theorem dX11_push_2 : decode cX11_push 2 = .ok (.invokevirtual 152, 3) := by decide +kernel
theorem dX11_push_5 : decode cX11_push 5 = .ok (.astore_n 3, 1) := by decide +kernel
theorem dX11_push_6 : decode cX11_push 6 = .ok (.aload_n 3, 1) := by decide +kernel
theorem dX11_push_7 : decode cX11_push 7 = .ok (.iload_n 2, 1) := by decide +kernel
theorem dX11_push_8 : decode cX11_push 8 = .ok (.invokevirtual 282, 3) := by decide +kernel
theorem dX11_push_11 : decode cX11_push 11 = .ok (.invokestatic 276, 3) := by decide +kernel
theorem dX11_push_14 : decode cX11_push 14 = .ok (.aload_n 0, 1) := by decide +kernel
theorem dX11_push_15 : decode cX11_push 15 = .ok (.getfield 46, 3) := by decide +kernel
theorem dX11_push_18 : decode cX11_push 18 = .ok (.aload_n 0, 1) := by decide +kernel
theorem dX11_push_19 : decode cX11_push 19 = .ok (.getfield 26, 3) := by decide +kernel
theorem dX11_push_22 : decode cX11_push 22 = .ok (.invokevirtual 107, 3) := by decide +kernel
theorem dX11_push_25 : decode cX11_push 25 = .ok (.aload_n 3, 1) := by decide +kernel
theorem dX11_push_26 : decode cX11_push 26 = .ok (.iload_n 2, 1) := by decide +kernel
theorem dX11_push_27 : decode cX11_push 27 = .ok (.invokevirtual 285, 3) := by decide +kernel
theorem dX11_push_30 : decode cX11_push 30 = .ok (.aload_n 3, 1) := by decide +kernel
theorem dX11_push_31 : decode cX11_push 31 = .ok (.getfield 170, 3) := by decide +kernel
theorem dX11_push_34 : decode cX11_push 34 = .ok (.ireturn, 1) := by decide +kernel
theorem dX11_lift_0 : decode cX11_lift 0 = .ok (.aload_n 0, 1) := by decide +kernel
theorem dX11_lift_1 : decode cX11_lift 1 = .ok (.iload_n 1, 1) := by decide +kernel
theorem dX11_lift_2 : decode cX11_lift 2 = .ok (.invokevirtual 152, 3) := by decide +kernel
theorem dX11_lift_5 : decode cX11_lift 5 = .ok (.astore_n 3, 1) := by decide +kernel
theorem dX11_lift_6 : decode cX11_lift 6 = .ok (.aload_n 3, 1) := by decide +kernel
theorem dX11_lift_7 : decode cX11_lift 7 = .ok (.iload_n 2, 1) := by decide +kernel
theorem dX11_lift_8 : decode cX11_lift 8 = .ok (.invokevirtual 282, 3) := by decide +kernel
theorem dX11_lift_11 : decode cX11_lift 11 = .ok (.invokestatic 276, 3) := by decide +kernel
theorem dX11_lift_14 : decode cX11_lift 14 = .ok (.aload_n 0, 1) := by decide +kernel
theorem dX11_lift_15 : decode cX11_lift 15 = .ok (.getfield 46, 3) := by decide +kernel
theorem dX11_lift_18 : decode cX11_lift 18 = .ok (.aload_n 0, 1) := by decide +kernel
theorem dX11_lift_19 : decode cX11_lift 19 = .ok (.getfield 26, 3) := by decide +kernel
theorem dX11_lift_22 : decode cX11_lift 22 = .ok (.invokevirtual 107, 3) := by decide +kernel
theorem dX11_lift_25 : decode cX11_lift 25 = .ok (.aload_n 3, 1) := by decide +kernel
theorem dX11_lift_26 : decode cX11_lift 26 = .ok (.iload_n 2, 1) := by decide +kernel
theorem dX11_lift_27 : decode cX11_lift 27 = .ok (.invokevirtual 288, 3) := by decide +kernel
theorem dX11_lift_30 : decode cX11_lift 30 = .ok (.aload_n 3, 1) := by decide +kernel
theorem dX11_lift_31 : decode cX11_lift 31 = .ok (.getfield 170, 3) := by decide +kernel
theorem dX11_lift_34 : decode cX11_lift 34 = .ok (.ireturn, 1) := by decide +kernel
theorem dX11_extra_0 : decode cX11_extra 0 = .ok (.aload_n 0, 1) := by decide +kernel
theorem dX11_extra_1 : decode cX11_extra 1 = .ok (.iload_n 1, 1) := by decide +kernel
theorem dX11_extra_2 : decode cX11_extra 2 = .ok (.invokevirtual 152, 3) := by decide +kernel
theorem dX11_extra_5 : decode cX11_extra 5 = .ok (.astore_n 2, 1) := by decide +kernel
theorem dX11_extra_6 : decode cX11_extra 6 = .ok (.aload_n 2, 1) := by decide +kernel
theorem dX11_extra_7 : decode cX11_extra 7 = .ok (.invokevirtual 291, 3) := by decide +kernel
theorem dX11_extra_10 : decode cX11_extra 10 = .ok (.invokestatic 276, 3) := by decide +kernel
theorem dX11_extra_13 : decode cX11_extra 13 = .ok (.aload_n 2, 1) := by decide +kernel
theorem dX11_extra_14 : decode cX11_extra 14 = .ok (.getfield 176, 3) := by decide +kernel
theorem dX11_extra_17 : decode cX11_extra 17 = .ok (.iconst 3, 1) := by decide +kernel
theorem dX11_extra_18 : decode cX11_extra 18 = .ok (.if_icmp .lt 5, 3) := by decide +kernel
theorem dX11_extra_21 : decode cX11_extra 21 = .ok (.iconst 0, 1) := by decide +kernel
theorem dX11_extra_22 : decode cX11_extra 22 = .ok (.ireturn, 1) := by decide +kernel
theorem dX11_extra_23 : decode cX11_extra 23 = .ok (.aload_n 0, 1) := by decide +kernel
theorem dX11_extra_24 : decode cX11_extra 24 = .ok (.getfield 46, 3) := by decide +kernel
theorem dX11_extra_27 : decode cX11_extra 27 = .ok (.aload_n 0, 1) := by decide +kernel
theorem dX11_extra_28 : decode cX11_extra 28 = .ok (.getfield 26, 3) := by decide +kernel
theorem dX11_extra_31 : decode cX11_extra 31 = .ok (.invokevirtual 107, 3) := by decide +kernel
theorem dX11_extra_34 : decode cX11_extra 34 = .ok (.aload_n 2, 1) := by decide +kernel
theorem dX11_extra_35 : decode cX11_extra 35 = .ok (.iconst 1, 1) := by decide +kernel
theorem dX11_extra_36 : decode cX11_extra 36 = .ok (.invokevirtual 294, 3) := by decide +kernel
theorem dX11_extra_39 : decode cX11_extra 39 = .ok (.iconst 1, 1) := by decide +kernel
theorem dX11_extra_40 : decode cX11_extra 40 = .ok (.ireturn, 1) := by decide +kernel
theorem dX11_setSpeed_0 : decode cX11_setSpeed 0 = .ok (.aload_n 0, 1) := by decide +kernel
theorem dX11_setSpeed_1 : decode cX11_setSpeed 1 = .ok (.iload_n 1, 1) := by decide +kernel
theorem dX11_setSpeed_2 : decode cX11_setSpeed 2 = .ok (.invokevirtual 152, 3) := by decide +kernel
theorem dX11_setSpeed_5 : decode cX11_setSpeed 5 = .ok (.astore_n 3, 1) := by decide +kernel
theorem dX11_setSpeed_6 : decode cX11_setSpeed 6 = .ok (.aload_n 3, 1) := by decide +kernel
theorem dX11_setSpeed_7 : decode cX11_setSpeed 7 = .ok (.iload_n 2, 1) := by decide +kernel
theorem dX11_setSpeed_8 : decode cX11_setSpeed 8 = .ok (.invokevirtual 297, 3) := by decide +kernel
theorem dX11_setSpeed_11 : decode cX11_setSpeed 11 = .ok (.invokestatic 276, 3) := by decide +kernel
theorem dX11_setSpeed_14 : decode cX11_setSpeed 14 = .ok (.aload_n 0, 1) := by decide +kernel
theorem dX11_setSpeed_15 : decode cX11_setSpeed 15 = .ok (.getfield 46, 3) := by decide +kernel
theorem dX11_setSpeed_18 : decode cX11_setSpeed 18 = .ok (.aload_n 0, 1) := by decide +kernel
theorem dX11_setSpeed_19 : decode cX11_setSpeed 19 = .ok (.getfield 26, 3) := by decide +kernel
theorem dX11_setSpeed_22 : decode cX11_setSpeed 22 = .ok (.invokevirtual 107, 3) := by decide +kernel
theorem dX11_setSpeed_25 : decode cX11_setSpeed 25 = .ok (.aload_n 3, 1) := by decide +kernel
theorem dX11_setSpeed_26 : decode cX11_setSpeed 26 = .ok (.getfield 161, 3) := by decide +kernel
theorem dX11_setSpeed_29 : decode cX11_setSpeed 29 = .ok (.istore 4, 2) := by decide +kernel
theorem dX11_setSpeed_31 : decode cX11_setSpeed 31 = .ok (.aload_n 3, 1) := by decide +kernel
theorem dX11_setSpeed_32 : decode cX11_setSpeed 32 = .ok (.iload_n 2, 1) := by decide +kernel
theorem dX11_setSpeed_33 : decode cX11_setSpeed 33 = .ok (.putfield 161, 3) := by decide +kernel
theorem dX11_setSpeed_36 : decode cX11_setSpeed 36 = .ok (.iload 4, 2) := by decide +kernel
theorem dX11_setSpeed_38 : decode cX11_setSpeed 38 = .ok (.ireturn, 1) := by decide +kernel
theorem dX11_heal_0 : decode cX11_heal 0 = .ok (.aload_n 0, 1) := by decide +kernel
theorem dX11_heal_1 : decode cX11_heal 1 = .ok (.iload_n 1, 1) := by decide +kernel
theorem dX11_heal_2 : decode cX11_heal 2 = .ok (.invokevirtual 152, 3) := by decide +kernel
theorem dX11_heal_5 : decode cX11_heal 5 = .ok (.astore_n 3, 1) := by decide +kernel
theorem dX11_heal_6 : decode cX11_heal 6 = .ok (.aload_n 3, 1) := by decide +kernel
theorem dX11_heal_7 : decode cX11_heal 7 = .ok (.iload_n 2, 1) := by decide +kernel
theorem dX11_heal_8 : decode cX11_heal 8 = .ok (.invokevirtual 300, 3) := by decide +kernel
theorem dX11_heal_11 : decode cX11_heal 11 = .ok (.invokestatic 276, 3) := by decide +kernel
theorem dX11_heal_14 : decode cX11_heal 14 = .ok (.aload_n 0, 1) := by decide +kernel
theorem dX11_heal_15 : decode cX11_heal 15 = .ok (.getfield 46, 3) := by decide +kernel
theorem dX11_heal_18 : decode cX11_heal 18 = .ok (.aload_n 0, 1) := by decide +kernel
theorem dX11_heal_19 : decode cX11_heal 19 = .ok (.getfield 26, 3) := by decide +kernel
theorem dX11_heal_22 : decode cX11_heal 22 = .ok (.invokevirtual 107, 3) := by decide +kernel
theorem dX11_heal_25 : decode cX11_heal 25 = .ok (.aload_n 3, 1) := by decide +kernel
theorem dX11_heal_26 : decode cX11_heal 26 = .ok (.iload_n 2, 1) := by decide +kernel
theorem dX11_heal_27 : decode cX11_heal 27 = .ok (.invokevirtual 303, 3) := by decide +kernel
theorem dX11_heal_30 : decode cX11_heal 30 = .ok (.aload_n 3, 1) := by decide +kernel
theorem dX11_heal_31 : decode cX11_heal 31 = .ok (.getfield 164, 3) := by decide +kernel
theorem dX11_heal_34 : decode cX11_heal 34 = .ok (.ireturn, 1) := by decide +kernel
theorem dX11_setWheel_0 : decode cX11_setWheel 0 = .ok (.aload_n 0, 1) := by decide +kernel
theorem dX11_setWheel_1 : decode cX11_setWheel 1 = .ok (.getfield 26, 3) := by decide +kernel
theorem dX11_setWheel_4 : decode cX11_setWheel 4 = .ok (.iload_n 1, 1) := by decide +kernel
theorem dX11_setWheel_5 : decode cX11_setWheel 5 = .ok (.invokevirtual 306, 3) := by decide +kernel
theorem dX11_setWheel_8 : decode cX11_setWheel 8 = .ok (.invokestatic 276, 3) := by decide +kernel
theorem dX11_setWheel_11 : decode cX11_setWheel 11 = .ok (.aload_n 0, 1) := by decide +kernel
theorem dX11_setWheel_12 : decode cX11_setWheel 12 = .ok (.getfield 46, 3) := by decide +kernel
theorem dX11_setWheel_15 : decode cX11_setWheel 15 = .ok (.aload_n 0, 1) := by decide +kernel
theorem dX11_setWheel_16 : decode cX11_setWheel 16 = .ok (.getfield 26, 3) := by decide +kernel
theorem dX11_setWheel_19 : decode cX11_setWheel 19 = .ok (.invokevirtual 107, 3) := by decide +kernel
theorem dX11_setWheel_22 : decode cX11_setWheel 22 = .ok (.aload_n 0, 1) := by decide +kernel
theorem dX11_setWheel_23 : decode cX11_setWheel 23 = .ok (.getfield 26, 3) := by decide +kernel
theorem dX11_setWheel_26 : decode cX11_setWheel 26 = .ok (.getfield 120, 3) := by decide +kernel
theorem dX11_setWheel_29 : decode cX11_setWheel 29 = .ok (.istore_n 2, 1) := by decide +kernel
theorem dX11_setWheel_30 : decode cX11_setWheel 30 = .ok (.aload_n 0, 1) := by decide +kernel
theorem dX11_setWheel_31 : decode cX11_setWheel 31 = .ok (.getfield 26, 3) := by decide +kernel
theorem dX11_setWheel_34 : decode cX11_setWheel 34 = .ok (.iload_n 1, 1) := by decide +kernel
theorem dX11_setWheel_35 : decode cX11_setWheel 35 = .ok (.putfield 120, 3) := by decide +kernel
theorem dX11_setWheel_38 : decode cX11_setWheel 38 = .ok (.iload_n 2, 1) := by decide +kernel
theorem dX11_setWheel_39 : decode cX11_setWheel 39 = .ok (.ireturn, 1) := by decide +kernel
theorem dX11_setAct_0 : decode cX11_setAct 0 = .ok (.aload_n 0, 1) := by decide +kernel
theorem dX11_setAct_1 : decode cX11_setAct 1 = .ok (.iload_n 1, 1) := by decide +kernel
theorem dX11_setAct_2 : decode cX11_setAct 2 = .ok (.invokevirtual 152, 3) := by decide +kernel
theorem dX11_setAct_5 : decode cX11_setAct 5 = .ok (.astore 5, 2) := by decide +kernel
theorem dX11_setAct_7 : decode cX11_setAct 7 = .ok (.aload 5, 2) := by decide +kernel
theorem dX11_setAct_9 : decode cX11_setAct 9 = .ok (.iload_n 2, 1) := by decide +kernel
theorem dX11_setAct_10 : decode cX11_setAct 10 = .ok (.iload_n 3, 1) := by decide +kernel
theorem dX11_setAct_11 : decode cX11_setAct 11 = .ok (.iload 4, 2) := by decide +kernel
theorem dX11_setAct_13 : decode cX11_setAct 13 = .ok (.invokevirtual 309, 3) := by decide +kernel
theorem dX11_setAct_16 : decode cX11_setAct 16 = .ok (.invokestatic 276, 3) := by decide +kernel
theorem dX11_setAct_19 : decode cX11_setAct 19 = .ok (.aload_n 0, 1) := by decide +kernel
theorem dX11_setAct_20 : decode cX11_setAct 20 = .ok (.getfield 46, 3) := by decide +kernel
theorem dX11_setAct_23 : decode cX11_setAct 23 = .ok (.aload_n 0, 1) := by decide +kernel
theorem dX11_setAct_24 : decode cX11_setAct 24 = .ok (.getfield 26, 3) := by decide +kernel
theorem dX11_setAct_27 : decode cX11_setAct 27 = .ok (.invokevirtual 107, 3) := by decide +kernel
theorem dX11_setAct_30 : decode cX11_setAct 30 = .ok (.aload 5, 2) := by decide +kernel
theorem dX11_setAct_32 : decode cX11_setAct 32 = .ok (.iload_n 2, 1) := by decide +kernel
theorem dX11_setAct_33 : decode cX11_setAct 33 = .ok (.invokevirtual 194, 3) := by decide +kernel
theorem dX11_setAct_36 : decode cX11_setAct 36 = .ok (.istore 6, 2) := by decide +kernel
theorem dX11_setAct_38 : decode cX11_setAct 38 = .ok (.aload 5, 2) := by decide +kernel
theorem dX11_setAct_40 : decode cX11_setAct 40 = .ok (.iload_n 2, 1) := by decide +kernel
theorem dX11_setAct_41 : decode cX11_setAct 41 = .ok (.iload_n 3, 1) := by decide +kernel
theorem dX11_setAct_42 : decode cX11_setAct 42 = .ok (.iload 4, 2) := by decide +kernel
theorem dX11_setAct_44 : decode cX11_setAct 44 = .ok (.invokevirtual 313, 3) := by decide +kernel
theorem dX11_setAct_47 : decode cX11_setAct 47 = .ok (.iload 6, 2) := by decide +kernel
theorem dX11_setAct_49 : decode cX11_setAct 49 = .ok (.ireturn, 1) := by decide +kernel
theorem dX11_report_0 : decode cX11_report 0 = .ok (.aload_n 0, 1) := by decide +kernel
theorem dX11_report_1 : decode cX11_report 1 = .ok (.getfield 53, 3) := by decide +kernel
theorem dX11_report_4 : decode cX11_report 4 = .ok (.aload_n 0, 1) := by decide +kernel
theorem dX11_report_5 : decode cX11_report 5 = .ok (.getfield 26, 3) := by decide +kernel
theorem dX11_report_8 : decode cX11_report 8 = .ok (.aload_n 0, 1) := by decide +kernel
theorem dX11_report_9 : decode cX11_report 9 = .ok (.getfield 39, 3) := by decide +kernel
theorem dX11_report_12 : decode cX11_report 12 = .ok (.aload_n 0, 1) := by decide +kernel
theorem dX11_report_13 : decode cX11_report 13 = .ok (.getfield 26, 3) := by decide +kernel
theorem dX11_report_16 : decode cX11_report 16 = .ok (.iconst 0, 1) := by decide +kernel
theorem dX11_report_17 : decode cX11_report 17 = .ok (.invokevirtual 222, 3) := by decide +kernel
theorem dX11_report_20 : decode cX11_report 20 = .ok (.getfield 216, 3) := by decide +kernel
theorem dX11_report_23 : decode cX11_report 23 = .ok (.invokevirtual 317, 3) := by decide +kernel
theorem dX11_report_26 : decode cX11_report 26 = .ok (.aload_n 0, 1) := by decide +kernel
theorem dX11_report_27 : decode cX11_report 27 = .ok (.getfield 53, 3) := by decide +kernel
theorem dX11_report_30 : decode cX11_report 30 = .ok (.getfield 321, 3) := by decide +kernel
theorem dX11_report_33 : decode cX11_report 33 = .ok (.ireturn, 1) := by decide +kernel
theorem dX11_reportByte_0 : decode cX11_reportByte 0 = .ok (.iload_n 1, 1) := by decide +kernel
theorem dX11_reportByte_1 : decode cX11_reportByte 1 = .ok (.ifCond .lt 14, 3) := by decide +kernel
theorem dX11_reportByte_4 : decode cX11_reportByte 4 = .ok (.iload_n 1, 1) := by decide +kernel
theorem dX11_reportByte_5 : decode cX11_reportByte 5 = .ok (.aload_n 0, 1) := by decide +kernel
theorem dX11_reportByte_6 : decode cX11_reportByte 6 = .ok (.getfield 53, 3) := by decide +kernel
theorem dX11_reportByte_9 : decode cX11_reportByte 9 = .ok (.getfield 321, 3) := by decide +kernel
theorem dX11_reportByte_12 : decode cX11_reportByte 12 = .ok (.if_icmp .lt 14, 3) := by decide +kernel
theorem dX11_reportByte_15 : decode cX11_reportByte 15 = .ok (.new 322, 3) := by decide +kernel
theorem dX11_reportByte_18 : decode cX11_reportByte 18 = .ok (.dup, 1) := by decide +kernel
theorem dX11_reportByte_19 : decode cX11_reportByte 19 = .ok (.ldc_w 324, 3) := by decide +kernel
theorem dX11_reportByte_22 : decode cX11_reportByte 22 = .ok (.invokespecial 326, 3) := by decide +kernel
theorem dX11_reportByte_25 : decode cX11_reportByte 25 = .ok (.athrow, 1) := by decide +kernel
theorem dX11_reportByte_26 : decode cX11_reportByte 26 = .ok (.aload_n 0, 1) := by decide +kernel
theorem dX11_reportByte_27 : decode cX11_reportByte 27 = .ok (.getfield 53, 3) := by decide +kernel
theorem dX11_reportByte_30 : decode cX11_reportByte 30 = .ok (.iload_n 1, 1) := by decide +kernel
theorem dX11_reportByte_31 : decode cX11_reportByte 31 = .ok (.invokevirtual 327, 3) := by decide +kernel
theorem dX11_reportByte_34 : decode cX11_reportByte 34 = .ok (.ireturn, 1) := by decide +kernel
theorem dX11_undo_0 : decode cX11_undo 0 = .ok (.aload_n 0, 1) := by decide +kernel
theorem dX11_undo_1 : decode cX11_undo 1 = .ok (.getfield 46, 3) := by decide +kernel
theorem dX11_undo_4 : decode cX11_undo 4 = .ok (.aload_n 0, 1) := by decide +kernel
theorem dX11_undo_5 : decode cX11_undo 5 = .ok (.getfield 26, 3) := by decide +kernel
theorem dX11_undo_8 : decode cX11_undo 8 = .ok (.invokevirtual 330, 3) := by decide +kernel
theorem dX11_undo_11 : decode cX11_undo 11 = .ok (.ifCond .eq 13, 3) := by decide +kernel
theorem dX11_undo_14 : decode cX11_undo 14 = .ok (.aload_n 0, 1) := by decide +kernel
theorem dX11_undo_15 : decode cX11_undo 15 = .ok (.getfield 46, 3) := by decide +kernel
theorem dX11_undo_18 : decode cX11_undo 18 = .ok (.getfield 144, 3) := by decide +kernel
theorem dX11_undo_21 : decode cX11_undo 21 = .ok (.goto 4, 3) := by decide +kernel
theorem dX11_undo_24 : decode cX11_undo 24 = .ok (.iconst (-1), 1) := by decide +kernel
theorem dX11_undo_25 : decode cX11_undo 25 = .ok (.ireturn, 1) := by decide +kernel
theorem dX11_save_0 : decode cX11_save 0 = .ok (.aload_n 0, 1) := by decide +kernel
theorem dX11_save_1 : decode cX11_save 1 = .ok (.getfield 33, 3) := by decide +kernel
theorem dX11_save_4 : decode cX11_save 4 = .ok (.aload_n 0, 1) := by decide +kernel
theorem dX11_save_5 : decode cX11_save 5 = .ok (.getfield 26, 3) := by decide +kernel
theorem dX11_save_8 : decode cX11_save 8 = .ok (.invokevirtual 93, 3) := by decide +kernel
theorem dX11_save_11 : decode cX11_save 11 = .ok (.aload_n 0, 1) := by decide +kernel
theorem dX11_save_12 : decode cX11_save 12 = .ok (.iconst 1, 1) := by decide +kernel
theorem dX11_save_13 : decode cX11_save 13 = .ok (.putfield 57, 3) := by decide +kernel
theorem dX11_save_16 : decode cX11_save 16 = .ok (.aload_n 0, 1) := by decide +kernel
theorem dX11_save_17 : decode cX11_save 17 = .ok (.getfield 26, 3) := by decide +kernel
theorem dX11_save_20 : decode cX11_save 20 = .ok (.getfield 123, 3) := by decide +kernel
theorem dX11_save_23 : decode cX11_save 23 = .ok (.ireturn, 1) := by decide +kernel
theorem dX11_restore_0 : decode cX11_restore 0 = .ok (.aload_n 0, 1) := by decide +kernel
theorem dX11_restore_1 : decode cX11_restore 1 = .ok (.getfield 57, 3) := by decide +kernel
theorem dX11_restore_4 : decode cX11_restore 4 = .ok (.ifCond .ne 14, 3) := by decide +kernel
theorem dX11_restore_7 : decode cX11_restore 7 = .ok (.new 65, 3) := by decide +kernel
theorem dX11_restore_10 : decode cX11_restore 10 = .ok (.dup, 1) := by decide +kernel
theorem dX11_restore_11 : decode cX11_restore 11 = .ok (.ldc_w 334, 3) := by decide +kernel
theorem dX11_restore_14 : decode cX11_restore 14 = .ok (.invokespecial 69, 3) := by decide +kernel
theorem dX11_restore_17 : decode cX11_restore 17 = .ok (.athrow, 1) := by decide +kernel
theorem dX11_restore_18 : decode cX11_restore 18 = .ok (.aload_n 0, 1) := by decide +kernel
theorem dX11_restore_19 : decode cX11_restore 19 = .ok (.getfield 26, 3) := by decide +kernel
theorem dX11_restore_22 : decode cX11_restore 22 = .ok (.aload_n 0, 1) := by decide +kernel
theorem dX11_restore_23 : decode cX11_restore 23 = .ok (.getfield 33, 3) := by decide +kernel
theorem dX11_restore_26 : decode cX11_restore 26 = .ok (.invokevirtual 93, 3) := by decide +kernel
theorem dX11_restore_29 : decode cX11_restore 29 = .ok (.aload_n 0, 1) := by decide +kernel
theorem dX11_restore_30 : decode cX11_restore 30 = .ok (.getfield 46, 3) := by decide +kernel
theorem dX11_restore_33 : decode cX11_restore 33 = .ok (.invokevirtual 97, 3) := by decide +kernel
theorem dX11_restore_36 : decode cX11_restore 36 = .ok (.aload_n 0, 1) := by decide +kernel
theorem dX11_restore_37 : decode cX11_restore 37 = .ok (.getfield 26, 3) := by decide +kernel
theorem dX11_restore_40 : decode cX11_restore 40 = .ok (.getfield 123, 3) := by decide +kernel
theorem dX11_restore_43 : decode cX11_restore 43 = .ok (.ireturn, 1) := by decide +kernel
theorem dX11_demand_0 : decode cX11_demand 0 = .ok (.iload_n 0, 1) := by decide +kernel
theorem dX11_demand_1 : decode cX11_demand 1 = .ok (.ifCond .ne 14, 3) := by decide +kernel
theorem dX11_demand_4 : decode cX11_demand 4 = .ok (.new 147, 3) := by decide +kernel
theorem dX11_demand_7 : decode cX11_demand 7 = .ok (.dup, 1) := by decide +kernel
theorem dX11_demand_8 : decode cX11_demand 8 = .ok (.ldc_w 336, 3) := by decide +kernel
theorem dX11_demand_11 : decode cX11_demand 11 = .ok (.invokespecial 151, 3) := by decide +kernel
theorem dX11_demand_14 : decode cX11_demand 14 = .ok (.athrow, 1) := by decide +kernel
theorem dX11_demand_15 : decode cX11_demand 15 = .ok (.return_, 1) := by decide +kernel
theorem dX11_refuse_0 : decode cX11_refuse 0 = .ok (.iload_n 0, 1) := by decide +kernel
theorem dX11_refuse_1 : decode cX11_refuse 1 = .ok (.iconst 1, 1) := by decide +kernel
theorem dX11_refuse_2 : decode cX11_refuse 2 = .ok (.if_icmp .ne 14, 3) := by decide +kernel
theorem dX11_refuse_5 : decode cX11_refuse 5 = .ok (.new 147, 3) := by decide +kernel
theorem dX11_refuse_8 : decode cX11_refuse 8 = .ok (.dup, 1) := by decide +kernel
theorem dX11_refuse_9 : decode cX11_refuse 9 = .ok (.ldc_w 336, 3) := by decide +kernel
theorem dX11_refuse_12 : decode cX11_refuse 12 = .ok (.invokespecial 151, 3) := by decide +kernel
theorem dX11_refuse_15 : decode cX11_refuse 15 = .ok (.athrow, 1) := by decide +kernel
theorem dX11_refuse_16 : decode cX11_refuse 16 = .ok (.iload_n 0, 1) := by decide +kernel
theorem dX11_refuse_17 : decode cX11_refuse 17 = .ok (.iconst 2, 1) := by decide +kernel
theorem dX11_refuse_18 : decode cX11_refuse 18 = .ok (.if_icmp .ne 14, 3) := by decide +kernel
theorem dX11_refuse_21 : decode cX11_refuse 21 = .ok (.new 65, 3) := by decide +kernel
theorem dX11_refuse_24 : decode cX11_refuse 24 = .ok (.dup, 1) := by decide +kernel
theorem dX11_refuse_25 : decode cX11_refuse 25 = .ok (.ldc_w 338, 3) := by decide +kernel
theorem dX11_refuse_28 : decode cX11_refuse 28 = .ok (.invokespecial 69, 3) := by decide +kernel
theorem dX11_refuse_31 : decode cX11_refuse 31 = .ok (.athrow, 1) := by decide +kernel
theorem dX11_refuse_32 : decode cX11_refuse 32 = .ok (.return_, 1) := by decide +kernel
theorem dX11_known_0 : decode cX11_known 0 = .ok (.iload_n 1, 1) := by decide +kernel
theorem dX11_known_1 : decode cX11_known 1 = .ok (.ifCond .lt 14, 3) := by decide +kernel
theorem dX11_known_4 : decode cX11_known 4 = .ok (.iload_n 1, 1) := by decide +kernel
theorem dX11_known_5 : decode cX11_known 5 = .ok (.aload_n 0, 1) := by decide +kernel
theorem dX11_known_6 : decode cX11_known 6 = .ok (.getfield 26, 3) := by decide +kernel
theorem dX11_known_9 : decode cX11_known 9 = .ok (.getfield 100, 3) := by decide +kernel
theorem dX11_known_12 : decode cX11_known 12 = .ok (.if_icmp .lt 14, 3) := by decide +kernel
theorem dX11_known_15 : decode cX11_known 15 = .ok (.new 322, 3) := by decide +kernel
theorem dX11_known_18 : decode cX11_known 18 = .ok (.dup, 1) := by decide +kernel
theorem dX11_known_19 : decode cX11_known 19 = .ok (.ldc_w 340, 3) := by decide +kernel
theorem dX11_known_22 : decode cX11_known 22 = .ok (.invokespecial 326, 3) := by decide +kernel
theorem dX11_known_25 : decode cX11_known 25 = .ok (.athrow, 1) := by decide +kernel
theorem dX11_known_26 : decode cX11_known 26 = .ok (.aload_n 0, 1) := by decide +kernel
theorem dX11_known_27 : decode cX11_known 27 = .ok (.getfield 26, 3) := by decide +kernel
theorem dX11_known_30 : decode cX11_known 30 = .ok (.iload_n 1, 1) := by decide +kernel
theorem dX11_known_31 : decode cX11_known 31 = .ok (.invokevirtual 342, 3) := by decide +kernel
theorem dX11_known_34 : decode cX11_known 34 = .ok (.areturn, 1) := by decide +kernel
theorem dX11_laterSelf_0 : decode cX11_laterSelf 0 = .ok (.aload_n 0, 1) := by decide +kernel
theorem dX11_laterSelf_1 : decode cX11_laterSelf 1 = .ok (.iload_n 1, 1) := by decide +kernel
theorem dX11_laterSelf_2 : decode cX11_laterSelf 2 = .ok (.invokevirtual 152, 3) := by decide +kernel
theorem dX11_laterSelf_5 : decode cX11_laterSelf 5 = .ok (.getfield 216, 3) := by decide +kernel
theorem dX11_laterSelf_8 : decode cX11_laterSelf 8 = .ok (.istore_n 3, 1) := by decide +kernel
theorem dX11_laterSelf_9 : decode cX11_laterSelf 9 = .ok (.iload_n 2, 1) := by decide +kernel
theorem dX11_laterSelf_10 : decode cX11_laterSelf 10 = .ok (.ifCond .lt 14, 3) := by decide +kernel
theorem dX11_laterSelf_13 : decode cX11_laterSelf 13 = .ok (.iload_n 2, 1) := by decide +kernel
theorem dX11_laterSelf_14 : decode cX11_laterSelf 14 = .ok (.sipush 200, 3) := by decide +kernel
theorem dX11_laterSelf_17 : decode cX11_laterSelf 17 = .ok (.if_icmp .gt 7, 3) := by decide +kernel
theorem dX11_laterSelf_20 : decode cX11_laterSelf 20 = .ok (.iconst 1, 1) := by decide +kernel
theorem dX11_laterSelf_21 : decode cX11_laterSelf 21 = .ok (.goto 4, 3) := by decide +kernel
theorem dX11_laterSelf_24 : decode cX11_laterSelf 24 = .ok (.iconst 0, 1) := by decide +kernel
theorem dX11_laterSelf_25 : decode cX11_laterSelf 25 = .ok (.invokestatic 80, 3) := by decide +kernel
theorem dX11_laterSelf_28 : decode cX11_laterSelf 28 = .ok (.aload_n 0, 1) := by decide +kernel
theorem dX11_laterSelf_29 : decode cX11_laterSelf 29 = .ok (.getfield 39, 3) := by decide +kernel
theorem dX11_laterSelf_32 : decode cX11_laterSelf 32 = .ok (.aload_n 0, 1) := by decide +kernel
theorem dX11_laterSelf_33 : decode cX11_laterSelf 33 = .ok (.getfield 26, 3) := by decide +kernel
theorem dX11_laterSelf_36 : decode cX11_laterSelf 36 = .ok (.iload_n 2, 1) := by decide +kernel
theorem dX11_laterSelf_37 : decode cX11_laterSelf 37 = .ok (.invokevirtual 243, 3) := by decide +kernel
theorem dX11_laterSelf_40 : decode cX11_laterSelf 40 = .ok (.iload_n 3, 1) := by decide +kernel
theorem dX11_laterSelf_41 : decode cX11_laterSelf 41 = .ok (.invokevirtual 342, 3) := by decide +kernel
theorem dX11_laterSelf_44 : decode cX11_laterSelf 44 = .ok (.areturn, 1) := by decide +kernel
