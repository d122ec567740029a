theorem dX0_init_0 : decode cX0_init 0 = .ok (.aload_n 0, 1) := by decide +kernel
theorem dX0_init_1 : decode cX0_init 1 = .ok (.invokespecial 3, 3) := by decide +kernel
theorem dX0_init_4 : decode cX0_init 4 = .ok (.aload_n 0, 1) := by decide +kernel
theorem dX0_init_5 : decode cX0_init 5 = .ok (.bipush 16, 2) := by decide +kernel
theorem dX0_init_7 : decode cX0_init 7 = .ok (.newarray .int, 2) := by decide +kernel
theorem dX0_init_9 : decode cX0_init 9 = .ok (.putfield 9, 3) := by decide +kernel
theorem dX0_init_12 : decode cX0_init 12 = .ok (.aload_n 0, 1) := by decide +kernel
theorem dX0_init_13 : decode cX0_init 13 = .ok (.bipush 16, 2) := by decide +kernel
theorem dX0_init_15 : decode cX0_init 15 = .ok (.newarray .int, 2) := by decide +kernel
theorem dX0_init_17 : decode cX0_init 17 = .ok (.putfield 15, 3) := by decide +kernel
theorem dX0_init_20 : decode cX0_init 20 = .ok (.aload_n 0, 1) := by decide +kernel
theorem dX0_init_21 : decode cX0_init 21 = .ok (.bipush 16, 2) := by decide +kernel
theorem dX0_init_23 : decode cX0_init 23 = .ok (.newarray .int, 2) := by decide +kernel
theorem dX0_init_25 : decode cX0_init 25 = .ok (.putfield 18, 3) := by decide +kernel
theorem dX0_init_28 : decode cX0_init 28 = .ok (.aload_n 0, 1) := by decide +kernel
theorem dX0_init_29 : decode cX0_init 29 = .ok (.bipush 16, 2) := by decide +kernel
theorem dX0_init_31 : decode cX0_init 31 = .ok (.newarray .int, 2) := by decide +kernel
theorem dX0_init_33 : decode cX0_init 33 = .ok (.putfield 21, 3) := by decide +kernel
theorem dX0_init_36 : decode cX0_init 36 = .ok (.aload_n 0, 1) := by decide +kernel
theorem dX0_init_37 : decode cX0_init 37 = .ok (.bipush 16, 2) := by decide +kernel
theorem dX0_init_39 : decode cX0_init 39 = .ok (.newarray .int, 2) := by decide +kernel
theorem dX0_init_41 : decode cX0_init 41 = .ok (.putfield 24, 3) := by decide +kernel
theorem dX0_init_44 : decode cX0_init 44 = .ok (.aload_n 0, 1) := by decide +kernel
theorem dX0_init_45 : decode cX0_init 45 = .ok (.bipush 80, 2) := by decide +kernel
theorem dX0_init_47 : decode cX0_init 47 = .ok (.newarray .int, 2) := by decide +kernel
theorem dX0_init_49 : decode cX0_init 49 = .ok (.putfield 27, 3) := by decide +kernel
theorem dX0_init_52 : decode cX0_init 52 = .ok (.aload_n 0, 1) := by decide +kernel
theorem dX0_init_53 : decode cX0_init 53 = .ok (.bipush 16, 2) := by decide +kernel
theorem dX0_init_55 : decode cX0_init 55 = .ok (.newarray .int, 2) := by decide +kernel
theorem dX0_init_57 : decode cX0_init 57 = .ok (.putfield 30, 3) := by decide +kernel
theorem dX0_init_60 : decode cX0_init 60 = .ok (.aload_n 0, 1) := by decide +kernel
theorem dX0_init_61 : decode cX0_init 61 = .ok (.bipush 60, 2) := by decide +kernel
theorem dX0_init_63 : decode cX0_init 63 = .ok (.putfield 33, 3) := by decide +kernel
theorem dX0_init_66 : decode cX0_init 66 = .ok (.aload_n 0, 1) := by decide +kernel
theorem dX0_init_67 : decode cX0_init 67 = .ok (.iconst 1, 1) := by decide +kernel
theorem dX0_init_68 : decode cX0_init 68 = .ok (.putfield 37, 3) := by decide +kernel
theorem dX0_init_71 : decode cX0_init 71 = .ok (.aload_n 0, 1) := by decide +kernel
theorem dX0_init_72 : decode cX0_init 72 = .ok (.iconst 1, 1) := by decide +kernel
theorem dX0_init_73 : decode cX0_init 73 = .ok (.putfield 40, 3) := by decide +kernel
theorem dX0_init_76 : decode cX0_init 76 = .ok (.aload_n 0, 1) := by decide +kernel
theorem dX0_init_77 : decode cX0_init 77 = .ok (.iconst (-1), 1) := by decide +kernel
theorem dX0_init_78 : decode cX0_init 78 = .ok (.putfield 43, 3) := by decide +kernel
theorem dX0_init_81 : decode cX0_init 81 = .ok (.aload_n 0, 1) := by decide +kernel
theorem dX0_init_82 : decode cX0_init 82 = .ok (.aload_n 1, 1) := by decide +kernel
theorem dX0_init_83 : decode cX0_init 83 = .ok (.putfield 46, 3) := by decide +kernel
theorem dX0_init_86 : decode cX0_init 86 = .ok (.aload_n 0, 1) := by decide +kernel
theorem dX0_init_87 : decode cX0_init 87 = .ok (.aload_n 2, 1) := by decide +kernel
theorem dX0_init_88 : decode cX0_init 88 = .ok (.putfield 50, 3) := by decide +kernel
theorem dX0_init_91 : decode cX0_init 91 = .ok (.return_, 1) := by decide +kernel
theorem dX0_copyFrom_0 : decode cX0_copyFrom 0 = .ok (.aload_n 1, 1) := by decide +kernel
theorem dX0_copyFrom_1 : decode cX0_copyFrom 1 = .ok (.getfield 9, 3) := by decide +kernel
theorem dX0_copyFrom_4 : decode cX0_copyFrom 4 = .ok (.iconst 0, 1) := by decide +kernel
theorem dX0_copyFrom_5 : decode cX0_copyFrom 5 = .ok (.aload_n 0, 1) := by decide +kernel
theorem dX0_copyFrom_6 : decode cX0_copyFrom 6 = .ok (.getfield 9, 3) := by decide +kernel
theorem dX0_copyFrom_9 : decode cX0_copyFrom 9 = .ok (.iconst 0, 1) := by decide +kernel
theorem dX0_copyFrom_10 : decode cX0_copyFrom 10 = .ok (.bipush 16, 2) := by decide +kernel
theorem dX0_copyFrom_12 : decode cX0_copyFrom 12 = .ok (.invokestatic 53, 3) := by decide +kernel
theorem dX0_copyFrom_15 : decode cX0_copyFrom 15 = .ok (.aload_n 1, 1) := by decide +kernel
theorem dX0_copyFrom_16 : decode cX0_copyFrom 16 = .ok (.getfield 15, 3) := by decide +kernel
theorem dX0_copyFrom_19 : decode cX0_copyFrom 19 = .ok (.iconst 0, 1) := by decide +kernel
theorem dX0_copyFrom_20 : decode cX0_copyFrom 20 = .ok (.aload_n 0, 1) := by decide +kernel
theorem dX0_copyFrom_21 : decode cX0_copyFrom 21 = .ok (.getfield 15, 3) := by decide +kernel
theorem dX0_copyFrom_24 : decode cX0_copyFrom 24 = .ok (.iconst 0, 1) := by decide +kernel
theorem dX0_copyFrom_25 : decode cX0_copyFrom 25 = .ok (.bipush 16, 2) := by decide +kernel
theorem dX0_copyFrom_27 : decode cX0_copyFrom 27 = .ok (.invokestatic 53, 3) := by decide +kernel
theorem dX0_copyFrom_30 : decode cX0_copyFrom 30 = .ok (.aload_n 1, 1) := by decide +kernel
theorem dX0_copyFrom_31 : decode cX0_copyFrom 31 = .ok (.getfield 18, 3) := by decide +kernel
theorem dX0_copyFrom_34 : decode cX0_copyFrom 34 = .ok (.iconst 0, 1) := by decide +kernel
theorem dX0_copyFrom_35 : decode cX0_copyFrom 35 = .ok (.aload_n 0, 1) := by decide +kernel
theorem dX0_copyFrom_36 : decode cX0_copyFrom 36 = .ok (.getfield 18, 3) := by decide +kernel
theorem dX0_copyFrom_39 : decode cX0_copyFrom 39 = .ok (.iconst 0, 1) := by decide +kernel
theorem dX0_copyFrom_40 : decode cX0_copyFrom 40 = .ok (.bipush 16, 2) := by decide +kernel
theorem dX0_copyFrom_42 : decode cX0_copyFrom 42 = .ok (.invokestatic 53, 3) := by decide +kernel
theorem dX0_copyFrom_45 : decode cX0_copyFrom 45 = .ok (.aload_n 1, 1) := by decide +kernel
theorem dX0_copyFrom_46 : decode cX0_copyFrom 46 = .ok (.getfield 21, 3) := by decide +kernel
theorem dX0_copyFrom_49 : decode cX0_copyFrom 49 = .ok (.iconst 0, 1) := by decide +kernel
theorem dX0_copyFrom_50 : decode cX0_copyFrom 50 = .ok (.aload_n 0, 1) := by decide +kernel
theorem dX0_copyFrom_51 : decode cX0_copyFrom 51 = .ok (.getfield 21, 3) := by decide +kernel
theorem dX0_copyFrom_54 : decode cX0_copyFrom 54 = .ok (.iconst 0, 1) := by decide +kernel
theorem dX0_copyFrom_55 : decode cX0_copyFrom 55 = .ok (.bipush 16, 2) := by decide +kernel
theorem dX0_copyFrom_57 : decode cX0_copyFrom 57 = .ok (.invokestatic 53, 3) := by decide +kernel
theorem dX0_copyFrom_60 : decode cX0_copyFrom 60 = .ok (.aload_n 1, 1) := by decide +kernel
theorem dX0_copyFrom_61 : decode cX0_copyFrom 61 = .ok (.getfield 24, 3) := by decide +kernel
theorem dX0_copyFrom_64 : decode cX0_copyFrom 64 = .ok (.iconst 0, 1) := by decide +kernel
theorem dX0_copyFrom_65 : decode cX0_copyFrom 65 = .ok (.aload_n 0, 1) := by decide +kernel
theorem dX0_copyFrom_66 : decode cX0_copyFrom 66 = .ok (.getfield 24, 3) := by decide +kernel
theorem dX0_copyFrom_69 : decode cX0_copyFrom 69 = .ok (.iconst 0, 1) := by decide +kernel
theorem dX0_copyFrom_70 : decode cX0_copyFrom 70 = .ok (.bipush 16, 2) := by decide +kernel
theorem dX0_copyFrom_72 : decode cX0_copyFrom 72 = .ok (.invokestatic 53, 3) := by decide +kernel
theorem dX0_copyFrom_75 : decode cX0_copyFrom 75 = .ok (.aload_n 1, 1) := by decide +kernel
theorem dX0_copyFrom_76 : decode cX0_copyFrom 76 = .ok (.getfield 27, 3) := by decide +kernel
theorem dX0_copyFrom_79 : decode cX0_copyFrom 79 = .ok (.iconst 0, 1) := by decide +kernel
theorem dX0_copyFrom_80 : decode cX0_copyFrom 80 = .ok (.aload_n 0, 1) := by decide +kernel
theorem dX0_copyFrom_81 : decode cX0_copyFrom 81 = .ok (.getfield 27, 3) := by decide +kernel
theorem dX0_copyFrom_84 : decode cX0_copyFrom 84 = .ok (.iconst 0, 1) := by decide +kernel
theorem dX0_copyFrom_85 : decode cX0_copyFrom 85 = .ok (.bipush 80, 2) := by decide +kernel
theorem dX0_copyFrom_87 : decode cX0_copyFrom 87 = .ok (.invokestatic 53, 3) := by decide +kernel
theorem dX0_copyFrom_90 : decode cX0_copyFrom 90 = .ok (.aload_n 1, 1) := by decide +kernel
theorem dX0_copyFrom_91 : decode cX0_copyFrom 91 = .ok (.getfield 30, 3) := by decide +kernel
theorem dX0_copyFrom_94 : decode cX0_copyFrom 94 = .ok (.iconst 0, 1) := by decide +kernel
theorem dX0_copyFrom_95 : decode cX0_copyFrom 95 = .ok (.aload_n 0, 1) := by decide +kernel
theorem dX0_copyFrom_96 : decode cX0_copyFrom 96 = .ok (.getfield 30, 3) := by decide +kernel
theorem dX0_copyFrom_99 : decode cX0_copyFrom 99 = .ok (.iconst 0, 1) := by decide +kernel
theorem dX0_copyFrom_100 : decode cX0_copyFrom 100 = .ok (.bipush 16, 2) := by decide +kernel
theorem dX0_copyFrom_102 : decode cX0_copyFrom 102 = .ok (.invokestatic 53, 3) := by decide +kernel
theorem dX0_copyFrom_105 : decode cX0_copyFrom 105 = .ok (.aload_n 0, 1) := by decide +kernel
theorem dX0_copyFrom_106 : decode cX0_copyFrom 106 = .ok (.aload_n 1, 1) := by decide +kernel
theorem dX0_copyFrom_107 : decode cX0_copyFrom 107 = .ok (.getfield 59, 3) := by decide +kernel
theorem dX0_copyFrom_110 : decode cX0_copyFrom 110 = .ok (.putfield 59, 3) := by decide +kernel
theorem dX0_copyFrom_113 : decode cX0_copyFrom 113 = .ok (.aload_n 0, 1) := by decide +kernel
theorem dX0_copyFrom_114 : decode cX0_copyFrom 114 = .ok (.aload_n 1, 1) := by decide +kernel
theorem dX0_copyFrom_115 : decode cX0_copyFrom 115 = .ok (.getfield 33, 3) := by decide +kernel
theorem dX0_copyFrom_118 : decode cX0_copyFrom 118 = .ok (.putfield 33, 3) := by decide +kernel
theorem dX0_copyFrom_121 : decode cX0_copyFrom 121 = .ok (.aload_n 0, 1) := by decide +kernel
theorem dX0_copyFrom_122 : decode cX0_copyFrom 122 = .ok (.aload_n 1, 1) := by decide +kernel
theorem dX0_copyFrom_123 : decode cX0_copyFrom 123 = .ok (.getfield 37, 3) := by decide +kernel
theorem dX0_copyFrom_126 : decode cX0_copyFrom 126 = .ok (.putfield 37, 3) := by decide +kernel
theorem dX0_copyFrom_129 : decode cX0_copyFrom 129 = .ok (.aload_n 0, 1) := by decide +kernel
theorem dX0_copyFrom_130 : decode cX0_copyFrom 130 = .ok (.aload_n 1, 1) := by decide +kernel
theorem dX0_copyFrom_131 : decode cX0_copyFrom 131 = .ok (.getfield 62, 3) := by decide +kernel
theorem dX0_copyFrom_134 : decode cX0_copyFrom 134 = .ok (.putfield 62, 3) := by decide +kernel
theorem dX0_copyFrom_137 : decode cX0_copyFrom 137 = .ok (.aload_n 0, 1) := by decide +kernel
theorem dX0_copyFrom_138 : decode cX0_copyFrom 138 = .ok (.aload_n 1, 1) := by decide +kernel
theorem dX0_copyFrom_139 : decode cX0_copyFrom 139 = .ok (.getfield 65, 3) := by decide +kernel
theorem dX0_copyFrom_142 : decode cX0_copyFrom 142 = .ok (.putfield 65, 3) := by decide +kernel
theorem dX0_copyFrom_145 : decode cX0_copyFrom 145 = .ok (.aload_n 0, 1) := by decide +kernel
theorem dX0_copyFrom_146 : decode cX0_copyFrom 146 = .ok (.aload_n 1, 1) := by decide +kernel
theorem dX0_copyFrom_147 : decode cX0_copyFrom 147 = .ok (.getfield 40, 3) := by decide +kernel
theorem dX0_copyFrom_150 : decode cX0_copyFrom 150 = .ok (.putfield 40, 3) := by decide +kernel
theorem dX0_copyFrom_153 : decode cX0_copyFrom 153 = .ok (.return_, 1) := by decide +kernel
theorem dX0_copyWholeFrom_0 : decode cX0_copyWholeFrom 0 = .ok (.aload_n 0, 1) := by decide +kernel
theorem dX0_copyWholeFrom_1 : decode cX0_copyWholeFrom 1 = .ok (.aload_n 1, 1) := by decide +kernel
theorem dX0_copyWholeFrom_2 : decode cX0_copyWholeFrom 2 = .ok (.invokevirtual 68, 3) := by decide +kernel
theorem dX0_copyWholeFrom_5 : decode cX0_copyWholeFrom 5 = .ok (.aload_n 0, 1) := by decide +kernel
theorem dX0_copyWholeFrom_6 : decode cX0_copyWholeFrom 6 = .ok (.getfield 46, 3) := by decide +kernel
theorem dX0_copyWholeFrom_9 : decode cX0_copyWholeFrom 9 = .ok (.aload_n 1, 1) := by decide +kernel
theorem dX0_copyWholeFrom_10 : decode cX0_copyWholeFrom 10 = .ok (.getfield 46, 3) := by decide +kernel
theorem dX0_copyWholeFrom_13 : decode cX0_copyWholeFrom 13 = .ok (.invokevirtual 72, 3) := by decide +kernel
theorem dX0_copyWholeFrom_16 : decode cX0_copyWholeFrom 16 = .ok (.aload_n 0, 1) := by decide +kernel
theorem dX0_copyWholeFrom_17 : decode cX0_copyWholeFrom 17 = .ok (.getfield 50, 3) := by decide +kernel
theorem dX0_copyWholeFrom_20 : decode cX0_copyWholeFrom 20 = .ok (.aload_n 1, 1) := by decide +kernel
theorem dX0_copyWholeFrom_21 : decode cX0_copyWholeFrom 21 = .ok (.getfield 50, 3) := by decide +kernel
theorem dX0_copyWholeFrom_24 : decode cX0_copyWholeFrom 24 = .ok (.invokevirtual 72, 3) := by decide +kernel
theorem dX0_copyWholeFrom_27 : decode cX0_copyWholeFrom 27 = .ok (.return_, 1) := by decide +kernel
theorem dX0_textFor_0 : decode cX0_textFor 0 = .ok (.iload_n 1, 1) := by decide +kernel
theorem dX0_textFor_1 : decode cX0_textFor 1 = .ok (.ifCond .ne 10, 3) := by decide +kernel
theorem dX0_textFor_4 : decode cX0_textFor 4 = .ok (.aload_n 0, 1) := by decide +kernel
theorem dX0_textFor_5 : decode cX0_textFor 5 = .ok (.getfield 46, 3) := by decide +kernel
theorem dX0_textFor_8 : decode cX0_textFor 8 = .ok (.goto 7, 3) := by decide +kernel
theorem dX0_textFor_11 : decode cX0_textFor 11 = .ok (.aload_n 0, 1) := by decide +kernel
theorem dX0_textFor_12 : decode cX0_textFor 12 = .ok (.getfield 50, 3) := by decide +kernel
theorem dX0_textFor_15 : decode cX0_textFor 15 = .ok (.areturn, 1) := by decide +kernel
theorem dX0_has_0 : decode cX0_has 0 = .ok (.iload_n 1, 1) := by decide +kernel
theorem dX0_has_1 : decode cX0_has 1 = .ok (.ifCond .lt 21, 3) := by decide +kernel
theorem dX0_has_4 : decode cX0_has 4 = .ok (.iload_n 1, 1) := by decide +kernel
theorem dX0_has_5 : decode cX0_has 5 = .ok (.aload_n 0, 1) := by decide +kernel
theorem dX0_has_6 : decode cX0_has 6 = .ok (.getfield 59, 3) := by decide +kernel
theorem dX0_has_9 : decode cX0_has 9 = .ok (.if_icmp .ge 13, 3) := by decide +kernel
theorem dX0_has_12 : decode cX0_has 12 = .ok (.iload_n 1, 1) := by decide +kernel
theorem dX0_has_13 : decode cX0_has 13 = .ok (.bipush 16, 2) := by decide +kernel
theorem dX0_has_15 : decode cX0_has 15 = .ok (.if_icmp .ge 7, 3) := by decide +kernel
theorem dX0_has_18 : decode cX0_has 18 = .ok (.iconst 1, 1) := by decide +kernel
theorem dX0_has_19 : decode cX0_has 19 = .ok (.goto 4, 3) := by decide +kernel
theorem dX0_has_22 : decode cX0_has 22 = .ok (.iconst 0, 1) := by decide +kernel
theorem dX0_has_23 : decode cX0_has 23 = .ok (.ireturn, 1) := by decide +kernel
theorem dX0_kindOf_0 : decode cX0_kindOf 0 = .ok (.aload_n 0, 1) := by decide +kernel
theorem dX0_kindOf_1 : decode cX0_kindOf 1 = .ok (.iload_n 1, 1) := by decide +kernel
theorem dX0_kindOf_2 : decode cX0_kindOf 2 = .ok (.invokevirtual 77, 3) := by decide +kernel
theorem dX0_kindOf_5 : decode cX0_kindOf 5 = .ok (.ifCond .eq 12, 3) := by decide +kernel
theorem dX0_kindOf_8 : decode cX0_kindOf 8 = .ok (.aload_n 0, 1) := by decide +kernel
theorem dX0_kindOf_9 : decode cX0_kindOf 9 = .ok (.getfield 9, 3) := by decide +kernel
theorem dX0_kindOf_12 : decode cX0_kindOf 12 = .ok (.iload_n 1, 1) := by decide +kernel
theorem dX0_kindOf_13 : decode cX0_kindOf 13 = .ok (.iaload, 1) := by decide +kernel
theorem dX0_kindOf_14 : decode cX0_kindOf 14 = .ok (.goto 4, 3) := by decide +kernel
theorem dX0_kindOf_17 : decode cX0_kindOf 17 = .ok (.iconst 0, 1) := by decide +kernel
theorem dX0_kindOf_18 : decode cX0_kindOf 18 = .ok (.ireturn, 1) := by decide +kernel
theorem dX0_mOf_0 : decode cX0_mOf 0 = .ok (.aload_n 0, 1) := by decide +kernel
theorem dX0_mOf_1 : decode cX0_mOf 1 = .ok (.iload_n 1, 1) := by decide +kernel
theorem dX0_mOf_2 : decode cX0_mOf 2 = .ok (.invokevirtual 77, 3) := by decide +kernel
theorem dX0_mOf_5 : decode cX0_mOf 5 = .ok (.ifCond .eq 12, 3) := by decide +kernel
theorem dX0_mOf_8 : decode cX0_mOf 8 = .ok (.aload_n 0, 1) := by decide +kernel
theorem dX0_mOf_9 : decode cX0_mOf 9 = .ok (.getfield 15, 3) := by decide +kernel
theorem dX0_mOf_12 : decode cX0_mOf 12 = .ok (.iload_n 1, 1) := by decide +kernel
theorem dX0_mOf_13 : decode cX0_mOf 13 = .ok (.iaload, 1) := by decide +kernel
theorem dX0_mOf_14 : decode cX0_mOf 14 = .ok (.goto 4, 3) := by decide +kernel
theorem dX0_mOf_17 : decode cX0_mOf 17 = .ok (.iconst 0, 1) := by decide +kernel
theorem dX0_mOf_18 : decode cX0_mOf 18 = .ok (.ireturn, 1) := by decide +kernel
theorem dX0_worthOf_0 : decode cX0_worthOf 0 = .ok (.aload_n 0, 1) := by decide +kernel
theorem dX0_worthOf_1 : decode cX0_worthOf 1 = .ok (.iload_n 1, 1) := by decide +kernel
theorem dX0_worthOf_2 : decode cX0_worthOf 2 = .ok (.invokevirtual 77, 3) := by decide +kernel
theorem dX0_worthOf_5 : decode cX0_worthOf 5 = .ok (.ifCond .eq 12, 3) := by decide +kernel
theorem dX0_worthOf_8 : decode cX0_worthOf 8 = .ok (.aload_n 0, 1) := by decide +kernel
theorem dX0_worthOf_9 : decode cX0_worthOf 9 = .ok (.getfield 18, 3) := by decide +kernel
theorem dX0_worthOf_12 : decode cX0_worthOf 12 = .ok (.iload_n 1, 1) := by decide +kernel
theorem dX0_worthOf_13 : decode cX0_worthOf 13 = .ok (.iaload, 1) := by decide +kernel
theorem dX0_worthOf_14 : decode cX0_worthOf 14 = .ok (.goto 4, 3) := by decide +kernel
theorem dX0_worthOf_17 : decode cX0_worthOf 17 = .ok (.iconst 0, 1) := by decide +kernel
theorem dX0_worthOf_18 : decode cX0_worthOf 18 = .ok (.ireturn, 1) := by decide +kernel
theorem dX0_cellOf_0 : decode cX0_cellOf 0 = .ok (.aload_n 0, 1) := by decide +kernel
theorem dX0_cellOf_1 : decode cX0_cellOf 1 = .ok (.iload_n 1, 1) := by decide +kernel
theorem dX0_cellOf_2 : decode cX0_cellOf 2 = .ok (.invokevirtual 77, 3) := by decide +kernel
theorem dX0_cellOf_5 : decode cX0_cellOf 5 = .ok (.ifCond .eq 12, 3) := by decide +kernel
theorem dX0_cellOf_8 : decode cX0_cellOf 8 = .ok (.aload_n 0, 1) := by decide +kernel
theorem dX0_cellOf_9 : decode cX0_cellOf 9 = .ok (.getfield 21, 3) := by decide +kernel
theorem dX0_cellOf_12 : decode cX0_cellOf 12 = .ok (.iload_n 1, 1) := by decide +kernel
theorem dX0_cellOf_13 : decode cX0_cellOf 13 = .ok (.iaload, 1) := by decide +kernel
theorem dX0_cellOf_14 : decode cX0_cellOf 14 = .ok (.goto 5, 3) := by decide +kernel
theorem dX0_cellOf_17 : decode cX0_cellOf 17 = .ok (.bipush (-2), 2) := by decide +kernel
theorem dX0_cellOf_19 : decode cX0_cellOf 19 = .ok (.ireturn, 1) := by decide +kernel
theorem dX0_highOf_0 : decode cX0_highOf 0 = .ok (.iload_n 1, 1) := by decide +kernel
theorem dX0_highOf_1 : decode cX0_highOf 1 = .ok (.invokestatic 81, 3) := by decide +kernel
theorem dX0_highOf_4 : decode cX0_highOf 4 = .ok (.ifCond .eq 12, 3) := by decide +kernel
theorem dX0_highOf_7 : decode cX0_highOf 7 = .ok (.aload_n 0, 1) := by decide +kernel
theorem dX0_highOf_8 : decode cX0_highOf 8 = .ok (.getfield 30, 3) := by decide +kernel
theorem dX0_highOf_11 : decode cX0_highOf 11 = .ok (.iload_n 1, 1) := by decide +kernel
theorem dX0_highOf_12 : decode cX0_highOf 12 = .ok (.iaload, 1) := by decide +kernel
theorem dX0_highOf_13 : decode cX0_highOf 13 = .ok (.goto 4, 3) := by decide +kernel
theorem dX0_highOf_16 : decode cX0_highOf 16 = .ok (.iconst 0, 1) := by decide +kernel
theorem dX0_highOf_17 : decode cX0_highOf 17 = .ok (.ireturn, 1) := by decide +kernel
theorem dX0_top_0 : decode cX0_top 0 = .ok (.aload_n 0, 1) := by decide +kernel
theorem dX0_top_1 : decode cX0_top 1 = .ok (.iload_n 1, 1) := by decide +kernel
theorem dX0_top_2 : decode cX0_top 2 = .ok (.aload_n 0, 1) := by decide +kernel
theorem dX0_top_3 : decode cX0_top 3 = .ok (.iload_n 1, 1) := by decide +kernel
theorem dX0_top_4 : decode cX0_top 4 = .ok (.invokevirtual 84, 3) := by decide +kernel
theorem dX0_top_7 : decode cX0_top 7 = .ok (.iconst 1, 1) := by decide +kernel
theorem dX0_top_8 : decode cX0_top 8 = .ok (.isub, 1) := by decide +kernel
theorem dX0_top_9 : decode cX0_top 9 = .ok (.invokevirtual 88, 3) := by decide +kernel
theorem dX0_top_12 : decode cX0_top 12 = .ok (.ireturn, 1) := by decide +kernel
theorem dX0_thingAt_0 : decode cX0_thingAt 0 = .ok (.iload_n 1, 1) := by decide +kernel
theorem dX0_thingAt_1 : decode cX0_thingAt 1 = .ok (.invokestatic 81, 3) := by decide +kernel
theorem dX0_thingAt_4 : decode cX0_thingAt 4 = .ok (.ifCond .eq 22, 3) := by decide +kernel
theorem dX0_thingAt_7 : decode cX0_thingAt 7 = .ok (.iload_n 2, 1) := by decide +kernel
theorem dX0_thingAt_8 : decode cX0_thingAt 8 = .ok (.ifCond .lt 18, 3) := by decide +kernel
theorem dX0_thingAt_11 : decode cX0_thingAt 11 = .ok (.iload_n 2, 1) := by decide +kernel
theorem dX0_thingAt_12 : decode cX0_thingAt 12 = .ok (.aload_n 0, 1) := by decide +kernel
theorem dX0_thingAt_13 : decode cX0_thingAt 13 = .ok (.getfield 30, 3) := by decide +kernel
theorem dX0_thingAt_16 : decode cX0_thingAt 16 = .ok (.iload_n 1, 1) := by decide +kernel
theorem dX0_thingAt_17 : decode cX0_thingAt 17 = .ok (.iaload, 1) := by decide +kernel
theorem dX0_thingAt_18 : decode cX0_thingAt 18 = .ok (.if_icmp .ge 8, 3) := by decide +kernel
theorem dX0_thingAt_21 : decode cX0_thingAt 21 = .ok (.iload_n 2, 1) := by decide +kernel
theorem dX0_thingAt_22 : decode cX0_thingAt 22 = .ok (.iconst 5, 1) := by decide +kernel
theorem dX0_thingAt_23 : decode cX0_thingAt 23 = .ok (.if_icmp .lt 5, 3) := by decide +kernel
theorem dX0_thingAt_26 : decode cX0_thingAt 26 = .ok (.iconst (-1), 1) := by decide +kernel
theorem dX0_thingAt_27 : decode cX0_thingAt 27 = .ok (.ireturn, 1) := by decide +kernel
theorem dX0_thingAt_28 : decode cX0_thingAt 28 = .ok (.aload_n 0, 1) := by decide +kernel
theorem dX0_thingAt_29 : decode cX0_thingAt 29 = .ok (.getfield 27, 3) := by decide +kernel
theorem dX0_thingAt_32 : decode cX0_thingAt 32 = .ok (.iconst 5, 1) := by decide +kernel
theorem dX0_thingAt_33 : decode cX0_thingAt 33 = .ok (.iload_n 1, 1) := by decide +kernel
theorem dX0_thingAt_34 : decode cX0_thingAt 34 = .ok (.imul, 1) := by decide +kernel
theorem dX0_thingAt_35 : decode cX0_thingAt 35 = .ok (.iload_n 2, 1) := by decide +kernel
theorem dX0_thingAt_36 : decode cX0_thingAt 36 = .ok (.iadd, 1) := by decide +kernel
theorem dX0_thingAt_37 : decode cX0_thingAt 37 = .ok (.iaload, 1) := by decide +kernel
theorem dX0_thingAt_38 : decode cX0_thingAt 38 = .ok (.ireturn, 1) := by decide +kernel
theorem dX0_under_0 : decode cX0_under 0 = .ok (.aload_n 0, 1) := by decide +kernel
theorem dX0_under_1 : decode cX0_under 1 = .ok (.iload_n 1, 1) := by decide +kernel
theorem dX0_under_2 : decode cX0_under 2 = .ok (.invokevirtual 92, 3) := by decide +kernel
theorem dX0_under_5 : decode cX0_under 5 = .ok (.ifCond .lt 12, 3) := by decide +kernel
theorem dX0_under_8 : decode cX0_under 8 = .ok (.aload_n 0, 1) := by decide +kernel
theorem dX0_under_9 : decode cX0_under 9 = .ok (.getfield 24, 3) := by decide +kernel
theorem dX0_under_12 : decode cX0_under 12 = .ok (.iload_n 1, 1) := by decide +kernel
theorem dX0_under_13 : decode cX0_under 13 = .ok (.iaload, 1) := by decide +kernel
theorem dX0_under_14 : decode cX0_under 14 = .ok (.goto 4, 3) := by decide +kernel
theorem dX0_under_17 : decode cX0_under 17 = .ok (.iconst (-1), 1) := by decide +kernel
theorem dX0_under_18 : decode cX0_under 18 = .ok (.ireturn, 1) := by decide +kernel
theorem dX0_on_0 : decode cX0_on 0 = .ok (.aload_n 0, 1) := by decide +kernel
theorem dX0_on_1 : decode cX0_on 1 = .ok (.iload_n 1, 1) := by decide +kernel
theorem dX0_on_2 : decode cX0_on 2 = .ok (.invokevirtual 92, 3) := by decide +kernel
theorem dX0_on_5 : decode cX0_on 5 = .ok (.istore_n 2, 1) := by decide +kernel
theorem dX0_on_6 : decode cX0_on 6 = .ok (.iload_n 2, 1) := by decide +kernel
theorem dX0_on_7 : decode cX0_on 7 = .ok (.ifCond .lt 20, 3) := by decide +kernel
theorem dX0_on_10 : decode cX0_on 10 = .ok (.aload_n 0, 1) := by decide +kernel
theorem dX0_on_11 : decode cX0_on 11 = .ok (.iload_n 2, 1) := by decide +kernel
theorem dX0_on_12 : decode cX0_on 12 = .ok (.invokevirtual 84, 3) := by decide +kernel
theorem dX0_on_15 : decode cX0_on 15 = .ok (.iconst 1, 1) := by decide +kernel
theorem dX0_on_16 : decode cX0_on 16 = .ok (.isub, 1) := by decide +kernel
theorem dX0_on_17 : decode cX0_on 17 = .ok (.aload_n 0, 1) := by decide +kernel
theorem dX0_on_18 : decode cX0_on 18 = .ok (.getfield 24, 3) := by decide +kernel
theorem dX0_on_21 : decode cX0_on 21 = .ok (.iload_n 1, 1) := by decide +kernel
theorem dX0_on_22 : decode cX0_on 22 = .ok (.iaload, 1) := by decide +kernel
theorem dX0_on_23 : decode cX0_on 23 = .ok (.isub, 1) := by decide +kernel
theorem dX0_on_24 : decode cX0_on 24 = .ok (.goto 4, 3) := by decide +kernel
theorem dX0_on_27 : decode cX0_on 27 = .ok (.iconst (-1), 1) := by decide +kernel
theorem dX0_on_28 : decode cX0_on 28 = .ok (.ireturn, 1) := by decide +kernel
theorem dX0_add_0 : decode cX0_add 0 = .ok (.aload_n 0, 1) := by decide +kernel
theorem dX0_add_1 : decode cX0_add 1 = .ok (.getfield 59, 3) := by decide +kernel
theorem dX0_add_4 : decode cX0_add 4 = .ok (.istore 4, 2) := by decide +kernel
theorem dX0_add_6 : decode cX0_add 6 = .ok (.iload 4, 2) := by decide +kernel
theorem dX0_add_8 : decode cX0_add 8 = .ok (.ifCond .lt 10, 3) := by decide +kernel
theorem dX0_add_11 : decode cX0_add 11 = .ok (.iload 4, 2) := by decide +kernel
theorem dX0_add_13 : decode cX0_add 13 = .ok (.bipush 16, 2) := by decide +kernel
theorem dX0_add_15 : decode cX0_add 15 = .ok (.if_icmp .lt 5, 3) := by decide +kernel
theorem dX0_add_18 : decode cX0_add 18 = .ok (.iconst (-1), 1) := by decide +kernel
theorem dX0_add_19 : decode cX0_add 19 = .ok (.ireturn, 1) := by decide +kernel
theorem dX0_add_20 : decode cX0_add 20 = .ok (.aload_n 0, 1) := by decide +kernel
theorem dX0_add_21 : decode cX0_add 21 = .ok (.getfield 9, 3) := by decide +kernel
theorem dX0_add_24 : decode cX0_add 24 = .ok (.iload 4, 2) := by decide +kernel
theorem dX0_add_26 : decode cX0_add 26 = .ok (.iload_n 1, 1) := by decide +kernel
theorem dX0_add_27 : decode cX0_add 27 = .ok (.iastore, 1) := by decide +kernel
theorem dX0_add_28 : decode cX0_add 28 = .ok (.aload_n 0, 1) := by decide +kernel
theorem dX0_add_29 : decode cX0_add 29 = .ok (.getfield 15, 3) := by decide +kernel
theorem dX0_add_32 : decode cX0_add 32 = .ok (.iload 4, 2) := by decide +kernel
theorem dX0_add_34 : decode cX0_add 34 = .ok (.iload_n 2, 1) := by decide +kernel
theorem dX0_add_35 : decode cX0_add 35 = .ok (.iastore, 1) := by decide +kernel
theorem dX0_add_36 : decode cX0_add 36 = .ok (.aload_n 0, 1) := by decide +kernel
theorem dX0_add_37 : decode cX0_add 37 = .ok (.getfield 18, 3) := by decide +kernel
theorem dX0_add_40 : decode cX0_add 40 = .ok (.iload 4, 2) := by decide +kernel
theorem dX0_add_42 : decode cX0_add 42 = .ok (.bipush 10, 2) := by decide +kernel
theorem dX0_add_44 : decode cX0_add 44 = .ok (.iastore, 1) := by decide +kernel
theorem dX0_add_45 : decode cX0_add 45 = .ok (.aload_n 0, 1) := by decide +kernel
theorem dX0_add_46 : decode cX0_add 46 = .ok (.getfield 21, 3) := by decide +kernel
theorem dX0_add_49 : decode cX0_add 49 = .ok (.iload 4, 2) := by decide +kernel
theorem dX0_add_51 : decode cX0_add 51 = .ok (.bipush (-2), 2) := by decide +kernel
theorem dX0_add_53 : decode cX0_add 53 = .ok (.iastore, 1) := by decide +kernel
theorem dX0_add_54 : decode cX0_add 54 = .ok (.aload_n 0, 1) := by decide +kernel
theorem dX0_add_55 : decode cX0_add 55 = .ok (.dup, 1) := by decide +kernel
theorem dX0_add_56 : decode cX0_add 56 = .ok (.getfield 59, 3) := by decide +kernel
theorem dX0_add_59 : decode cX0_add 59 = .ok (.iconst 1, 1) := by decide +kernel
theorem dX0_add_60 : decode cX0_add 60 = .ok (.iadd, 1) := by decide +kernel
theorem dX0_add_61 : decode cX0_add 61 = .ok (.putfield 59, 3) := by decide +kernel
theorem dX0_add_64 : decode cX0_add 64 = .ok (.aload_n 0, 1) := by decide +kernel
theorem dX0_add_65 : decode cX0_add 65 = .ok (.iload 4, 2) := by decide +kernel
theorem dX0_add_67 : decode cX0_add 67 = .ok (.iload_n 3, 1) := by decide +kernel
theorem dX0_add_68 : decode cX0_add 68 = .ok (.invokevirtual 95, 3) := by decide +kernel
theorem dX0_add_71 : decode cX0_add 71 = .ok (.iload 4, 2) := by decide +kernel
theorem dX0_add_73 : decode cX0_add 73 = .ok (.ireturn, 1) := by decide +kernel
theorem dX0_become_0 : decode cX0_become 0 = .ok (.aload_n 0, 1) := by decide +kernel
theorem dX0_become_1 : decode cX0_become 1 = .ok (.iload_n 1, 1) := by decide +kernel
theorem dX0_become_2 : decode cX0_become 2 = .ok (.invokevirtual 77, 3) := by decide +kernel
theorem dX0_become_5 : decode cX0_become 5 = .ok (.ifCond .ne 5, 3) := by decide +kernel
theorem dX0_become_8 : decode cX0_become 8 = .ok (.iconst (-1), 1) := by decide +kernel
theorem dX0_become_9 : decode cX0_become 9 = .ok (.ireturn, 1) := by decide +kernel
theorem dX0_become_10 : decode cX0_become 10 = .ok (.iload_n 2, 1) := by decide +kernel
theorem dX0_become_11 : decode cX0_become 11 = .ok (.ifCond .ne 10, 3) := by decide +kernel
theorem dX0_become_14 : decode cX0_become 14 = .ok (.aload_n 0, 1) := by decide +kernel
theorem dX0_become_15 : decode cX0_become 15 = .ok (.getfield 9, 3) := by decide +kernel
theorem dX0_become_18 : decode cX0_become 18 = .ok (.goto 19, 3) := by decide +kernel
theorem dX0_become_21 : decode cX0_become 21 = .ok (.iload_n 2, 1) := by decide +kernel
theorem dX0_become_22 : decode cX0_become 22 = .ok (.iconst 1, 1) := by decide +kernel
theorem dX0_become_23 : decode cX0_become 23 = .ok (.if_icmp .ne 10, 3) := by decide +kernel
theorem dX0_become_26 : decode cX0_become 26 = .ok (.aload_n 0, 1) := by decide +kernel
theorem dX0_become_27 : decode cX0_become 27 = .ok (.getfield 15, 3) := by decide +kernel
theorem dX0_become_30 : decode cX0_become 30 = .ok (.goto 7, 3) := by decide +kernel
theorem dX0_become_33 : decode cX0_become 33 = .ok (.aload_n 0, 1) := by decide +kernel
theorem dX0_become_34 : decode cX0_become 34 = .ok (.getfield 18, 3) := by decide +kernel
theorem dX0_become_37 : decode cX0_become 37 = .ok (.astore 4, 2) := by decide +kernel
theorem dX0_become_39 : decode cX0_become 39 = .ok (.aload 4, 2) := by decide +kernel
theorem dX0_become_41 : decode cX0_become 41 = .ok (.iload_n 1, 1) := by decide +kernel
theorem dX0_become_42 : decode cX0_become 42 = .ok (.iaload, 1) := by decide +kernel
theorem dX0_become_43 : decode cX0_become 43 = .ok (.istore 5, 2) := by decide +kernel
theorem dX0_become_45 : decode cX0_become 45 = .ok (.aload 4, 2) := by decide +kernel
theorem dX0_become_47 : decode cX0_become 47 = .ok (.iload_n 1, 1) := by decide +kernel
theorem dX0_become_48 : decode cX0_become 48 = .ok (.iload_n 3, 1) := by decide +kernel
theorem dX0_become_49 : decode cX0_become 49 = .ok (.iastore, 1) := by decide +kernel
theorem dX0_become_50 : decode cX0_become 50 = .ok (.iload 5, 2) := by decide +kernel
theorem dX0_become_52 : decode cX0_become 52 = .ok (.ireturn, 1) := by decide +kernel
theorem dX0_lower_0 : decode cX0_lower 0 = .ok (.aload_n 0, 1) := by decide +kernel
theorem dX0_lower_1 : decode cX0_lower 1 = .ok (.iload_n 2, 1) := by decide +kernel
theorem dX0_lower_2 : decode cX0_lower 2 = .ok (.invokevirtual 84, 3) := by decide +kernel
theorem dX0_lower_5 : decode cX0_lower 5 = .ok (.istore_n 3, 1) := by decide +kernel
theorem dX0_lower_6 : decode cX0_lower 6 = .ok (.iload_n 2, 1) := by decide +kernel
theorem dX0_lower_7 : decode cX0_lower 7 = .ok (.invokestatic 81, 3) := by decide +kernel
theorem dX0_lower_10 : decode cX0_lower 10 = .ok (.ifCond .eq 25, 3) := by decide +kernel
theorem dX0_lower_13 : decode cX0_lower 13 = .ok (.iload_n 3, 1) := by decide +kernel
theorem dX0_lower_14 : decode cX0_lower 14 = .ok (.iconst 5, 1) := by decide +kernel
theorem dX0_lower_15 : decode cX0_lower 15 = .ok (.if_icmp .ge 20, 3) := by decide +kernel
theorem dX0_lower_18 : decode cX0_lower 18 = .ok (.aload_n 0, 1) := by decide +kernel
theorem dX0_lower_19 : decode cX0_lower 19 = .ok (.getfield 30, 3) := by decide +kernel
theorem dX0_lower_22 : decode cX0_lower 22 = .ok (.iload_n 2, 1) := by decide +kernel
theorem dX0_lower_23 : decode cX0_lower 23 = .ok (.dup2, 1) := by decide +kernel
theorem dX0_lower_24 : decode cX0_lower 24 = .ok (.iaload, 1) := by decide +kernel
theorem dX0_lower_25 : decode cX0_lower 25 = .ok (.iconst 1, 1) := by decide +kernel
theorem dX0_lower_26 : decode cX0_lower 26 = .ok (.iadd, 1) := by decide +kernel
theorem dX0_lower_27 : decode cX0_lower 27 = .ok (.iastore, 1) := by decide +kernel
theorem dX0_lower_28 : decode cX0_lower 28 = .ok (.aload_n 0, 1) := by decide +kernel
theorem dX0_lower_29 : decode cX0_lower 29 = .ok (.iload_n 1, 1) := by decide +kernel
theorem dX0_lower_30 : decode cX0_lower 30 = .ok (.iload_n 2, 1) := by decide +kernel
theorem dX0_lower_31 : decode cX0_lower 31 = .ok (.iload_n 3, 1) := by decide +kernel
theorem dX0_lower_32 : decode cX0_lower 32 = .ok (.invokevirtual 99, 3) := by decide +kernel
theorem dX0_lower_35 : decode cX0_lower 35 = .ok (.return_, 1) := by decide +kernel
theorem dX0_take_0 : decode cX0_take 0 = .ok (.aload_n 0, 1) := by decide +kernel
theorem dX0_take_1 : decode cX0_take 1 = .ok (.iload_n 1, 1) := by decide +kernel
theorem dX0_take_2 : decode cX0_take 2 = .ok (.invokevirtual 92, 3) := by decide +kernel
theorem dX0_take_5 : decode cX0_take 5 = .ok (.istore_n 3, 1) := by decide +kernel
theorem dX0_take_6 : decode cX0_take 6 = .ok (.aload_n 0, 1) := by decide +kernel
theorem dX0_take_7 : decode cX0_take 7 = .ok (.iload_n 1, 1) := by decide +kernel
theorem dX0_take_8 : decode cX0_take 8 = .ok (.invokevirtual 77, 3) := by decide +kernel
theorem dX0_take_11 : decode cX0_take 11 = .ok (.ifCond .eq 10, 3) := by decide +kernel
theorem dX0_take_14 : decode cX0_take 14 = .ok (.iload_n 3, 1) := by decide +kernel
theorem dX0_take_15 : decode cX0_take 15 = .ok (.invokestatic 81, 3) := by decide +kernel
theorem dX0_take_18 : decode cX0_take 18 = .ok (.ifCond .ne 4, 3) := by decide +kernel
theorem dX0_take_21 : decode cX0_take 21 = .ok (.return_, 1) := by decide +kernel
theorem dX0_take_22 : decode cX0_take 22 = .ok (.aload_n 0, 1) := by decide +kernel
theorem dX0_take_23 : decode cX0_take 23 = .ok (.iload_n 1, 1) := by decide +kernel
theorem dX0_take_24 : decode cX0_take 24 = .ok (.invokevirtual 103, 3) := by decide +kernel
theorem dX0_take_27 : decode cX0_take 27 = .ok (.istore 4, 2) := by decide +kernel
theorem dX0_take_29 : decode cX0_take 29 = .ok (.iload 4, 2) := by decide +kernel
theorem dX0_take_31 : decode cX0_take 31 = .ok (.aload_n 0, 1) := by decide +kernel
theorem dX0_take_32 : decode cX0_take 32 = .ok (.iload_n 3, 1) := by decide +kernel
theorem dX0_take_33 : decode cX0_take 33 = .ok (.invokevirtual 84, 3) := by decide +kernel
theorem dX0_take_36 : decode cX0_take 36 = .ok (.iconst 1, 1) := by decide +kernel
theorem dX0_take_37 : decode cX0_take 37 = .ok (.isub, 1) := by decide +kernel
theorem dX0_take_38 : decode cX0_take 38 = .ok (.if_icmp .ge 25, 3) := by decide +kernel
theorem dX0_take_41 : decode cX0_take 41 = .ok (.aload_n 0, 1) := by decide +kernel
theorem dX0_take_42 : decode cX0_take 42 = .ok (.aload_n 0, 1) := by decide +kernel
theorem dX0_take_43 : decode cX0_take 43 = .ok (.iload_n 3, 1) := by decide +kernel
theorem dX0_take_44 : decode cX0_take 44 = .ok (.iload 4, 2) := by decide +kernel
theorem dX0_take_46 : decode cX0_take 46 = .ok (.iconst 1, 1) := by decide +kernel
theorem dX0_take_47 : decode cX0_take 47 = .ok (.iadd, 1) := by decide +kernel
theorem dX0_take_48 : decode cX0_take 48 = .ok (.invokevirtual 88, 3) := by decide +kernel
theorem dX0_take_51 : decode cX0_take 51 = .ok (.iload_n 3, 1) := by decide +kernel
theorem dX0_take_52 : decode cX0_take 52 = .ok (.iload 4, 2) := by decide +kernel
theorem dX0_take_54 : decode cX0_take 54 = .ok (.invokevirtual 99, 3) := by decide +kernel
theorem dX0_take_57 : decode cX0_take 57 = .ok (.iinc 4 1, 3) := by decide +kernel
theorem dX0_take_60 : decode cX0_take 60 = .ok (.goto (-31), 3) := by decide +kernel
theorem dX0_take_63 : decode cX0_take 63 = .ok (.aload_n 0, 1) := by decide +kernel
theorem dX0_take_64 : decode cX0_take 64 = .ok (.getfield 30, 3) := by decide +kernel
theorem dX0_take_67 : decode cX0_take 67 = .ok (.iload_n 3, 1) := by decide +kernel
theorem dX0_take_68 : decode cX0_take 68 = .ok (.dup2, 1) := by decide +kernel
theorem dX0_take_69 : decode cX0_take 69 = .ok (.iaload, 1) := by decide +kernel
theorem dX0_take_70 : decode cX0_take 70 = .ok (.iconst 1, 1) := by decide +kernel
theorem dX0_take_71 : decode cX0_take 71 = .ok (.isub, 1) := by decide +kernel
theorem dX0_take_72 : decode cX0_take 72 = .ok (.iastore, 1) := by decide +kernel
theorem dX0_take_73 : decode cX0_take 73 = .ok (.aload_n 0, 1) := by decide +kernel
theorem dX0_take_74 : decode cX0_take 74 = .ok (.getfield 21, 3) := by decide +kernel
theorem dX0_take_77 : decode cX0_take 77 = .ok (.iload_n 1, 1) := by decide +kernel
theorem dX0_take_78 : decode cX0_take 78 = .ok (.iload_n 2, 1) := by decide +kernel
theorem dX0_take_79 : decode cX0_take 79 = .ok (.iastore, 1) := by decide +kernel
theorem dX0_take_80 : decode cX0_take 80 = .ok (.return_, 1) := by decide +kernel
theorem dX0_changePlaces_0 : decode cX0_changePlaces 0 = .ok (.aload_n 0, 1) := by decide +kernel
theorem dX0_changePlaces_1 : decode cX0_changePlaces 1 = .ok (.iload_n 1, 1) := by decide +kernel
theorem dX0_changePlaces_2 : decode cX0_changePlaces 2 = .ok (.invokevirtual 92, 3) := by decide +kernel
theorem dX0_changePlaces_5 : decode cX0_changePlaces 5 = .ok (.istore_n 3, 1) := by decide +kernel
theorem dX0_changePlaces_6 : decode cX0_changePlaces 6 = .ok (.aload_n 0, 1) := by decide +kernel
theorem dX0_changePlaces_7 : decode cX0_changePlaces 7 = .ok (.iload_n 1, 1) := by decide +kernel
theorem dX0_changePlaces_8 : decode cX0_changePlaces 8 = .ok (.invokevirtual 103, 3) := by decide +kernel
theorem dX0_changePlaces_11 : decode cX0_changePlaces 11 = .ok (.istore 4, 2) := by decide +kernel
theorem dX0_changePlaces_13 : decode cX0_changePlaces 13 = .ok (.aload_n 0, 1) := by decide +kernel
theorem dX0_changePlaces_14 : decode cX0_changePlaces 14 = .ok (.iload_n 1, 1) := by decide +kernel
theorem dX0_changePlaces_15 : decode cX0_changePlaces 15 = .ok (.aload_n 0, 1) := by decide +kernel
theorem dX0_changePlaces_16 : decode cX0_changePlaces 16 = .ok (.iload_n 2, 1) := by decide +kernel
theorem dX0_changePlaces_17 : decode cX0_changePlaces 17 = .ok (.invokevirtual 92, 3) := by decide +kernel
theorem dX0_changePlaces_20 : decode cX0_changePlaces 20 = .ok (.aload_n 0, 1) := by decide +kernel
theorem dX0_changePlaces_21 : decode cX0_changePlaces 21 = .ok (.iload_n 2, 1) := by decide +kernel
theorem dX0_changePlaces_22 : decode cX0_changePlaces 22 = .ok (.invokevirtual 103, 3) := by decide +kernel
theorem dX0_changePlaces_25 : decode cX0_changePlaces 25 = .ok (.invokevirtual 99, 3) := by decide +kernel
theorem dX0_changePlaces_28 : decode cX0_changePlaces 28 = .ok (.aload_n 0, 1) := by decide +kernel
theorem dX0_changePlaces_29 : decode cX0_changePlaces 29 = .ok (.iload_n 2, 1) := by decide +kernel
theorem dX0_changePlaces_30 : decode cX0_changePlaces 30 = .ok (.iload_n 3, 1) := by decide +kernel
theorem dX0_changePlaces_31 : decode cX0_changePlaces 31 = .ok (.iload 4, 2) := by decide +kernel
theorem dX0_changePlaces_33 : decode cX0_changePlaces 33 = .ok (.invokevirtual 99, 3) := by decide +kernel
theorem dX0_changePlaces_36 : decode cX0_changePlaces 36 = .ok (.return_, 1) := by decide +kernel
theorem dX0_place_0 : decode cX0_place 0 = .ok (.aload_n 0, 1) := by decide +kernel
theorem dX0_place_1 : decode cX0_place 1 = .ok (.iload_n 1, 1) := by decide +kernel
theorem dX0_place_2 : decode cX0_place 2 = .ok (.invokevirtual 77, 3) := by decide +kernel
theorem dX0_place_5 : decode cX0_place 5 = .ok (.ifCond .eq 44, 3) := by decide +kernel
theorem dX0_place_8 : decode cX0_place 8 = .ok (.iload_n 2, 1) := by decide +kernel
theorem dX0_place_9 : decode cX0_place 9 = .ok (.invokestatic 81, 3) := by decide +kernel
theorem dX0_place_12 : decode cX0_place 12 = .ok (.ifCond .eq 37, 3) := by decide +kernel
theorem dX0_place_15 : decode cX0_place 15 = .ok (.iload_n 3, 1) := by decide +kernel
theorem dX0_place_16 : decode cX0_place 16 = .ok (.ifCond .lt 33, 3) := by decide +kernel
theorem dX0_place_19 : decode cX0_place 19 = .ok (.iload_n 3, 1) := by decide +kernel
theorem dX0_place_20 : decode cX0_place 20 = .ok (.iconst 5, 1) := by decide +kernel
theorem dX0_place_21 : decode cX0_place 21 = .ok (.if_icmp .ge 28, 3) := by decide +kernel
theorem dX0_place_24 : decode cX0_place 24 = .ok (.aload_n 0, 1) := by decide +kernel
theorem dX0_place_25 : decode cX0_place 25 = .ok (.getfield 27, 3) := by decide +kernel
theorem dX0_place_28 : decode cX0_place 28 = .ok (.iconst 5, 1) := by decide +kernel
theorem dX0_place_29 : decode cX0_place 29 = .ok (.iload_n 2, 1) := by decide +kernel
theorem dX0_place_30 : decode cX0_place 30 = .ok (.imul, 1) := by decide +kernel
theorem dX0_place_31 : decode cX0_place 31 = .ok (.iload_n 3, 1) := by decide +kernel
theorem dX0_place_32 : decode cX0_place 32 = .ok (.iadd, 1) := by decide +kernel
theorem dX0_place_33 : decode cX0_place 33 = .ok (.iload_n 1, 1) := by decide +kernel
theorem dX0_place_34 : decode cX0_place 34 = .ok (.iastore, 1) := by decide +kernel
theorem dX0_place_35 : decode cX0_place 35 = .ok (.aload_n 0, 1) := by decide +kernel
theorem dX0_place_36 : decode cX0_place 36 = .ok (.getfield 21, 3) := by decide +kernel
theorem dX0_place_39 : decode cX0_place 39 = .ok (.iload_n 1, 1) := by decide +kernel
theorem dX0_place_40 : decode cX0_place 40 = .ok (.iload_n 2, 1) := by decide +kernel
theorem dX0_place_41 : decode cX0_place 41 = .ok (.iastore, 1) := by decide +kernel
theorem dX0_place_42 : decode cX0_place 42 = .ok (.aload_n 0, 1) := by decide +kernel
theorem dX0_place_43 : decode cX0_place 43 = .ok (.getfield 24, 3) := by decide +kernel
theorem dX0_place_46 : decode cX0_place 46 = .ok (.iload_n 1, 1) := by decide +kernel
theorem dX0_place_47 : decode cX0_place 47 = .ok (.iload_n 3, 1) := by decide +kernel
theorem dX0_place_48 : decode cX0_place 48 = .ok (.iastore, 1) := by decide +kernel
theorem dX0_place_49 : decode cX0_place 49 = .ok (.return_, 1) := by decide +kernel
theorem dX0_needs_0 : decode cX0_needs 0 = .ok (.aload_n 0, 1) := by decide +kernel
theorem dX0_needs_1 : decode cX0_needs 1 = .ok (.iload_n 1, 1) := by decide +kernel
theorem dX0_needs_2 : decode cX0_needs 2 = .ok (.invokevirtual 106, 3) := by decide +kernel
theorem dX0_needs_5 : decode cX0_needs 5 = .ok (.istore_n 2, 1) := by decide +kernel
theorem dX0_needs_6 : decode cX0_needs 6 = .ok (.bipush 20, 2) := by decide +kernel
theorem dX0_needs_8 : decode cX0_needs 8 = .ok (.iload_n 2, 1) := by decide +kernel
theorem dX0_needs_9 : decode cX0_needs 9 = .ok (.iadd, 1) := by decide +kernel
theorem dX0_needs_10 : decode cX0_needs 10 = .ok (.istore_n 3, 1) := by decide +kernel
theorem dX0_needs_11 : decode cX0_needs 11 = .ok (.iconst 0, 1) := by decide +kernel
theorem dX0_needs_12 : decode cX0_needs 12 = .ok (.aload_n 0, 1) := by decide +kernel
theorem dX0_needs_13 : decode cX0_needs 13 = .ok (.iload_n 1, 1) := by decide +kernel
theorem dX0_needs_14 : decode cX0_needs 14 = .ok (.invokevirtual 109, 3) := by decide +kernel
theorem dX0_needs_17 : decode cX0_needs 17 = .ok (.invokestatic 112, 3) := by decide +kernel
theorem dX0_needs_20 : decode cX0_needs 20 = .ok (.istore 4, 2) := by decide +kernel
theorem dX0_needs_22 : decode cX0_needs 22 = .ok (.aload_n 0, 1) := by decide +kernel
theorem dX0_needs_23 : decode cX0_needs 23 = .ok (.iload_n 1, 1) := by decide +kernel
theorem dX0_needs_24 : decode cX0_needs 24 = .ok (.invokevirtual 117, 3) := by decide +kernel
theorem dX0_needs_27 : decode cX0_needs 27 = .ok (.tableswitch 115 1 6 #[37, 49, 64, 42, 54, 68], 37) := by decide +kernel
theorem dX0_needs_64 : decode cX0_needs 64 = .ok (.iload_n 3, 1) := by decide +kernel
theorem dX0_needs_65 : decode cX0_needs 65 = .ok (.bipush 10, 2) := by decide +kernel
theorem dX0_needs_67 : decode cX0_needs 67 = .ok (.iadd, 1) := by decide +kernel
theorem dX0_needs_68 : decode cX0_needs 68 = .ok (.ireturn, 1) := by decide +kernel
theorem dX0_needs_69 : decode cX0_needs 69 = .ok (.iload_n 3, 1) := by decide +kernel
theorem dX0_needs_70 : decode cX0_needs 70 = .ok (.bipush 10, 2) := by decide +kernel
theorem dX0_needs_72 : decode cX0_needs 72 = .ok (.iadd, 1) := by decide +kernel
theorem dX0_needs_73 : decode cX0_needs 73 = .ok (.iload_n 2, 1) := by decide +kernel
theorem dX0_needs_74 : decode cX0_needs 74 = .ok (.iadd, 1) := by decide +kernel
theorem dX0_needs_75 : decode cX0_needs 75 = .ok (.ireturn, 1) := by decide +kernel
theorem dX0_needs_76 : decode cX0_needs 76 = .ok (.iload_n 3, 1) := by decide +kernel
theorem dX0_needs_77 : decode cX0_needs 77 = .ok (.bipush 8, 2) := by decide +kernel
theorem dX0_needs_79 : decode cX0_needs 79 = .ok (.isub, 1) := by decide +kernel
theorem dX0_needs_80 : decode cX0_needs 80 = .ok (.ireturn, 1) := by decide +kernel
theorem dX0_needs_81 : decode cX0_needs 81 = .ok (.iload_n 3, 1) := by decide +kernel
theorem dX0_needs_82 : decode cX0_needs 82 = .ok (.bipush 8, 2) := by decide +kernel
theorem dX0_needs_84 : decode cX0_needs 84 = .ok (.isub, 1) := by decide +kernel
theorem dX0_needs_85 : decode cX0_needs 85 = .ok (.iconst 2, 1) := by decide +kernel
theorem dX0_needs_86 : decode cX0_needs 86 = .ok (.iload 4, 2) := by decide +kernel
theorem dX0_needs_88 : decode cX0_needs 88 = .ok (.imul, 1) := by decide +kernel
theorem dX0_needs_89 : decode cX0_needs 89 = .ok (.iadd, 1) := by decide +kernel
theorem dX0_needs_90 : decode cX0_needs 90 = .ok (.ireturn, 1) := by decide +kernel
theorem dX0_needs_91 : decode cX0_needs 91 = .ok (.iconst 2, 1) := by decide +kernel
theorem dX0_needs_92 : decode cX0_needs 92 = .ok (.iload_n 3, 1) := by decide +kernel
theorem dX0_needs_93 : decode cX0_needs 93 = .ok (.imul, 1) := by decide +kernel
theorem dX0_needs_94 : decode cX0_needs 94 = .ok (.ireturn, 1) := by decide +kernel
theorem dX0_needs_95 : decode cX0_needs 95 = .ok (.aload_n 0, 1) := by decide +kernel
theorem dX0_needs_96 : decode cX0_needs 96 = .ok (.getfield 46, 3) := by decide +kernel
theorem dX0_needs_99 : decode cX0_needs 99 = .ok (.invokevirtual 120, 3) := by decide +kernel
theorem dX0_needs_102 : decode cX0_needs 102 = .ok (.ifCond .eq 38, 3) := by decide +kernel
theorem dX0_needs_105 : decode cX0_needs 105 = .ok (.iconst 0, 1) := by decide +kernel
theorem dX0_needs_106 : decode cX0_needs 106 = .ok (.aload_n 0, 1) := by decide +kernel
theorem dX0_needs_107 : decode cX0_needs 107 = .ok (.iload_n 1, 1) := by decide +kernel
theorem dX0_needs_108 : decode cX0_needs 108 = .ok (.invokevirtual 103, 3) := by decide +kernel
theorem dX0_needs_111 : decode cX0_needs 111 = .ok (.invokestatic 112, 3) := by decide +kernel
theorem dX0_needs_114 : decode cX0_needs 114 = .ok (.istore 5, 2) := by decide +kernel
theorem dX0_needs_116 : decode cX0_needs 116 = .ok (.aload_n 0, 1) := by decide +kernel
theorem dX0_needs_117 : decode cX0_needs 117 = .ok (.getfield 46, 3) := by decide +kernel
theorem dX0_needs_120 : decode cX0_needs 120 = .ok (.iload_n 2, 1) := by decide +kernel
theorem dX0_needs_121 : decode cX0_needs 121 = .ok (.iload 4, 2) := by decide +kernel
theorem dX0_needs_123 : decode cX0_needs 123 = .ok (.iload 5, 2) := by decide +kernel
theorem dX0_needs_125 : decode cX0_needs 125 = .ok (.aload_n 0, 1) := by decide +kernel
theorem dX0_needs_126 : decode cX0_needs 126 = .ok (.iload_n 1, 1) := by decide +kernel
theorem dX0_needs_127 : decode cX0_needs 127 = .ok (.invokevirtual 92, 3) := by decide +kernel
theorem dX0_needs_130 : decode cX0_needs 130 = .ok (.invokevirtual 124, 3) := by decide +kernel
theorem dX0_needs_133 : decode cX0_needs 133 = .ok (.iconst 1, 1) := by decide +kernel
theorem dX0_needs_134 : decode cX0_needs 134 = .ok (.bipush 99, 2) := by decide +kernel
theorem dX0_needs_136 : decode cX0_needs 136 = .ok (.invokestatic 128, 3) := by decide +kernel
theorem dX0_needs_139 : decode cX0_needs 139 = .ok (.ireturn, 1) := by decide +kernel
theorem dX0_needs_140 : decode cX0_needs 140 = .ok (.iload_n 3, 1) := by decide +kernel
theorem dX0_needs_141 : decode cX0_needs 141 = .ok (.ireturn, 1) := by decide +kernel
theorem dX0_needs_142 : decode cX0_needs 142 = .ok (.iload_n 3, 1) := by decide +kernel
theorem dX0_needs_143 : decode cX0_needs 143 = .ok (.ireturn, 1) := by decide +kernel
theorem dX0_likes_0 : decode cX0_likes 0 = .ok (.aload_n 0, 1) := by decide +kernel
theorem dX0_likes_1 : decode cX0_likes 1 = .ok (.getfield 50, 3) := by decide +kernel
theorem dX0_likes_4 : decode cX0_likes 4 = .ok (.invokevirtual 120, 3) := by decide +kernel
theorem dX0_likes_7 : decode cX0_likes 7 = .ok (.ifCond .ne 9, 3) := by decide +kernel
theorem dX0_likes_10 : decode cX0_likes 10 = .ok (.aload_n 0, 1) := by decide +kernel
theorem dX0_likes_11 : decode cX0_likes 11 = .ok (.iload_n 1, 1) := by decide +kernel
theorem dX0_likes_12 : decode cX0_likes 12 = .ok (.invokevirtual 132, 3) := by decide +kernel
theorem dX0_likes_15 : decode cX0_likes 15 = .ok (.ireturn, 1) := by decide +kernel
theorem dX0_likes_16 : decode cX0_likes 16 = .ok (.aload_n 0, 1) := by decide +kernel
theorem dX0_likes_17 : decode cX0_likes 17 = .ok (.getfield 50, 3) := by decide +kernel
theorem dX0_likes_20 : decode cX0_likes 20 = .ok (.aload_n 0, 1) := by decide +kernel
theorem dX0_likes_21 : decode cX0_likes 21 = .ok (.iload_n 1, 1) := by decide +kernel
theorem dX0_likes_22 : decode cX0_likes 22 = .ok (.invokevirtual 132, 3) := by decide +kernel
theorem dX0_likes_25 : decode cX0_likes 25 = .ok (.aload_n 0, 1) := by decide +kernel
theorem dX0_likes_26 : decode cX0_likes 26 = .ok (.iload_n 1, 1) := by decide +kernel
theorem dX0_likes_27 : decode cX0_likes 27 = .ok (.invokevirtual 117, 3) := by decide +kernel
theorem dX0_likes_30 : decode cX0_likes 30 = .ok (.aload_n 0, 1) := by decide +kernel
theorem dX0_likes_31 : decode cX0_likes 31 = .ok (.iload_n 1, 1) := by decide +kernel
theorem dX0_likes_32 : decode cX0_likes 32 = .ok (.invokevirtual 106, 3) := by decide +kernel
theorem dX0_likes_35 : decode cX0_likes 35 = .ok (.iconst 0, 1) := by decide +kernel
theorem dX0_likes_36 : decode cX0_likes 36 = .ok (.invokevirtual 124, 3) := by decide +kernel
theorem dX0_likes_39 : decode cX0_likes 39 = .ok (.sipush (-999), 3) := by decide +kernel
theorem dX0_likes_42 : decode cX0_likes 42 = .ok (.sipush 999, 3) := by decide +kernel
theorem dX0_likes_45 : decode cX0_likes 45 = .ok (.invokestatic 128, 3) := by decide +kernel
theorem dX0_likes_48 : decode cX0_likes 48 = .ok (.ireturn, 1) := by decide +kernel
theorem dX0_strength_0 : decode cX0_strength 0 = .ok (.aload_n 0, 1) := by decide +kernel
theorem dX0_strength_1 : decode cX0_strength 1 = .ok (.getfield 33, 3) := by decide +kernel
theorem dX0_strength_4 : decode cX0_strength 4 = .ok (.aload_n 0, 1) := by decide +kernel
theorem dX0_strength_5 : decode cX0_strength 5 = .ok (.getfield 37, 3) := by decide +kernel
theorem dX0_strength_8 : decode cX0_strength 8 = .ok (.aload_n 0, 1) := by decide +kernel
theorem dX0_strength_9 : decode cX0_strength 9 = .ok (.getfield 62, 3) := by decide +kernel
theorem dX0_strength_12 : decode cX0_strength 12 = .ok (.invokestatic 135, 3) := by decide +kernel
theorem dX0_strength_15 : decode cX0_strength 15 = .ok (.ireturn, 1) := by decide +kernel
theorem dX0_nearer_0 : decode cX0_nearer 0 = .ok (.iload_n 0, 1) := by decide +kernel
theorem dX0_nearer_1 : decode cX0_nearer 1 = .ok (.iconst 4, 1) := by decide +kernel
theorem dX0_nearer_2 : decode cX0_nearer 2 = .ok (.irem, 1) := by decide +kernel
theorem dX0_nearer_3 : decode cX0_nearer 3 = .ok (.ifCond .eq 9, 3) := by decide +kernel
theorem dX0_nearer_6 : decode cX0_nearer 6 = .ok (.iload_n 0, 1) := by decide +kernel
theorem dX0_nearer_7 : decode cX0_nearer 7 = .ok (.iconst 1, 1) := by decide +kernel
theorem dX0_nearer_8 : decode cX0_nearer 8 = .ok (.isub, 1) := by decide +kernel
theorem dX0_nearer_9 : decode cX0_nearer 9 = .ok (.goto 6, 3) := by decide +kernel
theorem dX0_nearer_12 : decode cX0_nearer 12 = .ok (.iload_n 0, 1) := by decide +kernel
theorem dX0_nearer_13 : decode cX0_nearer 13 = .ok (.iconst 4, 1) := by decide +kernel
theorem dX0_nearer_14 : decode cX0_nearer 14 = .ok (.isub, 1) := by decide +kernel
theorem dX0_nearer_15 : decode cX0_nearer 15 = .ok (.ireturn, 1) := by decide +kernel
theorem dX0_does_0 : decode cX0_does 0 = .ok (.aload_n 0, 1) := by decide +kernel
theorem dX0_does_1 : decode cX0_does 1 = .ok (.iload_n 1, 1) := by decide +kernel
theorem dX0_does_2 : decode cX0_does 2 = .ok (.invokevirtual 138, 3) := by decide +kernel
theorem dX0_does_5 : decode cX0_does 5 = .ok (.istore_n 2, 1) := by decide +kernel
theorem dX0_does_6 : decode cX0_does 6 = .ok (.iload_n 2, 1) := by decide +kernel
theorem dX0_does_7 : decode cX0_does 7 = .ok (.ifCond .ge 5, 3) := by decide +kernel
theorem dX0_does_10 : decode cX0_does 10 = .ok (.iconst 0, 1) := by decide +kernel
theorem dX0_does_11 : decode cX0_does 11 = .ok (.ireturn, 1) := by decide +kernel
theorem dX0_does_12 : decode cX0_does 12 = .ok (.aload_n 0, 1) := by decide +kernel
theorem dX0_does_13 : decode cX0_does 13 = .ok (.invokevirtual 141, 3) := by decide +kernel
theorem dX0_does_16 : decode cX0_does 16 = .ok (.aload_n 0, 1) := by decide +kernel
theorem dX0_does_17 : decode cX0_does 17 = .ok (.iload_n 2, 1) := by decide +kernel
theorem dX0_does_18 : decode cX0_does 18 = .ok (.invokevirtual 145, 3) := by decide +kernel
theorem dX0_does_21 : decode cX0_does 21 = .ok (.invokestatic 148, 3) := by decide +kernel
theorem dX0_does_24 : decode cX0_does 24 = .ok (.istore_n 3, 1) := by decide +kernel
theorem dX0_does_25 : decode cX0_does 25 = .ok (.iload_n 3, 1) := by decide +kernel
theorem dX0_does_26 : decode cX0_does 26 = .ok (.iconst 1, 1) := by decide +kernel
theorem dX0_does_27 : decode cX0_does 27 = .ok (.if_icmp .eq 14, 3) := by decide +kernel
theorem dX0_does_30 : decode cX0_does 30 = .ok (.iload_n 3, 1) := by decide +kernel
theorem dX0_does_31 : decode cX0_does 31 = .ok (.iconst 2, 1) := by decide +kernel
theorem dX0_does_32 : decode cX0_does 32 = .ok (.if_icmp .ne 7, 3) := by decide +kernel
theorem dX0_does_35 : decode cX0_does 35 = .ok (.iconst 2, 1) := by decide +kernel
theorem dX0_does_36 : decode cX0_does 36 = .ok (.goto 4, 3) := by decide +kernel
theorem dX0_does_39 : decode cX0_does 39 = .ok (.iconst 0, 1) := by decide +kernel
theorem dX0_does_40 : decode cX0_does 40 = .ok (.ireturn, 1) := by decide +kernel
theorem dX0_does_41 : decode cX0_does 41 = .ok (.iload_n 1, 1) := by decide +kernel
theorem dX0_does_42 : decode cX0_does 42 = .ok (.invokestatic 151, 3) := by decide +kernel
theorem dX0_does_45 : decode cX0_does 45 = .ok (.istore 4, 2) := by decide +kernel
theorem dX0_does_47 : decode cX0_does 47 = .ok (.iload 4, 2) := by decide +kernel
theorem dX0_does_49 : decode cX0_does 49 = .ok (.ifCond .ne 5, 3) := by decide +kernel
theorem dX0_does_52 : decode cX0_does 52 = .ok (.iconst 2, 1) := by decide +kernel
theorem dX0_does_53 : decode cX0_does 53 = .ok (.ireturn, 1) := by decide +kernel
theorem dX0_does_54 : decode cX0_does 54 = .ok (.aload_n 0, 1) := by decide +kernel
theorem dX0_does_55 : decode cX0_does 55 = .ok (.iload 4, 2) := by decide +kernel
theorem dX0_does_57 : decode cX0_does 57 = .ok (.invokevirtual 84, 3) := by decide +kernel
theorem dX0_does_60 : decode cX0_does 60 = .ok (.iconst 5, 1) := by decide +kernel
theorem dX0_does_61 : decode cX0_does 61 = .ok (.if_icmp .lt 7, 3) := by decide +kernel
theorem dX0_does_64 : decode cX0_does 64 = .ok (.iconst 3, 1) := by decide +kernel
theorem dX0_does_65 : decode cX0_does 65 = .ok (.goto 4, 3) := by decide +kernel
theorem dX0_does_68 : decode cX0_does 68 = .ok (.iconst 1, 1) := by decide +kernel
theorem dX0_does_69 : decode cX0_does 69 = .ok (.ireturn, 1) := by decide +kernel
theorem dX0_grip_0 : decode cX0_grip 0 = .ok (.aload_n 0, 1) := by decide +kernel
theorem dX0_grip_1 : decode cX0_grip 1 = .ok (.iload_n 1, 1) := by decide +kernel
theorem dX0_grip_2 : decode cX0_grip 2 = .ok (.invokevirtual 154, 3) := by decide +kernel
theorem dX0_grip_5 : decode cX0_grip 5 = .ok (.istore_n 2, 1) := by decide +kernel
theorem dX0_grip_6 : decode cX0_grip 6 = .ok (.aload_n 0, 1) := by decide +kernel
theorem dX0_grip_7 : decode cX0_grip 7 = .ok (.aload_n 0, 1) := by decide +kernel
theorem dX0_grip_8 : decode cX0_grip 8 = .ok (.iload_n 1, 1) := by decide +kernel
theorem dX0_grip_9 : decode cX0_grip 9 = .ok (.invokevirtual 138, 3) := by decide +kernel
theorem dX0_grip_12 : decode cX0_grip 12 = .ok (.putfield 43, 3) := by decide +kernel
theorem dX0_grip_15 : decode cX0_grip 15 = .ok (.iload_n 2, 1) := by decide +kernel
theorem dX0_grip_16 : decode cX0_grip 16 = .ok (.iconst 2, 1) := by decide +kernel
theorem dX0_grip_17 : decode cX0_grip 17 = .ok (.if_icmp .ne 15, 3) := by decide +kernel
theorem dX0_grip_20 : decode cX0_grip 20 = .ok (.aload_n 0, 1) := by decide +kernel
theorem dX0_grip_21 : decode cX0_grip 21 = .ok (.aload_n 0, 1) := by decide +kernel
theorem dX0_grip_22 : decode cX0_grip 22 = .ok (.getfield 43, 3) := by decide +kernel
theorem dX0_grip_25 : decode cX0_grip 25 = .ok (.iconst (-1), 1) := by decide +kernel
theorem dX0_grip_26 : decode cX0_grip 26 = .ok (.invokevirtual 157, 3) := by decide +kernel
theorem dX0_grip_29 : decode cX0_grip 29 = .ok (.goto 30, 3) := by decide +kernel
theorem dX0_grip_32 : decode cX0_grip 32 = .ok (.iload_n 2, 1) := by decide +kernel
theorem dX0_grip_33 : decode cX0_grip 33 = .ok (.iconst 1, 1) := by decide +kernel
theorem dX0_grip_34 : decode cX0_grip 34 = .ok (.if_icmp .ne 25, 3) := by decide +kernel
theorem dX0_grip_37 : decode cX0_grip 37 = .ok (.aload_n 0, 1) := by decide +kernel
theorem dX0_grip_38 : decode cX0_grip 38 = .ok (.aload_n 0, 1) := by decide +kernel
theorem dX0_grip_39 : decode cX0_grip 39 = .ok (.getfield 43, 3) := by decide +kernel
theorem dX0_grip_42 : decode cX0_grip 42 = .ok (.bipush (-2), 2) := by decide +kernel
theorem dX0_grip_44 : decode cX0_grip 44 = .ok (.invokevirtual 157, 3) := by decide +kernel
theorem dX0_grip_47 : decode cX0_grip 47 = .ok (.aload_n 0, 1) := by decide +kernel
theorem dX0_grip_48 : decode cX0_grip 48 = .ok (.aload_n 0, 1) := by decide +kernel
theorem dX0_grip_49 : decode cX0_grip 49 = .ok (.getfield 43, 3) := by decide +kernel
theorem dX0_grip_52 : decode cX0_grip 52 = .ok (.iload_n 1, 1) := by decide +kernel
theorem dX0_grip_53 : decode cX0_grip 53 = .ok (.invokestatic 151, 3) := by decide +kernel
theorem dX0_grip_56 : decode cX0_grip 56 = .ok (.invokevirtual 95, 3) := by decide +kernel
theorem dX0_grip_59 : decode cX0_grip 59 = .ok (.aload_n 0, 1) := by decide +kernel
theorem dX0_grip_60 : decode cX0_grip 60 = .ok (.ldc 160, 2) := by decide +kernel
theorem dX0_grip_62 : decode cX0_grip 62 = .ok (.aload_n 0, 1) := by decide +kernel
theorem dX0_grip_63 : decode cX0_grip 63 = .ok (.getfield 65, 3) := by decide +kernel
theorem dX0_grip_66 : decode cX0_grip 66 = .ok (.iconst 1, 1) := by decide +kernel
theorem dX0_grip_67 : decode cX0_grip 67 = .ok (.iadd, 1) := by decide +kernel
theorem dX0_grip_68 : decode cX0_grip 68 = .ok (.invokestatic 161, 3) := by decide +kernel
theorem dX0_grip_71 : decode cX0_grip 71 = .ok (.putfield 65, 3) := by decide +kernel
theorem dX0_grip_74 : decode cX0_grip 74 = .ok (.aload_n 0, 1) := by decide +kernel
theorem dX0_grip_75 : decode cX0_grip 75 = .ok (.sipush 9999, 3) := by decide +kernel
theorem dX0_grip_78 : decode cX0_grip 78 = .ok (.aload_n 0, 1) := by decide +kernel
theorem dX0_grip_79 : decode cX0_grip 79 = .ok (.getfield 62, 3) := by decide +kernel
theorem dX0_grip_82 : decode cX0_grip 82 = .ok (.iconst 1, 1) := by decide +kernel
theorem dX0_grip_83 : decode cX0_grip 83 = .ok (.iadd, 1) := by decide +kernel
theorem dX0_grip_84 : decode cX0_grip 84 = .ok (.invokestatic 161, 3) := by decide +kernel
theorem dX0_grip_87 : decode cX0_grip 87 = .ok (.putfield 62, 3) := by decide +kernel
theorem dX0_grip_90 : decode cX0_grip 90 = .ok (.iload_n 2, 1) := by decide +kernel
theorem dX0_grip_91 : decode cX0_grip 91 = .ok (.ireturn, 1) := by decide +kernel
theorem dX0_takeBack_0 : decode cX0_takeBack 0 = .ok (.iload_n 2, 1) := by decide +kernel
theorem dX0_takeBack_1 : decode cX0_takeBack 1 = .ok (.iconst 1, 1) := by decide +kernel
theorem dX0_takeBack_2 : decode cX0_takeBack 2 = .ok (.if_icmp .ne 10, 3) := by decide +kernel
theorem dX0_takeBack_5 : decode cX0_takeBack 5 = .ok (.aload_n 0, 1) := by decide +kernel
theorem dX0_takeBack_6 : decode cX0_takeBack 6 = .ok (.iload_n 3, 1) := by decide +kernel
theorem dX0_takeBack_7 : decode cX0_takeBack 7 = .ok (.bipush (-2), 2) := by decide +kernel
theorem dX0_takeBack_9 : decode cX0_takeBack 9 = .ok (.invokevirtual 157, 3) := by decide +kernel
theorem dX0_takeBack_12 : decode cX0_takeBack 12 = .ok (.iload_n 2, 1) := by decide +kernel
theorem dX0_takeBack_13 : decode cX0_takeBack 13 = .ok (.iconst 1, 1) := by decide +kernel
theorem dX0_takeBack_14 : decode cX0_takeBack 14 = .ok (.if_icmp .eq 8, 3) := by decide +kernel
theorem dX0_takeBack_17 : decode cX0_takeBack 17 = .ok (.iload_n 2, 1) := by decide +kernel
theorem dX0_takeBack_18 : decode cX0_takeBack 18 = .ok (.iconst 2, 1) := by decide +kernel
theorem dX0_takeBack_19 : decode cX0_takeBack 19 = .ok (.if_icmp .ne 9, 3) := by decide +kernel
theorem dX0_takeBack_22 : decode cX0_takeBack 22 = .ok (.aload_n 0, 1) := by decide +kernel
theorem dX0_takeBack_23 : decode cX0_takeBack 23 = .ok (.iload_n 3, 1) := by decide +kernel
theorem dX0_takeBack_24 : decode cX0_takeBack 24 = .ok (.iload_n 1, 1) := by decide +kernel
theorem dX0_takeBack_25 : decode cX0_takeBack 25 = .ok (.invokevirtual 95, 3) := by decide +kernel
theorem dX0_takeBack_28 : decode cX0_takeBack 28 = .ok (.aload_n 0, 1) := by decide +kernel
theorem dX0_takeBack_29 : decode cX0_takeBack 29 = .ok (.iload 4, 2) := by decide +kernel
theorem dX0_takeBack_31 : decode cX0_takeBack 31 = .ok (.putfield 62, 3) := by decide +kernel
theorem dX0_takeBack_34 : decode cX0_takeBack 34 = .ok (.return_, 1) := by decide +kernel
theorem dX0_draw_0 : decode cX0_draw 0 = .ok (.aload_n 0, 1) := by decide +kernel
theorem dX0_draw_1 : decode cX0_draw 1 = .ok (.aload_n 0, 1) := by decide +kernel
theorem dX0_draw_2 : decode cX0_draw 2 = .ok (.getfield 40, 3) := by decide +kernel
theorem dX0_draw_5 : decode cX0_draw 5 = .ok (.ldc 164, 2) := by decide +kernel
theorem dX0_draw_7 : decode cX0_draw 7 = .ok (.imul, 1) := by decide +kernel
theorem dX0_draw_8 : decode cX0_draw 8 = .ok (.sipush 12345, 3) := by decide +kernel
theorem dX0_draw_11 : decode cX0_draw 11 = .ok (.iadd, 1) := by decide +kernel
theorem dX0_draw_12 : decode cX0_draw 12 = .ok (.putfield 40, 3) := by decide +kernel
theorem dX0_draw_15 : decode cX0_draw 15 = .ok (.aload_n 0, 1) := by decide +kernel
theorem dX0_draw_16 : decode cX0_draw 16 = .ok (.getfield 40, 3) := by decide +kernel
theorem dX0_draw_19 : decode cX0_draw 19 = .ok (.bipush 8, 2) := by decide +kernel
theorem dX0_draw_21 : decode cX0_draw 21 = .ok (.iushr, 1) := by decide +kernel
theorem dX0_draw_22 : decode cX0_draw 22 = .ok (.ireturn, 1) := by decide +kernel
theorem dX0_howManyWon_0 : decode cX0_howManyWon 0 = .ok (.iconst 0, 1) := by decide +kernel
theorem dX0_howManyWon_1 : decode cX0_howManyWon 1 = .ok (.istore_n 1, 1) := by decide +kernel
theorem dX0_howManyWon_2 : decode cX0_howManyWon 2 = .ok (.iconst 0, 1) := by decide +kernel
theorem dX0_howManyWon_3 : decode cX0_howManyWon 3 = .ok (.istore_n 2, 1) := by decide +kernel
theorem dX0_howManyWon_4 : decode cX0_howManyWon 4 = .ok (.iload_n 2, 1) := by decide +kernel
theorem dX0_howManyWon_5 : decode cX0_howManyWon 5 = .ok (.aload_n 0, 1) := by decide +kernel
theorem dX0_howManyWon_6 : decode cX0_howManyWon 6 = .ok (.getfield 59, 3) := by decide +kernel
theorem dX0_howManyWon_9 : decode cX0_howManyWon 9 = .ok (.if_icmp .ge 21, 3) := by decide +kernel
theorem dX0_howManyWon_12 : decode cX0_howManyWon 12 = .ok (.aload_n 0, 1) := by decide +kernel
theorem dX0_howManyWon_13 : decode cX0_howManyWon 13 = .ok (.iload_n 2, 1) := by decide +kernel
theorem dX0_howManyWon_14 : decode cX0_howManyWon 14 = .ok (.invokevirtual 92, 3) := by decide +kernel
theorem dX0_howManyWon_17 : decode cX0_howManyWon 17 = .ok (.iconst (-1), 1) := by decide +kernel
theorem dX0_howManyWon_18 : decode cX0_howManyWon 18 = .ok (.if_icmp .ne 6, 3) := by decide +kernel
theorem dX0_howManyWon_21 : decode cX0_howManyWon 21 = .ok (.iinc 1 1, 3) := by decide +kernel
theorem dX0_howManyWon_24 : decode cX0_howManyWon 24 = .ok (.iinc 2 1, 3) := by decide +kernel
theorem dX0_howManyWon_27 : decode cX0_howManyWon 27 = .ok (.goto (-23), 3) := by decide +kernel
theorem dX0_howManyWon_30 : decode cX0_howManyWon 30 = .ok (.iload_n 1, 1) := by decide +kernel
theorem dX0_howManyWon_31 : decode cX0_howManyWon 31 = .ok (.ireturn, 1) := by decide +kernel
theorem dX0_worthOfWon_0 : decode cX0_worthOfWon 0 = .ok (.iconst 0, 1) := by decide +kernel
theorem dX0_worthOfWon_1 : decode cX0_worthOfWon 1 = .ok (.istore_n 1, 1) := by decide +kernel
theorem dX0_worthOfWon_2 : decode cX0_worthOfWon 2 = .ok (.iconst 0, 1) := by decide +kernel
theorem dX0_worthOfWon_3 : decode cX0_worthOfWon 3 = .ok (.istore_n 2, 1) := by decide +kernel
theorem dX0_worthOfWon_4 : decode cX0_worthOfWon 4 = .ok (.iload_n 2, 1) := by decide +kernel
theorem dX0_worthOfWon_5 : decode cX0_worthOfWon 5 = .ok (.aload_n 0, 1) := by decide +kernel
theorem dX0_worthOfWon_6 : decode cX0_worthOfWon 6 = .ok (.getfield 59, 3) := by decide +kernel
theorem dX0_worthOfWon_9 : decode cX0_worthOfWon 9 = .ok (.if_icmp .ge 26, 3) := by decide +kernel
theorem dX0_worthOfWon_12 : decode cX0_worthOfWon 12 = .ok (.aload_n 0, 1) := by decide +kernel
theorem dX0_worthOfWon_13 : decode cX0_worthOfWon 13 = .ok (.iload_n 2, 1) := by decide +kernel
theorem dX0_worthOfWon_14 : decode cX0_worthOfWon 14 = .ok (.invokevirtual 92, 3) := by decide +kernel
theorem dX0_worthOfWon_17 : decode cX0_worthOfWon 17 = .ok (.iconst (-1), 1) := by decide +kernel
theorem dX0_worthOfWon_18 : decode cX0_worthOfWon 18 = .ok (.if_icmp .ne 11, 3) := by decide +kernel
theorem dX0_worthOfWon_21 : decode cX0_worthOfWon 21 = .ok (.iload_n 1, 1) := by decide +kernel
theorem dX0_worthOfWon_22 : decode cX0_worthOfWon 22 = .ok (.aload_n 0, 1) := by decide +kernel
theorem dX0_worthOfWon_23 : decode cX0_worthOfWon 23 = .ok (.iload_n 2, 1) := by decide +kernel
theorem dX0_worthOfWon_24 : decode cX0_worthOfWon 24 = .ok (.invokevirtual 132, 3) := by decide +kernel
theorem dX0_worthOfWon_27 : decode cX0_worthOfWon 27 = .ok (.iadd, 1) := by decide +kernel
theorem dX0_worthOfWon_28 : decode cX0_worthOfWon 28 = .ok (.istore_n 1, 1) := by decide +kernel
theorem dX0_worthOfWon_29 : decode cX0_worthOfWon 29 = .ok (.iinc 2 1, 3) := by decide +kernel
theorem dX0_worthOfWon_32 : decode cX0_worthOfWon 32 = .ok (.goto (-28), 3) := by decide +kernel
theorem dX0_worthOfWon_35 : decode cX0_worthOfWon 35 = .ok (.iload_n 1, 1) := by decide +kernel
theorem dX0_worthOfWon_36 : decode cX0_worthOfWon 36 = .ok (.ireturn, 1) := by decide +kernel
theorem dX1_init_0 : decode cX1_init 0 = .ok (.aload_n 0, 1) := by decide +kernel
theorem dX1_init_1 : decode cX1_init 1 = .ok (.invokespecial 3, 3) := by decide +kernel
theorem dX1_init_4 : decode cX1_init 4 = .ok (.aload_n 0, 1) := by decide +kernel
theorem dX1_init_5 : decode cX1_init 5 = .ok (.new 9, 3) := by decide +kernel
theorem dX1_init_8 : decode cX1_init 8 = .ok (.dup, 1) := by decide +kernel
theorem dX1_init_9 : decode cX1_init 9 = .ok (.iconst 0, 1) := by decide +kernel
theorem dX1_init_10 : decode cX1_init 10 = .ok (.invokespecial 11, 3) := by decide +kernel
theorem dX1_init_13 : decode cX1_init 13 = .ok (.putfield 14, 3) := by decide +kernel
theorem dX1_init_16 : decode cX1_init 16 = .ok (.aload_n 0, 1) := by decide +kernel
theorem dX1_init_17 : decode cX1_init 17 = .ok (.ldc 20, 2) := by decide +kernel
theorem dX1_init_19 : decode cX1_init 19 = .ok (.putfield 22, 3) := by decide +kernel
theorem dX1_init_22 : decode cX1_init 22 = .ok (.aload_n 0, 1) := by decide +kernel
theorem dX1_init_23 : decode cX1_init 23 = .ok (.new 26, 3) := by decide +kernel
theorem dX1_init_26 : decode cX1_init 26 = .ok (.dup, 1) := by decide +kernel
theorem dX1_init_27 : decode cX1_init 27 = .ok (.invokespecial 28, 3) := by decide +kernel
theorem dX1_init_30 : decode cX1_init 30 = .ok (.putfield 29, 3) := by decide +kernel
theorem dX1_init_33 : decode cX1_init 33 = .ok (.return_, 1) := by decide +kernel
theorem dX1_read_0 : decode cX1_read 0 = .ok (.aload_n 0, 1) := by decide +kernel
theorem dX1_read_1 : decode cX1_read 1 = .ok (.aload_n 1, 1) := by decide +kernel
theorem dX1_read_2 : decode cX1_read 2 = .ok (.putfield 14, 3) := by decide +kernel
theorem dX1_read_5 : decode cX1_read 5 = .ok (.aload_n 0, 1) := by decide +kernel
theorem dX1_read_6 : decode cX1_read 6 = .ok (.aload_n 2, 1) := by decide +kernel
theorem dX1_read_7 : decode cX1_read 7 = .ok (.putfield 22, 3) := by decide +kernel
theorem dX1_read_10 : decode cX1_read 10 = .ok (.aload_n 0, 1) := by decide +kernel
theorem dX1_read_11 : decode cX1_read 11 = .ok (.aload_n 3, 1) := by decide +kernel
theorem dX1_read_12 : decode cX1_read 12 = .ok (.putfield 29, 3) := by decide +kernel
theorem dX1_read_15 : decode cX1_read 15 = .ok (.aload_n 0, 1) := by decide +kernel
theorem dX1_read_16 : decode cX1_read 16 = .ok (.getfield 29, 3) := by decide +kernel
theorem dX1_read_19 : decode cX1_read 19 = .ok (.invokevirtual 33, 3) := by decide +kernel
theorem dX1_read_22 : decode cX1_read 22 = .ok (.aload_n 0, 1) := by decide +kernel
theorem dX1_read_23 : decode cX1_read 23 = .ok (.iconst 0, 1) := by decide +kernel
theorem dX1_read_24 : decode cX1_read 24 = .ok (.putfield 36, 3) := by decide +kernel
theorem dX1_read_27 : decode cX1_read 27 = .ok (.aload_n 0, 1) := by decide +kernel
theorem dX1_read_28 : decode cX1_read 28 = .ok (.iconst 0, 1) := by decide +kernel
theorem dX1_read_29 : decode cX1_read 29 = .ok (.putfield 40, 3) := by decide +kernel
theorem dX1_read_32 : decode cX1_read 32 = .ok (.aload_n 0, 1) := by decide +kernel
theorem dX1_read_33 : decode cX1_read 33 = .ok (.iconst 0, 1) := by decide +kernel
theorem dX1_read_34 : decode cX1_read 34 = .ok (.invokevirtual 44, 3) := by decide +kernel
theorem dX1_read_37 : decode cX1_read 37 = .ok (.aload_n 0, 1) := by decide +kernel
theorem dX1_read_38 : decode cX1_read 38 = .ok (.getfield 40, 3) := by decide +kernel
theorem dX1_read_41 : decode cX1_read 41 = .ok (.ifCond .ne 17, 3) := by decide +kernel
theorem dX1_read_44 : decode cX1_read 44 = .ok (.aload_n 0, 1) := by decide +kernel
theorem dX1_read_45 : decode cX1_read 45 = .ok (.getfield 36, 3) := by decide +kernel
theorem dX1_read_48 : decode cX1_read 48 = .ok (.aload_n 0, 1) := by decide +kernel
theorem dX1_read_49 : decode cX1_read 49 = .ok (.getfield 14, 3) := by decide +kernel
theorem dX1_read_52 : decode cX1_read 52 = .ok (.getfield 47, 3) := by decide +kernel
theorem dX1_read_55 : decode cX1_read 55 = .ok (.if_icmp .ge 10, 3) := by decide +kernel
theorem dX1_read_58 : decode cX1_read 58 = .ok (.aload_n 0, 1) := by decide +kernel
theorem dX1_read_59 : decode cX1_read 59 = .ok (.getfield 36, 3) := by decide +kernel
theorem dX1_read_62 : decode cX1_read 62 = .ok (.goto 4, 3) := by decide +kernel
theorem dX1_read_65 : decode cX1_read 65 = .ok (.iconst (-1), 1) := by decide +kernel
theorem dX1_read_66 : decode cX1_read 66 = .ok (.ireturn, 1) := by decide +kernel
theorem dX1_isNext_0 : decode cX1_isNext 0 = .ok (.aload_n 0, 1) := by decide +kernel
theorem dX1_isNext_1 : decode cX1_isNext 1 = .ok (.getfield 40, 3) := by decide +kernel
theorem dX1_isNext_4 : decode cX1_isNext 4 = .ok (.ifCond .ne 36, 3) := by decide +kernel
theorem dX1_isNext_7 : decode cX1_isNext 7 = .ok (.aload_n 0, 1) := by decide +kernel
theorem dX1_isNext_8 : decode cX1_isNext 8 = .ok (.getfield 36, 3) := by decide +kernel
theorem dX1_isNext_11 : decode cX1_isNext 11 = .ok (.aload_n 0, 1) := by decide +kernel
theorem dX1_isNext_12 : decode cX1_isNext 12 = .ok (.getfield 14, 3) := by decide +kernel
theorem dX1_isNext_15 : decode cX1_isNext 15 = .ok (.getfield 47, 3) := by decide +kernel
theorem dX1_isNext_18 : decode cX1_isNext 18 = .ok (.if_icmp .ge 22, 3) := by decide +kernel
theorem dX1_isNext_21 : decode cX1_isNext 21 = .ok (.aload_n 0, 1) := by decide +kernel
theorem dX1_isNext_22 : decode cX1_isNext 22 = .ok (.getfield 14, 3) := by decide +kernel
theorem dX1_isNext_25 : decode cX1_isNext 25 = .ok (.aload_n 0, 1) := by decide +kernel
theorem dX1_isNext_26 : decode cX1_isNext 26 = .ok (.getfield 36, 3) := by decide +kernel
theorem dX1_isNext_29 : decode cX1_isNext 29 = .ok (.invokevirtual 50, 3) := by decide +kernel
theorem dX1_isNext_32 : decode cX1_isNext 32 = .ok (.iload_n 1, 1) := by decide +kernel
theorem dX1_isNext_33 : decode cX1_isNext 33 = .ok (.if_icmp .ne 7, 3) := by decide +kernel
theorem dX1_isNext_36 : decode cX1_isNext 36 = .ok (.iconst 1, 1) := by decide +kernel
theorem dX1_isNext_37 : decode cX1_isNext 37 = .ok (.goto 4, 3) := by decide +kernel
theorem dX1_isNext_40 : decode cX1_isNext 40 = .ok (.iconst 0, 1) := by decide +kernel
theorem dX1_isNext_41 : decode cX1_isNext 41 = .ok (.ireturn, 1) := by decide +kernel
theorem dX1_readAny_0 : decode cX1_readAny 0 = .ok (.aload_n 0, 1) := by decide +kernel
theorem dX1_readAny_1 : decode cX1_readAny 1 = .ok (.iload_n 1, 1) := by decide +kernel
theorem dX1_readAny_2 : decode cX1_readAny 2 = .ok (.invokevirtual 53, 3) := by decide +kernel
theorem dX1_readAny_5 : decode cX1_readAny 5 = .ok (.iconst 0, 1) := by decide +kernel
theorem dX1_readAny_6 : decode cX1_readAny 6 = .ok (.istore_n 2, 1) := by decide +kernel
theorem dX1_readAny_7 : decode cX1_readAny 7 = .ok (.iload_n 2, 1) := by decide +kernel
theorem dX1_readAny_8 : decode cX1_readAny 8 = .ok (.bipush 60, 2) := by decide +kernel
theorem dX1_readAny_10 : decode cX1_readAny 10 = .ok (.if_icmp .ge 42, 3) := by decide +kernel
theorem dX1_readAny_13 : decode cX1_readAny 13 = .ok (.aload_n 0, 1) := by decide +kernel
theorem dX1_readAny_14 : decode cX1_readAny 14 = .ok (.bipush 124, 2) := by decide +kernel
theorem dX1_readAny_16 : decode cX1_readAny 16 = .ok (.invokevirtual 56, 3) := by decide +kernel
theorem dX1_readAny_19 : decode cX1_readAny 19 = .ok (.ifCond .eq 33, 3) := by decide +kernel
theorem dX1_readAny_22 : decode cX1_readAny 22 = .ok (.aload_n 0, 1) := by decide +kernel
theorem dX1_readAny_23 : decode cX1_readAny 23 = .ok (.dup, 1) := by decide +kernel
theorem dX1_readAny_24 : decode cX1_readAny 24 = .ok (.getfield 36, 3) := by decide +kernel
theorem dX1_readAny_27 : decode cX1_readAny 27 = .ok (.iconst 1, 1) := by decide +kernel
theorem dX1_readAny_28 : decode cX1_readAny 28 = .ok (.iadd, 1) := by decide +kernel
theorem dX1_readAny_29 : decode cX1_readAny 29 = .ok (.putfield 36, 3) := by decide +kernel
theorem dX1_readAny_32 : decode cX1_readAny 32 = .ok (.aload_n 0, 1) := by decide +kernel
theorem dX1_readAny_33 : decode cX1_readAny 33 = .ok (.iload_n 1, 1) := by decide +kernel
theorem dX1_readAny_34 : decode cX1_readAny 34 = .ok (.invokevirtual 53, 3) := by decide +kernel
theorem dX1_readAny_37 : decode cX1_readAny 37 = .ok (.aload_n 0, 1) := by decide +kernel
theorem dX1_readAny_38 : decode cX1_readAny 38 = .ok (.getfield 29, 3) := by decide +kernel
theorem dX1_readAny_41 : decode cX1_readAny 41 = .ok (.bipush 124, 2) := by decide +kernel
theorem dX1_readAny_43 : decode cX1_readAny 43 = .ok (.invokevirtual 60, 3) := by decide +kernel
theorem dX1_readAny_46 : decode cX1_readAny 46 = .ok (.iinc 2 1, 3) := by decide +kernel
theorem dX1_readAny_49 : decode cX1_readAny 49 = .ok (.goto (-42), 3) := by decide +kernel
theorem dX1_readAny_52 : decode cX1_readAny 52 = .ok (.return_, 1) := by decide +kernel
theorem dX1_readAll_0 : decode cX1_readAll 0 = .ok (.aload_n 0, 1) := by decide +kernel
theorem dX1_readAll_1 : decode cX1_readAll 1 = .ok (.iload_n 1, 1) := by decide +kernel
theorem dX1_readAll_2 : decode cX1_readAll 2 = .ok (.invokevirtual 63, 3) := by decide +kernel
theorem dX1_readAll_5 : decode cX1_readAll 5 = .ok (.iconst 0, 1) := by decide +kernel
theorem dX1_readAll_6 : decode cX1_readAll 6 = .ok (.istore_n 2, 1) := by decide +kernel
theorem dX1_readAll_7 : decode cX1_readAll 7 = .ok (.iload_n 2, 1) := by decide +kernel
theorem dX1_readAll_8 : decode cX1_readAll 8 = .ok (.bipush 60, 2) := by decide +kernel
theorem dX1_readAll_10 : decode cX1_readAll 10 = .ok (.if_icmp .ge 42, 3) := by decide +kernel
theorem dX1_readAll_13 : decode cX1_readAll 13 = .ok (.aload_n 0, 1) := by decide +kernel
theorem dX1_readAll_14 : decode cX1_readAll 14 = .ok (.bipush 38, 2) := by decide +kernel
theorem dX1_readAll_16 : decode cX1_readAll 16 = .ok (.invokevirtual 56, 3) := by decide +kernel
theorem dX1_readAll_19 : decode cX1_readAll 19 = .ok (.ifCond .eq 33, 3) := by decide +kernel
theorem dX1_readAll_22 : decode cX1_readAll 22 = .ok (.aload_n 0, 1) := by decide +kernel
theorem dX1_readAll_23 : decode cX1_readAll 23 = .ok (.dup, 1) := by decide +kernel
theorem dX1_readAll_24 : decode cX1_readAll 24 = .ok (.getfield 36, 3) := by decide +kernel
theorem dX1_readAll_27 : decode cX1_readAll 27 = .ok (.iconst 1, 1) := by decide +kernel
theorem dX1_readAll_28 : decode cX1_readAll 28 = .ok (.iadd, 1) := by decide +kernel
theorem dX1_readAll_29 : decode cX1_readAll 29 = .ok (.putfield 36, 3) := by decide +kernel
theorem dX1_readAll_32 : decode cX1_readAll 32 = .ok (.aload_n 0, 1) := by decide +kernel
theorem dX1_readAll_33 : decode cX1_readAll 33 = .ok (.iload_n 1, 1) := by decide +kernel
theorem dX1_readAll_34 : decode cX1_readAll 34 = .ok (.invokevirtual 63, 3) := by decide +kernel
theorem dX1_readAll_37 : decode cX1_readAll 37 = .ok (.aload_n 0, 1) := by decide +kernel
theorem dX1_readAll_38 : decode cX1_readAll 38 = .ok (.getfield 29, 3) := by decide +kernel
theorem dX1_readAll_41 : decode cX1_readAll 41 = .ok (.bipush 38, 2) := by decide +kernel
theorem dX1_readAll_43 : decode cX1_readAll 43 = .ok (.invokevirtual 60, 3) := by decide +kernel
theorem dX1_readAll_46 : decode cX1_readAll 46 = .ok (.iinc 2 1, 3) := by decide +kernel
theorem dX1_readAll_49 : decode cX1_readAll 49 = .ok (.goto (-42), 3) := by decide +kernel
theorem dX1_readAll_52 : decode cX1_readAll 52 = .ok (.return_, 1) := by decide +kernel
theorem dX1_readCompared_0 : decode cX1_readCompared 0 = .ok (.aload_n 0, 1) := by decide +kernel
theorem dX1_readCompared_1 : decode cX1_readCompared 1 = .ok (.iload_n 1, 1) := by decide +kernel
theorem dX1_readCompared_2 : decode cX1_readCompared 2 = .ok (.invokevirtual 66, 3) := by decide +kernel
theorem dX1_readCompared_5 : decode cX1_readCompared 5 = .ok (.aload_n 0, 1) := by decide +kernel
theorem dX1_readCompared_6 : decode cX1_readCompared 6 = .ok (.bipush 60, 2) := by decide +kernel
theorem dX1_readCompared_8 : decode cX1_readCompared 8 = .ok (.invokevirtual 56, 3) := by decide +kernel
theorem dX1_readCompared_11 : decode cX1_readCompared 11 = .ok (.ifCond .ne 21, 3) := by decide +kernel
theorem dX1_readCompared_14 : decode cX1_readCompared 14 = .ok (.aload_n 0, 1) := by decide +kernel
theorem dX1_readCompared_15 : decode cX1_readCompared 15 = .ok (.bipush 61, 2) := by decide +kernel
theorem dX1_readCompared_17 : decode cX1_readCompared 17 = .ok (.invokevirtual 56, 3) := by decide +kernel
theorem dX1_readCompared_20 : decode cX1_readCompared 20 = .ok (.ifCond .ne 12, 3) := by decide +kernel
theorem dX1_readCompared_23 : decode cX1_readCompared 23 = .ok (.aload_n 0, 1) := by decide +kernel
theorem dX1_readCompared_24 : decode cX1_readCompared 24 = .ok (.bipush 62, 2) := by decide +kernel
theorem dX1_readCompared_26 : decode cX1_readCompared 26 = .ok (.invokevirtual 56, 3) := by decide +kernel
theorem dX1_readCompared_29 : decode cX1_readCompared 29 = .ok (.ifCond .eq 38, 3) := by decide +kernel
theorem dX1_readCompared_32 : decode cX1_readCompared 32 = .ok (.aload_n 0, 1) := by decide +kernel
theorem dX1_readCompared_33 : decode cX1_readCompared 33 = .ok (.getfield 14, 3) := by decide +kernel
theorem dX1_readCompared_36 : decode cX1_readCompared 36 = .ok (.aload_n 0, 1) := by decide +kernel
theorem dX1_readCompared_37 : decode cX1_readCompared 37 = .ok (.getfield 36, 3) := by decide +kernel
theorem dX1_readCompared_40 : decode cX1_readCompared 40 = .ok (.invokevirtual 50, 3) := by decide +kernel
theorem dX1_readCompared_43 : decode cX1_readCompared 43 = .ok (.istore_n 2, 1) := by decide +kernel
theorem dX1_readCompared_44 : decode cX1_readCompared 44 = .ok (.aload_n 0, 1) := by decide +kernel
theorem dX1_readCompared_45 : decode cX1_readCompared 45 = .ok (.dup, 1) := by decide +kernel
theorem dX1_readCompared_46 : decode cX1_readCompared 46 = .ok (.getfield 36, 3) := by decide +kernel
theorem dX1_readCompared_49 : decode cX1_readCompared 49 = .ok (.iconst 1, 1) := by decide +kernel
theorem dX1_readCompared_50 : decode cX1_readCompared 50 = .ok (.iadd, 1) := by decide +kernel
theorem dX1_readCompared_51 : decode cX1_readCompared 51 = .ok (.putfield 36, 3) := by decide +kernel
theorem dX1_readCompared_54 : decode cX1_readCompared 54 = .ok (.aload_n 0, 1) := by decide +kernel
theorem dX1_readCompared_55 : decode cX1_readCompared 55 = .ok (.iload_n 1, 1) := by decide +kernel
theorem dX1_readCompared_56 : decode cX1_readCompared 56 = .ok (.invokevirtual 66, 3) := by decide +kernel
theorem dX1_readCompared_59 : decode cX1_readCompared 59 = .ok (.aload_n 0, 1) := by decide +kernel
theorem dX1_readCompared_60 : decode cX1_readCompared 60 = .ok (.getfield 29, 3) := by decide +kernel
theorem dX1_readCompared_63 : decode cX1_readCompared 63 = .ok (.iload_n 2, 1) := by decide +kernel
theorem dX1_readCompared_64 : decode cX1_readCompared 64 = .ok (.invokevirtual 60, 3) := by decide +kernel
theorem dX1_readCompared_67 : decode cX1_readCompared 67 = .ok (.return_, 1) := by decide +kernel
theorem dX1_readSum_0 : decode cX1_readSum 0 = .ok (.aload_n 0, 1) := by decide +kernel
theorem dX1_readSum_1 : decode cX1_readSum 1 = .ok (.iload_n 1, 1) := by decide +kernel
theorem dX1_readSum_2 : decode cX1_readSum 2 = .ok (.invokevirtual 69, 3) := by decide +kernel
theorem dX1_readSum_5 : decode cX1_readSum 5 = .ok (.iconst 0, 1) := by decide +kernel
theorem dX1_readSum_6 : decode cX1_readSum 6 = .ok (.istore_n 2, 1) := by decide +kernel
theorem dX1_readSum_7 : decode cX1_readSum 7 = .ok (.iload_n 2, 1) := by decide +kernel
theorem dX1_readSum_8 : decode cX1_readSum 8 = .ok (.bipush 60, 2) := by decide +kernel
theorem dX1_readSum_10 : decode cX1_readSum 10 = .ok (.if_icmp .ge 62, 3) := by decide +kernel
theorem dX1_readSum_13 : decode cX1_readSum 13 = .ok (.aload_n 0, 1) := by decide +kernel
theorem dX1_readSum_14 : decode cX1_readSum 14 = .ok (.bipush 43, 2) := by decide +kernel
theorem dX1_readSum_16 : decode cX1_readSum 16 = .ok (.invokevirtual 56, 3) := by decide +kernel
theorem dX1_readSum_19 : decode cX1_readSum 19 = .ok (.ifCond .ne 12, 3) := by decide +kernel
theorem dX1_readSum_22 : decode cX1_readSum 22 = .ok (.aload_n 0, 1) := by decide +kernel
theorem dX1_readSum_23 : decode cX1_readSum 23 = .ok (.bipush 45, 2) := by decide +kernel
theorem dX1_readSum_25 : decode cX1_readSum 25 = .ok (.invokevirtual 56, 3) := by decide +kernel
theorem dX1_readSum_28 : decode cX1_readSum 28 = .ok (.ifCond .eq 44, 3) := by decide +kernel
theorem dX1_readSum_31 : decode cX1_readSum 31 = .ok (.aload_n 0, 1) := by decide +kernel
theorem dX1_readSum_32 : decode cX1_readSum 32 = .ok (.getfield 14, 3) := by decide +kernel
theorem dX1_readSum_35 : decode cX1_readSum 35 = .ok (.aload_n 0, 1) := by decide +kernel
theorem dX1_readSum_36 : decode cX1_readSum 36 = .ok (.getfield 36, 3) := by decide +kernel
theorem dX1_readSum_39 : decode cX1_readSum 39 = .ok (.invokevirtual 50, 3) := by decide +kernel
theorem dX1_readSum_42 : decode cX1_readSum 42 = .ok (.istore_n 3, 1) := by decide +kernel
theorem dX1_readSum_43 : decode cX1_readSum 43 = .ok (.aload_n 0, 1) := by decide +kernel
theorem dX1_readSum_44 : decode cX1_readSum 44 = .ok (.dup, 1) := by decide +kernel
theorem dX1_readSum_45 : decode cX1_readSum 45 = .ok (.getfield 36, 3) := by decide +kernel
theorem dX1_readSum_48 : decode cX1_readSum 48 = .ok (.iconst 1, 1) := by decide +kernel
theorem dX1_readSum_49 : decode cX1_readSum 49 = .ok (.iadd, 1) := by decide +kernel
theorem dX1_readSum_50 : decode cX1_readSum 50 = .ok (.putfield 36, 3) := by decide +kernel
theorem dX1_readSum_53 : decode cX1_readSum 53 = .ok (.aload_n 0, 1) := by decide +kernel
theorem dX1_readSum_54 : decode cX1_readSum 54 = .ok (.iload_n 1, 1) := by decide +kernel
theorem dX1_readSum_55 : decode cX1_readSum 55 = .ok (.invokevirtual 69, 3) := by decide +kernel
theorem dX1_readSum_58 : decode cX1_readSum 58 = .ok (.aload_n 0, 1) := by decide +kernel
theorem dX1_readSum_59 : decode cX1_readSum 59 = .ok (.getfield 29, 3) := by decide +kernel
theorem dX1_readSum_62 : decode cX1_readSum 62 = .ok (.iload_n 3, 1) := by decide +kernel
theorem dX1_readSum_63 : decode cX1_readSum 63 = .ok (.invokevirtual 60, 3) := by decide +kernel
theorem dX1_readSum_66 : decode cX1_readSum 66 = .ok (.iinc 2 1, 3) := by decide +kernel
theorem dX1_readSum_69 : decode cX1_readSum 69 = .ok (.goto (-62), 3) := by decide +kernel
theorem dX1_readSum_72 : decode cX1_readSum 72 = .ok (.return_, 1) := by decide +kernel
theorem dX1_readProduct_0 : decode cX1_readProduct 0 = .ok (.aload_n 0, 1) := by decide +kernel
theorem dX1_readProduct_1 : decode cX1_readProduct 1 = .ok (.iload_n 1, 1) := by decide +kernel
theorem dX1_readProduct_2 : decode cX1_readProduct 2 = .ok (.invokevirtual 72, 3) := by decide +kernel
theorem dX1_readProduct_5 : decode cX1_readProduct 5 = .ok (.iconst 0, 1) := by decide +kernel
theorem dX1_readProduct_6 : decode cX1_readProduct 6 = .ok (.istore_n 2, 1) := by decide +kernel
theorem dX1_readProduct_7 : decode cX1_readProduct 7 = .ok (.iload_n 2, 1) := by decide +kernel
theorem dX1_readProduct_8 : decode cX1_readProduct 8 = .ok (.bipush 60, 2) := by decide +kernel
theorem dX1_readProduct_10 : decode cX1_readProduct 10 = .ok (.if_icmp .ge 71, 3) := by decide +kernel
theorem dX1_readProduct_13 : decode cX1_readProduct 13 = .ok (.aload_n 0, 1) := by decide +kernel
theorem dX1_readProduct_14 : decode cX1_readProduct 14 = .ok (.bipush 42, 2) := by decide +kernel
theorem dX1_readProduct_16 : decode cX1_readProduct 16 = .ok (.invokevirtual 56, 3) := by decide +kernel
theorem dX1_readProduct_19 : decode cX1_readProduct 19 = .ok (.ifCond .ne 21, 3) := by decide +kernel
theorem dX1_readProduct_22 : decode cX1_readProduct 22 = .ok (.aload_n 0, 1) := by decide +kernel
theorem dX1_readProduct_23 : decode cX1_readProduct 23 = .ok (.bipush 47, 2) := by decide +kernel
theorem dX1_readProduct_25 : decode cX1_readProduct 25 = .ok (.invokevirtual 56, 3) := by decide +kernel
theorem dX1_readProduct_28 : decode cX1_readProduct 28 = .ok (.ifCond .ne 12, 3) := by decide +kernel
theorem dX1_readProduct_31 : decode cX1_readProduct 31 = .ok (.aload_n 0, 1) := by decide +kernel
theorem dX1_readProduct_32 : decode cX1_readProduct 32 = .ok (.bipush 37, 2) := by decide +kernel
theorem dX1_readProduct_34 : decode cX1_readProduct 34 = .ok (.invokevirtual 56, 3) := by decide +kernel
theorem dX1_readProduct_37 : decode cX1_readProduct 37 = .ok (.ifCond .eq 44, 3) := by decide +kernel
theorem dX1_readProduct_40 : decode cX1_readProduct 40 = .ok (.aload_n 0, 1) := by decide +kernel
theorem dX1_readProduct_41 : decode cX1_readProduct 41 = .ok (.getfield 14, 3) := by decide +kernel
theorem dX1_readProduct_44 : decode cX1_readProduct 44 = .ok (.aload_n 0, 1) := by decide +kernel
theorem dX1_readProduct_45 : decode cX1_readProduct 45 = .ok (.getfield 36, 3) := by decide +kernel
theorem dX1_readProduct_48 : decode cX1_readProduct 48 = .ok (.invokevirtual 50, 3) := by decide +kernel
theorem dX1_readProduct_51 : decode cX1_readProduct 51 = .ok (.istore_n 3, 1) := by decide +kernel
theorem dX1_readProduct_52 : decode cX1_readProduct 52 = .ok (.aload_n 0, 1) := by decide +kernel
theorem dX1_readProduct_53 : decode cX1_readProduct 53 = .ok (.dup, 1) := by decide +kernel
theorem dX1_readProduct_54 : decode cX1_readProduct 54 = .ok (.getfield 36, 3) := by decide +kernel
theorem dX1_readProduct_57 : decode cX1_readProduct 57 = .ok (.iconst 1, 1) := by decide +kernel
theorem dX1_readProduct_58 : decode cX1_readProduct 58 = .ok (.iadd, 1) := by decide +kernel
theorem dX1_readProduct_59 : decode cX1_readProduct 59 = .ok (.putfield 36, 3) := by decide +kernel
theorem dX1_readProduct_62 : decode cX1_readProduct 62 = .ok (.aload_n 0, 1) := by decide +kernel
theorem dX1_readProduct_63 : decode cX1_readProduct 63 = .ok (.iload_n 1, 1) := by decide +kernel
theorem dX1_readProduct_64 : decode cX1_readProduct 64 = .ok (.invokevirtual 72, 3) := by decide +kernel
theorem dX1_readProduct_67 : decode cX1_readProduct 67 = .ok (.aload_n 0, 1) := by decide +kernel
theorem dX1_readProduct_68 : decode cX1_readProduct 68 = .ok (.getfield 29, 3) := by decide +kernel
theorem dX1_readProduct_71 : decode cX1_readProduct 71 = .ok (.iload_n 3, 1) := by decide +kernel
theorem dX1_readProduct_72 : decode cX1_readProduct 72 = .ok (.invokevirtual 60, 3) := by decide +kernel
theorem dX1_readProduct_75 : decode cX1_readProduct 75 = .ok (.iinc 2 1, 3) := by decide +kernel
theorem dX1_readProduct_78 : decode cX1_readProduct 78 = .ok (.goto (-71), 3) := by decide +kernel
theorem dX1_readProduct_81 : decode cX1_readProduct 81 = .ok (.return_, 1) := by decide +kernel
theorem dX1_readPart_0 : decode cX1_readPart 0 = .ok (.aload_n 0, 1) := by decide +kernel
theorem dX1_readPart_1 : decode cX1_readPart 1 = .ok (.invokevirtual 75, 3) := by decide +kernel
theorem dX1_readPart_4 : decode cX1_readPart 4 = .ok (.ifCond .eq 10, 3) := by decide +kernel
theorem dX1_readPart_7 : decode cX1_readPart 7 = .ok (.aload_n 0, 1) := by decide +kernel
theorem dX1_readPart_8 : decode cX1_readPart 8 = .ok (.invokevirtual 79, 3) := by decide +kernel
theorem dX1_readPart_11 : decode cX1_readPart 11 = .ok (.goto 135, 3) := by decide +kernel
theorem dX1_readPart_14 : decode cX1_readPart 14 = .ok (.aload_n 0, 1) := by decide +kernel
theorem dX1_readPart_15 : decode cX1_readPart 15 = .ok (.invokevirtual 82, 3) := by decide +kernel
theorem dX1_readPart_18 : decode cX1_readPart 18 = .ok (.ifCond .eq 42, 3) := by decide +kernel
theorem dX1_readPart_21 : decode cX1_readPart 21 = .ok (.aload_n 0, 1) := by decide +kernel
theorem dX1_readPart_22 : decode cX1_readPart 22 = .ok (.getfield 29, 3) := by decide +kernel
theorem dX1_readPart_25 : decode cX1_readPart 25 = .ok (.aload_n 0, 1) := by decide +kernel
theorem dX1_readPart_26 : decode cX1_readPart 26 = .ok (.getfield 22, 3) := by decide +kernel
theorem dX1_readPart_29 : decode cX1_readPart 29 = .ok (.aload_n 0, 1) := by decide +kernel
theorem dX1_readPart_30 : decode cX1_readPart 30 = .ok (.getfield 14, 3) := by decide +kernel
theorem dX1_readPart_33 : decode cX1_readPart 33 = .ok (.aload_n 0, 1) := by decide +kernel
theorem dX1_readPart_34 : decode cX1_readPart 34 = .ok (.getfield 36, 3) := by decide +kernel
theorem dX1_readPart_37 : decode cX1_readPart 37 = .ok (.invokevirtual 50, 3) := by decide +kernel
theorem dX1_readPart_40 : decode cX1_readPart 40 = .ok (.i2c, 1) := by decide +kernel
theorem dX1_readPart_41 : decode cX1_readPart 41 = .ok (.invokevirtual 85, 3) := by decide +kernel
theorem dX1_readPart_44 : decode cX1_readPart 44 = .ok (.invokevirtual 90, 3) := by decide +kernel
theorem dX1_readPart_47 : decode cX1_readPart 47 = .ok (.aload_n 0, 1) := by decide +kernel
theorem dX1_readPart_48 : decode cX1_readPart 48 = .ok (.dup, 1) := by decide +kernel
theorem dX1_readPart_49 : decode cX1_readPart 49 = .ok (.getfield 36, 3) := by decide +kernel
theorem dX1_readPart_52 : decode cX1_readPart 52 = .ok (.iconst 1, 1) := by decide +kernel
theorem dX1_readPart_53 : decode cX1_readPart 53 = .ok (.iadd, 1) := by decide +kernel
theorem dX1_readPart_54 : decode cX1_readPart 54 = .ok (.putfield 36, 3) := by decide +kernel
theorem dX1_readPart_57 : decode cX1_readPart 57 = .ok (.goto 89, 3) := by decide +kernel
theorem dX1_readPart_60 : decode cX1_readPart 60 = .ok (.iload_n 1, 1) := by decide +kernel
theorem dX1_readPart_61 : decode cX1_readPart 61 = .ok (.iconst 5, 1) := by decide +kernel
theorem dX1_readPart_62 : decode cX1_readPart 62 = .ok (.if_icmp .ge 41, 3) := by decide +kernel
theorem dX1_readPart_65 : decode cX1_readPart 65 = .ok (.aload_n 0, 1) := by decide +kernel
theorem dX1_readPart_66 : decode cX1_readPart 66 = .ok (.bipush 33, 2) := by decide +kernel
theorem dX1_readPart_68 : decode cX1_readPart 68 = .ok (.invokevirtual 56, 3) := by decide +kernel
theorem dX1_readPart_71 : decode cX1_readPart 71 = .ok (.ifCond .eq 32, 3) := by decide +kernel
theorem dX1_readPart_74 : decode cX1_readPart 74 = .ok (.aload_n 0, 1) := by decide +kernel
theorem dX1_readPart_75 : decode cX1_readPart 75 = .ok (.dup, 1) := by decide +kernel
theorem dX1_readPart_76 : decode cX1_readPart 76 = .ok (.getfield 36, 3) := by decide +kernel
theorem dX1_readPart_79 : decode cX1_readPart 79 = .ok (.iconst 1, 1) := by decide +kernel
theorem dX1_readPart_80 : decode cX1_readPart 80 = .ok (.iadd, 1) := by decide +kernel
theorem dX1_readPart_81 : decode cX1_readPart 81 = .ok (.putfield 36, 3) := by decide +kernel
theorem dX1_readPart_84 : decode cX1_readPart 84 = .ok (.aload_n 0, 1) := by decide +kernel
theorem dX1_readPart_85 : decode cX1_readPart 85 = .ok (.iload_n 1, 1) := by decide +kernel
theorem dX1_readPart_86 : decode cX1_readPart 86 = .ok (.iconst 1, 1) := by decide +kernel
theorem dX1_readPart_87 : decode cX1_readPart 87 = .ok (.iadd, 1) := by decide +kernel
theorem dX1_readPart_88 : decode cX1_readPart 88 = .ok (.invokevirtual 72, 3) := by decide +kernel
theorem dX1_readPart_91 : decode cX1_readPart 91 = .ok (.aload_n 0, 1) := by decide +kernel
theorem dX1_readPart_92 : decode cX1_readPart 92 = .ok (.getfield 29, 3) := by decide +kernel
theorem dX1_readPart_95 : decode cX1_readPart 95 = .ok (.bipush 33, 2) := by decide +kernel
theorem dX1_readPart_97 : decode cX1_readPart 97 = .ok (.invokevirtual 60, 3) := by decide +kernel
theorem dX1_readPart_100 : decode cX1_readPart 100 = .ok (.goto 46, 3) := by decide +kernel
theorem dX1_readPart_103 : decode cX1_readPart 103 = .ok (.iload_n 1, 1) := by decide +kernel
theorem dX1_readPart_104 : decode cX1_readPart 104 = .ok (.iconst 5, 1) := by decide +kernel
theorem dX1_readPart_105 : decode cX1_readPart 105 = .ok (.if_icmp .ge 36, 3) := by decide +kernel
theorem dX1_readPart_108 : decode cX1_readPart 108 = .ok (.aload_n 0, 1) := by decide +kernel
theorem dX1_readPart_109 : decode cX1_readPart 109 = .ok (.bipush 40, 2) := by decide +kernel
theorem dX1_readPart_111 : decode cX1_readPart 111 = .ok (.invokevirtual 56, 3) := by decide +kernel
theorem dX1_readPart_114 : decode cX1_readPart 114 = .ok (.ifCond .eq 27, 3) := by decide +kernel
theorem dX1_readPart_117 : decode cX1_readPart 117 = .ok (.aload_n 0, 1) := by decide +kernel
theorem dX1_readPart_118 : decode cX1_readPart 118 = .ok (.dup, 1) := by decide +kernel
theorem dX1_readPart_119 : decode cX1_readPart 119 = .ok (.getfield 36, 3) := by decide +kernel
theorem dX1_readPart_122 : decode cX1_readPart 122 = .ok (.iconst 1, 1) := by decide +kernel
theorem dX1_readPart_123 : decode cX1_readPart 123 = .ok (.iadd, 1) := by decide +kernel
theorem dX1_readPart_124 : decode cX1_readPart 124 = .ok (.putfield 36, 3) := by decide +kernel
theorem dX1_readPart_127 : decode cX1_readPart 127 = .ok (.aload_n 0, 1) := by decide +kernel
theorem dX1_readPart_128 : decode cX1_readPart 128 = .ok (.iload_n 1, 1) := by decide +kernel
theorem dX1_readPart_129 : decode cX1_readPart 129 = .ok (.iconst 1, 1) := by decide +kernel
theorem dX1_readPart_130 : decode cX1_readPart 130 = .ok (.iadd, 1) := by decide +kernel
theorem dX1_readPart_131 : decode cX1_readPart 131 = .ok (.invokevirtual 44, 3) := by decide +kernel
theorem dX1_readPart_134 : decode cX1_readPart 134 = .ok (.aload_n 0, 1) := by decide +kernel
theorem dX1_readPart_135 : decode cX1_readPart 135 = .ok (.invokevirtual 93, 3) := by decide +kernel
theorem dX1_readPart_138 : decode cX1_readPart 138 = .ok (.goto 8, 3) := by decide +kernel
theorem dX1_readPart_141 : decode cX1_readPart 141 = .ok (.aload_n 0, 1) := by decide +kernel
theorem dX1_readPart_142 : decode cX1_readPart 142 = .ok (.iconst 1, 1) := by decide +kernel
theorem dX1_readPart_143 : decode cX1_readPart 143 = .ok (.putfield 40, 3) := by decide +kernel
theorem dX1_readPart_146 : decode cX1_readPart 146 = .ok (.return_, 1) := by decide +kernel
theorem dX1_isDigit_0 : decode cX1_isDigit 0 = .ok (.aload_n 0, 1) := by decide +kernel
theorem dX1_isDigit_1 : decode cX1_isDigit 1 = .ok (.getfield 40, 3) := by decide +kernel
theorem dX1_isDigit_4 : decode cX1_isDigit 4 = .ok (.ifCond .ne 53, 3) := by decide +kernel
theorem dX1_isDigit_7 : decode cX1_isDigit 7 = .ok (.aload_n 0, 1) := by decide +kernel
theorem dX1_isDigit_8 : decode cX1_isDigit 8 = .ok (.getfield 36, 3) := by decide +kernel
theorem dX1_isDigit_11 : decode cX1_isDigit 11 = .ok (.aload_n 0, 1) := by decide +kernel
theorem dX1_isDigit_12 : decode cX1_isDigit 12 = .ok (.getfield 14, 3) := by decide +kernel
theorem dX1_isDigit_15 : decode cX1_isDigit 15 = .ok (.getfield 47, 3) := by decide +kernel
theorem dX1_isDigit_18 : decode cX1_isDigit 18 = .ok (.if_icmp .ge 39, 3) := by decide +kernel
theorem dX1_isDigit_21 : decode cX1_isDigit 21 = .ok (.aload_n 0, 1) := by decide +kernel
theorem dX1_isDigit_22 : decode cX1_isDigit 22 = .ok (.getfield 14, 3) := by decide +kernel
theorem dX1_isDigit_25 : decode cX1_isDigit 25 = .ok (.aload_n 0, 1) := by decide +kernel
theorem dX1_isDigit_26 : decode cX1_isDigit 26 = .ok (.getfield 36, 3) := by decide +kernel
theorem dX1_isDigit_29 : decode cX1_isDigit 29 = .ok (.invokevirtual 50, 3) := by decide +kernel
theorem dX1_isDigit_32 : decode cX1_isDigit 32 = .ok (.bipush 48, 2) := by decide +kernel
theorem dX1_isDigit_34 : decode cX1_isDigit 34 = .ok (.if_icmp .lt 23, 3) := by decide +kernel
theorem dX1_isDigit_37 : decode cX1_isDigit 37 = .ok (.aload_n 0, 1) := by decide +kernel
theorem dX1_isDigit_38 : decode cX1_isDigit 38 = .ok (.getfield 14, 3) := by decide +kernel
theorem dX1_isDigit_41 : decode cX1_isDigit 41 = .ok (.aload_n 0, 1) := by decide +kernel
theorem dX1_isDigit_42 : decode cX1_isDigit 42 = .ok (.getfield 36, 3) := by decide +kernel
theorem dX1_isDigit_45 : decode cX1_isDigit 45 = .ok (.invokevirtual 50, 3) := by decide +kernel
theorem dX1_isDigit_48 : decode cX1_isDigit 48 = .ok (.bipush 57, 2) := by decide +kernel
theorem dX1_isDigit_50 : decode cX1_isDigit 50 = .ok (.if_icmp .gt 7, 3) := by decide +kernel
theorem dX1_isDigit_53 : decode cX1_isDigit 53 = .ok (.iconst 1, 1) := by decide +kernel
theorem dX1_isDigit_54 : decode cX1_isDigit 54 = .ok (.goto 4, 3) := by decide +kernel
theorem dX1_isDigit_57 : decode cX1_isDigit 57 = .ok (.iconst 0, 1) := by decide +kernel
theorem dX1_isDigit_58 : decode cX1_isDigit 58 = .ok (.ireturn, 1) := by decide +kernel
theorem dX1_isName_0 : decode cX1_isName 0 = .ok (.aload_n 0, 1) := by decide +kernel
theorem dX1_isName_1 : decode cX1_isName 1 = .ok (.getfield 40, 3) := by decide +kernel
theorem dX1_isName_4 : decode cX1_isName 4 = .ok (.ifCond .ne 43, 3) := by decide +kernel
theorem dX1_isName_7 : decode cX1_isName 7 = .ok (.aload_n 0, 1) := by decide +kernel
theorem dX1_isName_8 : decode cX1_isName 8 = .ok (.getfield 36, 3) := by decide +kernel
theorem dX1_isName_11 : decode cX1_isName 11 = .ok (.aload_n 0, 1) := by decide +kernel
theorem dX1_isName_12 : decode cX1_isName 12 = .ok (.getfield 14, 3) := by decide +kernel
theorem dX1_isName_15 : decode cX1_isName 15 = .ok (.getfield 47, 3) := by decide +kernel
theorem dX1_isName_18 : decode cX1_isName 18 = .ok (.if_icmp .ge 29, 3) := by decide +kernel
theorem dX1_isName_21 : decode cX1_isName 21 = .ok (.aload_n 0, 1) := by decide +kernel
theorem dX1_isName_22 : decode cX1_isName 22 = .ok (.getfield 22, 3) := by decide +kernel
theorem dX1_isName_25 : decode cX1_isName 25 = .ok (.aload_n 0, 1) := by decide +kernel
theorem dX1_isName_26 : decode cX1_isName 26 = .ok (.getfield 14, 3) := by decide +kernel
theorem dX1_isName_29 : decode cX1_isName 29 = .ok (.aload_n 0, 1) := by decide +kernel
theorem dX1_isName_30 : decode cX1_isName 30 = .ok (.getfield 36, 3) := by decide +kernel
theorem dX1_isName_33 : decode cX1_isName 33 = .ok (.invokevirtual 50, 3) := by decide +kernel
theorem dX1_isName_36 : decode cX1_isName 36 = .ok (.i2c, 1) := by decide +kernel
theorem dX1_isName_37 : decode cX1_isName 37 = .ok (.invokevirtual 85, 3) := by decide +kernel
theorem dX1_isName_40 : decode cX1_isName 40 = .ok (.ifCond .lt 7, 3) := by decide +kernel
theorem dX1_isName_43 : decode cX1_isName 43 = .ok (.iconst 1, 1) := by decide +kernel
theorem dX1_isName_44 : decode cX1_isName 44 = .ok (.goto 4, 3) := by decide +kernel
theorem dX1_isName_47 : decode cX1_isName 47 = .ok (.iconst 0, 1) := by decide +kernel
theorem dX1_isName_48 : decode cX1_isName 48 = .ok (.ireturn, 1) := by decide +kernel
theorem dX1_readNumber_0 : decode cX1_readNumber 0 = .ok (.iconst 0, 1) := by decide +kernel
theorem dX1_readNumber_1 : decode cX1_readNumber 1 = .ok (.istore_n 1, 1) := by decide +kernel
theorem dX1_readNumber_2 : decode cX1_readNumber 2 = .ok (.iconst 0, 1) := by decide +kernel
theorem dX1_readNumber_3 : decode cX1_readNumber 3 = .ok (.istore_n 2, 1) := by decide +kernel
theorem dX1_readNumber_4 : decode cX1_readNumber 4 = .ok (.iload_n 2, 1) := by decide +kernel
theorem dX1_readNumber_5 : decode cX1_readNumber 5 = .ok (.iconst 4, 1) := by decide +kernel
theorem dX1_readNumber_6 : decode cX1_readNumber 6 = .ok (.if_icmp .ge 46, 3) := by decide +kernel
theorem dX1_readNumber_9 : decode cX1_readNumber 9 = .ok (.aload_n 0, 1) := by decide +kernel
theorem dX1_readNumber_10 : decode cX1_readNumber 10 = .ok (.invokevirtual 75, 3) := by decide +kernel
theorem dX1_readNumber_13 : decode cX1_readNumber 13 = .ok (.ifCond .eq 39, 3) := by decide +kernel
theorem dX1_readNumber_16 : decode cX1_readNumber 16 = .ok (.bipush 10, 2) := by decide +kernel
theorem dX1_readNumber_18 : decode cX1_readNumber 18 = .ok (.iload_n 1, 1) := by decide +kernel
theorem dX1_readNumber_19 : decode cX1_readNumber 19 = .ok (.imul, 1) := by decide +kernel
theorem dX1_readNumber_20 : decode cX1_readNumber 20 = .ok (.aload_n 0, 1) := by decide +kernel
theorem dX1_readNumber_21 : decode cX1_readNumber 21 = .ok (.getfield 14, 3) := by decide +kernel
theorem dX1_readNumber_24 : decode cX1_readNumber 24 = .ok (.aload_n 0, 1) := by decide +kernel
theorem dX1_readNumber_25 : decode cX1_readNumber 25 = .ok (.getfield 36, 3) := by decide +kernel
theorem dX1_readNumber_28 : decode cX1_readNumber 28 = .ok (.invokevirtual 50, 3) := by decide +kernel
theorem dX1_readNumber_31 : decode cX1_readNumber 31 = .ok (.iadd, 1) := by decide +kernel
theorem dX1_readNumber_32 : decode cX1_readNumber 32 = .ok (.bipush 48, 2) := by decide +kernel
theorem dX1_readNumber_34 : decode cX1_readNumber 34 = .ok (.isub, 1) := by decide +kernel
theorem dX1_readNumber_35 : decode cX1_readNumber 35 = .ok (.istore_n 1, 1) := by decide +kernel
theorem dX1_readNumber_36 : decode cX1_readNumber 36 = .ok (.aload_n 0, 1) := by decide +kernel
theorem dX1_readNumber_37 : decode cX1_readNumber 37 = .ok (.dup, 1) := by decide +kernel
theorem dX1_readNumber_38 : decode cX1_readNumber 38 = .ok (.getfield 36, 3) := by decide +kernel
theorem dX1_readNumber_41 : decode cX1_readNumber 41 = .ok (.iconst 1, 1) := by decide +kernel
theorem dX1_readNumber_42 : decode cX1_readNumber 42 = .ok (.iadd, 1) := by decide +kernel
theorem dX1_readNumber_43 : decode cX1_readNumber 43 = .ok (.putfield 36, 3) := by decide +kernel
theorem dX1_readNumber_46 : decode cX1_readNumber 46 = .ok (.iinc 2 1, 3) := by decide +kernel
theorem dX1_readNumber_49 : decode cX1_readNumber 49 = .ok (.goto (-45), 3) := by decide +kernel
theorem dX1_readNumber_52 : decode cX1_readNumber 52 = .ok (.aload_n 0, 1) := by decide +kernel
theorem dX1_readNumber_53 : decode cX1_readNumber 53 = .ok (.getfield 29, 3) := by decide +kernel
theorem dX1_readNumber_56 : decode cX1_readNumber 56 = .ok (.iload_n 1, 1) := by decide +kernel
theorem dX1_readNumber_57 : decode cX1_readNumber 57 = .ok (.invokevirtual 96, 3) := by decide +kernel
theorem dX1_readNumber_60 : decode cX1_readNumber 60 = .ok (.return_, 1) := by decide +kernel
theorem dX1_readClosing_0 : decode cX1_readClosing 0 = .ok (.aload_n 0, 1) := by decide +kernel
theorem dX1_readClosing_1 : decode cX1_readClosing 1 = .ok (.bipush 41, 2) := by decide +kernel
theorem dX1_readClosing_3 : decode cX1_readClosing 3 = .ok (.invokevirtual 56, 3) := by decide +kernel
theorem dX1_readClosing_6 : decode cX1_readClosing 6 = .ok (.ifCond .eq 16, 3) := by decide +kernel
theorem dX1_readClosing_9 : decode cX1_readClosing 9 = .ok (.aload_n 0, 1) := by decide +kernel
theorem dX1_readClosing_10 : decode cX1_readClosing 10 = .ok (.dup, 1) := by decide +kernel
theorem dX1_readClosing_11 : decode cX1_readClosing 11 = .ok (.getfield 36, 3) := by decide +kernel
theorem dX1_readClosing_14 : decode cX1_readClosing 14 = .ok (.iconst 1, 1) := by decide +kernel
theorem dX1_readClosing_15 : decode cX1_readClosing 15 = .ok (.iadd, 1) := by decide +kernel
theorem dX1_readClosing_16 : decode cX1_readClosing 16 = .ok (.putfield 36, 3) := by decide +kernel
theorem dX1_readClosing_19 : decode cX1_readClosing 19 = .ok (.goto 8, 3) := by decide +kernel
theorem dX1_readClosing_22 : decode cX1_readClosing 22 = .ok (.aload_n 0, 1) := by decide +kernel
theorem dX1_readClosing_23 : decode cX1_readClosing 23 = .ok (.iconst 1, 1) := by decide +kernel
theorem dX1_readClosing_24 : decode cX1_readClosing 24 = .ok (.putfield 40, 3) := by decide +kernel
theorem dX1_readClosing_27 : decode cX1_readClosing 27 = .ok (.return_, 1) := by decide +kernel
theorem dX2_init_0 : decode cX2_init 0 = .ok (.aload_n 0, 1) := by decide +kernel
theorem dX2_init_1 : decode cX2_init 1 = .ok (.invokespecial 1, 3) := by decide +kernel
theorem dX2_init_4 : decode cX2_init 4 = .ok (.aload_n 0, 1) := by decide +kernel
theorem dX2_init_5 : decode cX2_init 5 = .ok (.iconst 0, 1) := by decide +kernel
theorem dX2_init_6 : decode cX2_init 6 = .ok (.iload_n 1, 1) := by decide +kernel
theorem dX2_init_7 : decode cX2_init 7 = .ok (.invokestatic 7, 3) := by decide +kernel
theorem dX2_init_10 : decode cX2_init 10 = .ok (.newarray .int, 2) := by decide +kernel
theorem dX2_init_12 : decode cX2_init 12 = .ok (.putfield 13, 3) := by decide +kernel
theorem dX2_init_15 : decode cX2_init 15 = .ok (.return_, 1) := by decide +kernel
theorem dX2_holds_0 : decode cX2_holds 0 = .ok (.iload_n 1, 1) := by decide +kernel
theorem dX2_holds_1 : decode cX2_holds 1 = .ok (.ifCond .lt 15, 3) := by decide +kernel
theorem dX2_holds_4 : decode cX2_holds 4 = .ok (.iload_n 1, 1) := by decide +kernel
theorem dX2_holds_5 : decode cX2_holds 5 = .ok (.aload_n 0, 1) := by decide +kernel
theorem dX2_holds_6 : decode cX2_holds 6 = .ok (.getfield 19, 3) := by decide +kernel
theorem dX2_holds_9 : decode cX2_holds 9 = .ok (.if_icmp .ge 7, 3) := by decide +kernel
theorem dX2_holds_12 : decode cX2_holds 12 = .ok (.iconst 1, 1) := by decide +kernel
theorem dX2_holds_13 : decode cX2_holds 13 = .ok (.goto 4, 3) := by decide +kernel
theorem dX2_holds_16 : decode cX2_holds 16 = .ok (.iconst 0, 1) := by decide +kernel
theorem dX2_holds_17 : decode cX2_holds 17 = .ok (.ireturn, 1) := by decide +kernel
theorem dX2_holdsRun_0 : decode cX2_holdsRun 0 = .ok (.iload_n 1, 1) := by decide +kernel
theorem dX2_holdsRun_1 : decode cX2_holdsRun 1 = .ok (.ifCond .lt 29, 3) := by decide +kernel
theorem dX2_holdsRun_4 : decode cX2_holdsRun 4 = .ok (.iload_n 2, 1) := by decide +kernel
theorem dX2_holdsRun_5 : decode cX2_holdsRun 5 = .ok (.ifCond .lt 25, 3) := by decide +kernel
theorem dX2_holdsRun_8 : decode cX2_holdsRun 8 = .ok (.iload_n 2, 1) := by decide +kernel
theorem dX2_holdsRun_9 : decode cX2_holdsRun 9 = .ok (.aload_n 0, 1) := by decide +kernel
theorem dX2_holdsRun_10 : decode cX2_holdsRun 10 = .ok (.getfield 19, 3) := by decide +kernel
theorem dX2_holdsRun_13 : decode cX2_holdsRun 13 = .ok (.if_icmp .gt 17, 3) := by decide +kernel
theorem dX2_holdsRun_16 : decode cX2_holdsRun 16 = .ok (.iload_n 1, 1) := by decide +kernel
theorem dX2_holdsRun_17 : decode cX2_holdsRun 17 = .ok (.aload_n 0, 1) := by decide +kernel
theorem dX2_holdsRun_18 : decode cX2_holdsRun 18 = .ok (.getfield 19, 3) := by decide +kernel
theorem dX2_holdsRun_21 : decode cX2_holdsRun 21 = .ok (.iload_n 2, 1) := by decide +kernel
theorem dX2_holdsRun_22 : decode cX2_holdsRun 22 = .ok (.isub, 1) := by decide +kernel
theorem dX2_holdsRun_23 : decode cX2_holdsRun 23 = .ok (.if_icmp .gt 7, 3) := by decide +kernel
theorem dX2_holdsRun_26 : decode cX2_holdsRun 26 = .ok (.iconst 1, 1) := by decide +kernel
theorem dX2_holdsRun_27 : decode cX2_holdsRun 27 = .ok (.goto 4, 3) := by decide +kernel
theorem dX2_holdsRun_30 : decode cX2_holdsRun 30 = .ok (.iconst 0, 1) := by decide +kernel
theorem dX2_holdsRun_31 : decode cX2_holdsRun 31 = .ok (.ireturn, 1) := by decide +kernel
theorem dX2_at_0 : decode cX2_at 0 = .ok (.aload_n 0, 1) := by decide +kernel
theorem dX2_at_1 : decode cX2_at 1 = .ok (.iload_n 1, 1) := by decide +kernel
theorem dX2_at_2 : decode cX2_at 2 = .ok (.invokevirtual 23, 3) := by decide +kernel
theorem dX2_at_5 : decode cX2_at 5 = .ok (.ifCond .eq 12, 3) := by decide +kernel
theorem dX2_at_8 : decode cX2_at 8 = .ok (.aload_n 0, 1) := by decide +kernel
theorem dX2_at_9 : decode cX2_at 9 = .ok (.getfield 13, 3) := by decide +kernel
theorem dX2_at_12 : decode cX2_at 12 = .ok (.iload_n 1, 1) := by decide +kernel
theorem dX2_at_13 : decode cX2_at 13 = .ok (.iaload, 1) := by decide +kernel
theorem dX2_at_14 : decode cX2_at 14 = .ok (.goto 4, 3) := by decide +kernel
theorem dX2_at_17 : decode cX2_at 17 = .ok (.iconst 0, 1) := by decide +kernel
theorem dX2_at_18 : decode cX2_at 18 = .ok (.ireturn, 1) := by decide +kernel
theorem dX2_add_0 : decode cX2_add 0 = .ok (.aload_n 0, 1) := by decide +kernel
theorem dX2_add_1 : decode cX2_add 1 = .ok (.getfield 19, 3) := by decide +kernel
theorem dX2_add_4 : decode cX2_add 4 = .ok (.aload_n 0, 1) := by decide +kernel
theorem dX2_add_5 : decode cX2_add 5 = .ok (.getfield 13, 3) := by decide +kernel
theorem dX2_add_8 : decode cX2_add 8 = .ok (.arraylength, 1) := by decide +kernel
theorem dX2_add_9 : decode cX2_add 9 = .ok (.if_icmp .ge 23, 3) := by decide +kernel
theorem dX2_add_12 : decode cX2_add 12 = .ok (.aload_n 0, 1) := by decide +kernel
theorem dX2_add_13 : decode cX2_add 13 = .ok (.getfield 13, 3) := by decide +kernel
theorem dX2_add_16 : decode cX2_add 16 = .ok (.aload_n 0, 1) := by decide +kernel
theorem dX2_add_17 : decode cX2_add 17 = .ok (.getfield 19, 3) := by decide +kernel
theorem dX2_add_20 : decode cX2_add 20 = .ok (.iload_n 1, 1) := by decide +kernel
theorem dX2_add_21 : decode cX2_add 21 = .ok (.iastore, 1) := by decide +kernel
theorem dX2_add_22 : decode cX2_add 22 = .ok (.aload_n 0, 1) := by decide +kernel
theorem dX2_add_23 : decode cX2_add 23 = .ok (.dup, 1) := by decide +kernel
theorem dX2_add_24 : decode cX2_add 24 = .ok (.getfield 19, 3) := by decide +kernel
theorem dX2_add_27 : decode cX2_add 27 = .ok (.iconst 1, 1) := by decide +kernel
theorem dX2_add_28 : decode cX2_add 28 = .ok (.iadd, 1) := by decide +kernel
theorem dX2_add_29 : decode cX2_add 29 = .ok (.putfield 19, 3) := by decide +kernel
theorem dX2_add_32 : decode cX2_add 32 = .ok (.return_, 1) := by decide +kernel
theorem dX2_change_0 : decode cX2_change 0 = .ok (.aload_n 0, 1) := by decide +kernel
theorem dX2_change_1 : decode cX2_change 1 = .ok (.iload_n 1, 1) := by decide +kernel
theorem dX2_change_2 : decode cX2_change 2 = .ok (.invokevirtual 23, 3) := by decide +kernel
theorem dX2_change_5 : decode cX2_change 5 = .ok (.ifCond .eq 10, 3) := by decide +kernel
theorem dX2_change_8 : decode cX2_change 8 = .ok (.aload_n 0, 1) := by decide +kernel
theorem dX2_change_9 : decode cX2_change 9 = .ok (.getfield 13, 3) := by decide +kernel
theorem dX2_change_12 : decode cX2_change 12 = .ok (.iload_n 1, 1) := by decide +kernel
theorem dX2_change_13 : decode cX2_change 13 = .ok (.iload_n 2, 1) := by decide +kernel
theorem dX2_change_14 : decode cX2_change 14 = .ok (.iastore, 1) := by decide +kernel
theorem dX2_change_15 : decode cX2_change 15 = .ok (.return_, 1) := by decide +kernel
theorem dX2_clear_0 : decode cX2_clear 0 = .ok (.aload_n 0, 1) := by decide +kernel
theorem dX2_clear_1 : decode cX2_clear 1 = .ok (.iconst 0, 1) := by decide +kernel
theorem dX2_clear_2 : decode cX2_clear 2 = .ok (.putfield 19, 3) := by decide +kernel
theorem dX2_clear_5 : decode cX2_clear 5 = .ok (.return_, 1) := by decide +kernel
theorem dX2_copyFrom_0 : decode cX2_copyFrom 0 = .ok (.aload_n 0, 1) := by decide +kernel
theorem dX2_copyFrom_1 : decode cX2_copyFrom 1 = .ok (.aload_n 0, 1) := by decide +kernel
theorem dX2_copyFrom_2 : decode cX2_copyFrom 2 = .ok (.getfield 13, 3) := by decide +kernel
theorem dX2_copyFrom_5 : decode cX2_copyFrom 5 = .ok (.arraylength, 1) := by decide +kernel
theorem dX2_copyFrom_6 : decode cX2_copyFrom 6 = .ok (.aload_n 1, 1) := by decide +kernel
theorem dX2_copyFrom_7 : decode cX2_copyFrom 7 = .ok (.getfield 19, 3) := by decide +kernel
theorem dX2_copyFrom_10 : decode cX2_copyFrom 10 = .ok (.invokestatic 27, 3) := by decide +kernel
theorem dX2_copyFrom_13 : decode cX2_copyFrom 13 = .ok (.putfield 19, 3) := by decide +kernel
theorem dX2_copyFrom_16 : decode cX2_copyFrom 16 = .ok (.aload_n 1, 1) := by decide +kernel
theorem dX2_copyFrom_17 : decode cX2_copyFrom 17 = .ok (.getfield 13, 3) := by decide +kernel
theorem dX2_copyFrom_20 : decode cX2_copyFrom 20 = .ok (.iconst 0, 1) := by decide +kernel
theorem dX2_copyFrom_21 : decode cX2_copyFrom 21 = .ok (.aload_n 0, 1) := by decide +kernel
theorem dX2_copyFrom_22 : decode cX2_copyFrom 22 = .ok (.getfield 13, 3) := by decide +kernel
theorem dX2_copyFrom_25 : decode cX2_copyFrom 25 = .ok (.iconst 0, 1) := by decide +kernel
theorem dX2_copyFrom_26 : decode cX2_copyFrom 26 = .ok (.aload_n 0, 1) := by decide +kernel
theorem dX2_copyFrom_27 : decode cX2_copyFrom 27 = .ok (.getfield 19, 3) := by decide +kernel
theorem dX2_copyFrom_30 : decode cX2_copyFrom 30 = .ok (.invokestatic 30, 3) := by decide +kernel
theorem dX2_copyFrom_33 : decode cX2_copyFrom 33 = .ok (.return_, 1) := by decide +kernel
theorem dX2_copyRun_0 : decode cX2_copyRun 0 = .ok (.aload_n 0, 1) := by decide +kernel
theorem dX2_copyRun_1 : decode cX2_copyRun 1 = .ok (.iload_n 1, 1) := by decide +kernel
theorem dX2_copyRun_2 : decode cX2_copyRun 2 = .ok (.iload 4, 2) := by decide +kernel
theorem dX2_copyRun_4 : decode cX2_copyRun 4 = .ok (.invokevirtual 36, 3) := by decide +kernel
theorem dX2_copyRun_7 : decode cX2_copyRun 7 = .ok (.ifCond .eq 28, 3) := by decide +kernel
theorem dX2_copyRun_10 : decode cX2_copyRun 10 = .ok (.aload_n 2, 1) := by decide +kernel
theorem dX2_copyRun_11 : decode cX2_copyRun 11 = .ok (.iload_n 3, 1) := by decide +kernel
theorem dX2_copyRun_12 : decode cX2_copyRun 12 = .ok (.iload 4, 2) := by decide +kernel
theorem dX2_copyRun_14 : decode cX2_copyRun 14 = .ok (.invokevirtual 36, 3) := by decide +kernel
theorem dX2_copyRun_17 : decode cX2_copyRun 17 = .ok (.ifCond .eq 18, 3) := by decide +kernel
theorem dX2_copyRun_20 : decode cX2_copyRun 20 = .ok (.aload_n 2, 1) := by decide +kernel
theorem dX2_copyRun_21 : decode cX2_copyRun 21 = .ok (.getfield 13, 3) := by decide +kernel
theorem dX2_copyRun_24 : decode cX2_copyRun 24 = .ok (.iload_n 3, 1) := by decide +kernel
theorem dX2_copyRun_25 : decode cX2_copyRun 25 = .ok (.aload_n 0, 1) := by decide +kernel
theorem dX2_copyRun_26 : decode cX2_copyRun 26 = .ok (.getfield 13, 3) := by decide +kernel
theorem dX2_copyRun_29 : decode cX2_copyRun 29 = .ok (.iload_n 1, 1) := by decide +kernel
theorem dX2_copyRun_30 : decode cX2_copyRun 30 = .ok (.iload 4, 2) := by decide +kernel
theorem dX2_copyRun_32 : decode cX2_copyRun 32 = .ok (.invokestatic 30, 3) := by decide +kernel
theorem dX2_copyRun_35 : decode cX2_copyRun 35 = .ok (.return_, 1) := by decide +kernel
theorem dX3_init_0 : decode cX3_init 0 = .ok (.aload_n 0, 1) := by decide +kernel
theorem dX3_init_1 : decode cX3_init 1 = .ok (.invokespecial 3, 3) := by decide +kernel
theorem dX3_init_4 : decode cX3_init 4 = .ok (.aload_n 0, 1) := by decide +kernel
theorem dX3_init_5 : decode cX3_init 5 = .ok (.new 9, 3) := by decide +kernel
theorem dX3_init_8 : decode cX3_init 8 = .ok (.dup, 1) := by decide +kernel
theorem dX3_init_9 : decode cX3_init 9 = .ok (.bipush 60, 2) := by decide +kernel
theorem dX3_init_11 : decode cX3_init 11 = .ok (.invokespecial 11, 3) := by decide +kernel
theorem dX3_init_14 : decode cX3_init 14 = .ok (.putfield 14, 3) := by decide +kernel
theorem dX3_init_17 : decode cX3_init 17 = .ok (.aload_n 0, 1) := by decide +kernel
theorem dX3_init_18 : decode cX3_init 18 = .ok (.bipush 60, 2) := by decide +kernel
theorem dX3_init_20 : decode cX3_init 20 = .ok (.newarray .int, 2) := by decide +kernel
theorem dX3_init_22 : decode cX3_init 22 = .ok (.putfield 20, 3) := by decide +kernel
theorem dX3_init_25 : decode cX3_init 25 = .ok (.return_, 1) := by decide +kernel
theorem dX3_isThere_0 : decode cX3_isThere 0 = .ok (.aload_n 0, 1) := by decide +kernel
theorem dX3_isThere_1 : decode cX3_isThere 1 = .ok (.getfield 14, 3) := by decide +kernel
theorem dX3_isThere_4 : decode cX3_isThere 4 = .ok (.getfield 24, 3) := by decide +kernel
theorem dX3_isThere_7 : decode cX3_isThere 7 = .ok (.ifCond .le 7, 3) := by decide +kernel
theorem dX3_isThere_10 : decode cX3_isThere 10 = .ok (.iconst 1, 1) := by decide +kernel
theorem dX3_isThere_11 : decode cX3_isThere 11 = .ok (.goto 4, 3) := by decide +kernel
theorem dX3_isThere_14 : decode cX3_isThere 14 = .ok (.iconst 0, 1) := by decide +kernel
theorem dX3_isThere_15 : decode cX3_isThere 15 = .ok (.ireturn, 1) := by decide +kernel
theorem dX3_clear_0 : decode cX3_clear 0 = .ok (.aload_n 0, 1) := by decide +kernel
theorem dX3_clear_1 : decode cX3_clear 1 = .ok (.getfield 14, 3) := by decide +kernel
theorem dX3_clear_4 : decode cX3_clear 4 = .ok (.invokevirtual 28, 3) := by decide +kernel
theorem dX3_clear_7 : decode cX3_clear 7 = .ok (.return_, 1) := by decide +kernel
theorem dX3_copyFrom_0 : decode cX3_copyFrom 0 = .ok (.aload_n 0, 1) := by decide +kernel
theorem dX3_copyFrom_1 : decode cX3_copyFrom 1 = .ok (.getfield 14, 3) := by decide +kernel
theorem dX3_copyFrom_4 : decode cX3_copyFrom 4 = .ok (.aload_n 1, 1) := by decide +kernel
theorem dX3_copyFrom_5 : decode cX3_copyFrom 5 = .ok (.getfield 14, 3) := by decide +kernel
theorem dX3_copyFrom_8 : decode cX3_copyFrom 8 = .ok (.invokevirtual 31, 3) := by decide +kernel
theorem dX3_copyFrom_11 : decode cX3_copyFrom 11 = .ok (.return_, 1) := by decide +kernel
theorem dX3_addNumber_0 : decode cX3_addNumber 0 = .ok (.aload_n 0, 1) := by decide +kernel
theorem dX3_addNumber_1 : decode cX3_addNumber 1 = .ok (.getfield 14, 3) := by decide +kernel
theorem dX3_addNumber_4 : decode cX3_addNumber 4 = .ok (.iload_n 1, 1) := by decide +kernel
theorem dX3_addNumber_5 : decode cX3_addNumber 5 = .ok (.invokevirtual 35, 3) := by decide +kernel
theorem dX3_addNumber_8 : decode cX3_addNumber 8 = .ok (.return_, 1) := by decide +kernel
theorem dX3_addName_0 : decode cX3_addName 0 = .ok (.aload_n 0, 1) := by decide +kernel
theorem dX3_addName_1 : decode cX3_addName 1 = .ok (.getfield 14, 3) := by decide +kernel
theorem dX3_addName_4 : decode cX3_addName 4 = .ok (.iconst (-1), 1) := by decide +kernel
theorem dX3_addName_5 : decode cX3_addName 5 = .ok (.iload_n 1, 1) := by decide +kernel
theorem dX3_addName_6 : decode cX3_addName 6 = .ok (.isub, 1) := by decide +kernel
theorem dX3_addName_7 : decode cX3_addName 7 = .ok (.invokevirtual 35, 3) := by decide +kernel
theorem dX3_addName_10 : decode cX3_addName 10 = .ok (.return_, 1) := by decide +kernel
theorem dX3_addSign_0 : decode cX3_addSign 0 = .ok (.aload_n 0, 1) := by decide +kernel
theorem dX3_addSign_1 : decode cX3_addSign 1 = .ok (.getfield 14, 3) := by decide +kernel
theorem dX3_addSign_4 : decode cX3_addSign 4 = .ok (.iload_n 1, 1) := by decide +kernel
theorem dX3_addSign_5 : decode cX3_addSign 5 = .ok (.ineg, 1) := by decide +kernel
theorem dX3_addSign_6 : decode cX3_addSign 6 = .ok (.invokevirtual 35, 3) := by decide +kernel
theorem dX3_addSign_9 : decode cX3_addSign 9 = .ok (.return_, 1) := by decide +kernel
theorem dX3_value_0 : decode cX3_value 0 = .ok (.aload_n 0, 1) := by decide +kernel
theorem dX3_value_1 : decode cX3_value 1 = .ok (.iconst 0, 1) := by decide +kernel
theorem dX3_value_2 : decode cX3_value 2 = .ok (.putfield 38, 3) := by decide +kernel
theorem dX3_value_5 : decode cX3_value 5 = .ok (.iconst 0, 1) := by decide +kernel
theorem dX3_value_6 : decode cX3_value 6 = .ok (.istore 5, 2) := by decide +kernel
theorem dX3_value_8 : decode cX3_value 8 = .ok (.iload 5, 2) := by decide +kernel
theorem dX3_value_10 : decode cX3_value 10 = .ok (.aload_n 0, 1) := by decide +kernel
theorem dX3_value_11 : decode cX3_value 11 = .ok (.getfield 14, 3) := by decide +kernel
theorem dX3_value_14 : decode cX3_value 14 = .ok (.getfield 24, 3) := by decide +kernel
theorem dX3_value_17 : decode cX3_value 17 = .ok (.if_icmp .ge 106, 3) := by decide +kernel
theorem dX3_value_20 : decode cX3_value 20 = .ok (.aload_n 0, 1) := by decide +kernel
theorem dX3_value_21 : decode cX3_value 21 = .ok (.getfield 14, 3) := by decide +kernel
theorem dX3_value_24 : decode cX3_value 24 = .ok (.iload 5, 2) := by decide +kernel
theorem dX3_value_26 : decode cX3_value 26 = .ok (.invokevirtual 41, 3) := by decide +kernel
theorem dX3_value_29 : decode cX3_value 29 = .ok (.istore 6, 2) := by decide +kernel
theorem dX3_value_31 : decode cX3_value 31 = .ok (.iload 6, 2) := by decide +kernel
theorem dX3_value_33 : decode cX3_value 33 = .ok (.ifCond .lt 12, 3) := by decide +kernel
theorem dX3_value_36 : decode cX3_value 36 = .ok (.aload_n 0, 1) := by decide +kernel
theorem dX3_value_37 : decode cX3_value 37 = .ok (.iload 6, 2) := by decide +kernel
theorem dX3_value_39 : decode cX3_value 39 = .ok (.invokevirtual 45, 3) := by decide +kernel
theorem dX3_value_42 : decode cX3_value 42 = .ok (.goto 75, 3) := by decide +kernel
theorem dX3_value_45 : decode cX3_value 45 = .ok (.iload 6, 2) := by decide +kernel
theorem dX3_value_47 : decode cX3_value 47 = .ok (.bipush (-4), 2) := by decide +kernel
theorem dX3_value_49 : decode cX3_value 49 = .ok (.if_icmp .lt 20, 3) := by decide +kernel
theorem dX3_value_52 : decode cX3_value 52 = .ok (.aload_n 0, 1) := by decide +kernel
theorem dX3_value_53 : decode cX3_value 53 = .ok (.iload 6, 2) := by decide +kernel
theorem dX3_value_55 : decode cX3_value 55 = .ok (.iload_n 1, 1) := by decide +kernel
theorem dX3_value_56 : decode cX3_value 56 = .ok (.iload_n 2, 1) := by decide +kernel
theorem dX3_value_57 : decode cX3_value 57 = .ok (.iload_n 3, 1) := by decide +kernel
theorem dX3_value_58 : decode cX3_value 58 = .ok (.iload 4, 2) := by decide +kernel
theorem dX3_value_60 : decode cX3_value 60 = .ok (.invokestatic 48, 3) := by decide +kernel
theorem dX3_value_63 : decode cX3_value 63 = .ok (.invokevirtual 45, 3) := by decide +kernel
theorem dX3_value_66 : decode cX3_value 66 = .ok (.goto 51, 3) := by decide +kernel
theorem dX3_value_69 : decode cX3_value 69 = .ok (.iload 6, 2) := by decide +kernel
theorem dX3_value_71 : decode cX3_value 71 = .ok (.bipush (-33), 2) := by decide +kernel
theorem dX3_value_73 : decode cX3_value 73 = .ok (.if_icmp .ne 22, 3) := by decide +kernel
theorem dX3_value_76 : decode cX3_value 76 = .ok (.aload_n 0, 1) := by decide +kernel
theorem dX3_value_77 : decode cX3_value 77 = .ok (.aload_n 0, 1) := by decide +kernel
theorem dX3_value_78 : decode cX3_value 78 = .ok (.invokevirtual 52, 3) := by decide +kernel
theorem dX3_value_81 : decode cX3_value 81 = .ok (.ifCond .ne 7, 3) := by decide +kernel
theorem dX3_value_84 : decode cX3_value 84 = .ok (.iconst 1, 1) := by decide +kernel
theorem dX3_value_85 : decode cX3_value 85 = .ok (.goto 4, 3) := by decide +kernel
theorem dX3_value_88 : decode cX3_value 88 = .ok (.iconst 0, 1) := by decide +kernel
theorem dX3_value_89 : decode cX3_value 89 = .ok (.invokevirtual 45, 3) := by decide +kernel
theorem dX3_value_92 : decode cX3_value 92 = .ok (.goto 25, 3) := by decide +kernel
theorem dX3_value_95 : decode cX3_value 95 = .ok (.aload_n 0, 1) := by decide +kernel
theorem dX3_value_96 : decode cX3_value 96 = .ok (.invokevirtual 52, 3) := by decide +kernel
theorem dX3_value_99 : decode cX3_value 99 = .ok (.istore 7, 2) := by decide +kernel
theorem dX3_value_101 : decode cX3_value 101 = .ok (.aload_n 0, 1) := by decide +kernel
theorem dX3_value_102 : decode cX3_value 102 = .ok (.iload 6, 2) := by decide +kernel
theorem dX3_value_104 : decode cX3_value 104 = .ok (.ineg, 1) := by decide +kernel
theorem dX3_value_105 : decode cX3_value 105 = .ok (.aload_n 0, 1) := by decide +kernel
theorem dX3_value_106 : decode cX3_value 106 = .ok (.invokevirtual 52, 3) := by decide +kernel
theorem dX3_value_109 : decode cX3_value 109 = .ok (.iload 7, 2) := by decide +kernel
theorem dX3_value_111 : decode cX3_value 111 = .ok (.invokestatic 56, 3) := by decide +kernel
theorem dX3_value_114 : decode cX3_value 114 = .ok (.invokevirtual 45, 3) := by decide +kernel
theorem dX3_value_117 : decode cX3_value 117 = .ok (.iinc 5 1, 3) := by decide +kernel
theorem dX3_value_120 : decode cX3_value 120 = .ok (.goto (-112), 3) := by decide +kernel
theorem dX3_value_123 : decode cX3_value 123 = .ok (.aload_n 0, 1) := by decide +kernel
theorem dX3_value_124 : decode cX3_value 124 = .ok (.invokevirtual 52, 3) := by decide +kernel
theorem dX3_value_127 : decode cX3_value 127 = .ok (.ireturn, 1) := by decide +kernel
theorem dX3_push_0 : decode cX3_push 0 = .ok (.aload_n 0, 1) := by decide +kernel
theorem dX3_push_1 : decode cX3_push 1 = .ok (.getfield 38, 3) := by decide +kernel
theorem dX3_push_4 : decode cX3_push 4 = .ok (.aload_n 0, 1) := by decide +kernel
theorem dX3_push_5 : decode cX3_push 5 = .ok (.getfield 20, 3) := by decide +kernel
theorem dX3_push_8 : decode cX3_push 8 = .ok (.arraylength, 1) := by decide +kernel
theorem dX3_push_9 : decode cX3_push 9 = .ok (.if_icmp .ge 23, 3) := by decide +kernel
theorem dX3_push_12 : decode cX3_push 12 = .ok (.aload_n 0, 1) := by decide +kernel
theorem dX3_push_13 : decode cX3_push 13 = .ok (.getfield 20, 3) := by decide +kernel
theorem dX3_push_16 : decode cX3_push 16 = .ok (.aload_n 0, 1) := by decide +kernel
theorem dX3_push_17 : decode cX3_push 17 = .ok (.getfield 38, 3) := by decide +kernel
theorem dX3_push_20 : decode cX3_push 20 = .ok (.iload_n 1, 1) := by decide +kernel
theorem dX3_push_21 : decode cX3_push 21 = .ok (.iastore, 1) := by decide +kernel
theorem dX3_push_22 : decode cX3_push 22 = .ok (.aload_n 0, 1) := by decide +kernel
theorem dX3_push_23 : decode cX3_push 23 = .ok (.dup, 1) := by decide +kernel
theorem dX3_push_24 : decode cX3_push 24 = .ok (.getfield 38, 3) := by decide +kernel
theorem dX3_push_27 : decode cX3_push 27 = .ok (.iconst 1, 1) := by decide +kernel
theorem dX3_push_28 : decode cX3_push 28 = .ok (.iadd, 1) := by decide +kernel
theorem dX3_push_29 : decode cX3_push 29 = .ok (.putfield 38, 3) := by decide +kernel
theorem dX3_push_32 : decode cX3_push 32 = .ok (.return_, 1) := by decide +kernel
theorem dX3_pop_0 : decode cX3_pop 0 = .ok (.aload_n 0, 1) := by decide +kernel
theorem dX3_pop_1 : decode cX3_pop 1 = .ok (.getfield 38, 3) := by decide +kernel
theorem dX3_pop_4 : decode cX3_pop 4 = .ok (.ifCond .gt 5, 3) := by decide +kernel
theorem dX3_pop_7 : decode cX3_pop 7 = .ok (.iconst 0, 1) := by decide +kernel
theorem dX3_pop_8 : decode cX3_pop 8 = .ok (.ireturn, 1) := by decide +kernel
theorem dX3_pop_9 : decode cX3_pop 9 = .ok (.aload_n 0, 1) := by decide +kernel
theorem dX3_pop_10 : decode cX3_pop 10 = .ok (.dup, 1) := by decide +kernel
theorem dX3_pop_11 : decode cX3_pop 11 = .ok (.getfield 38, 3) := by decide +kernel
theorem dX3_pop_14 : decode cX3_pop 14 = .ok (.iconst 1, 1) := by decide +kernel
theorem dX3_pop_15 : decode cX3_pop 15 = .ok (.isub, 1) := by decide +kernel
theorem dX3_pop_16 : decode cX3_pop 16 = .ok (.putfield 38, 3) := by decide +kernel
theorem dX3_pop_19 : decode cX3_pop 19 = .ok (.aload_n 0, 1) := by decide +kernel
theorem dX3_pop_20 : decode cX3_pop 20 = .ok (.getfield 20, 3) := by decide +kernel
theorem dX3_pop_23 : decode cX3_pop 23 = .ok (.aload_n 0, 1) := by decide +kernel
theorem dX3_pop_24 : decode cX3_pop 24 = .ok (.getfield 38, 3) := by decide +kernel
theorem dX3_pop_27 : decode cX3_pop 27 = .ok (.iaload, 1) := by decide +kernel
theorem dX3_pop_28 : decode cX3_pop 28 = .ok (.ireturn, 1) := by decide +kernel
theorem dX3_named_0 : decode cX3_named 0 = .ok (.iload_n 0, 1) := by decide +kernel
theorem dX3_named_1 : decode cX3_named 1 = .ok (.tableswitch 33 (-3) (-1) #[31, 29, 27], 27) := by decide +kernel
theorem dX3_named_28 : decode cX3_named 28 = .ok (.iload_n 1, 1) := by decide +kernel
theorem dX3_named_29 : decode cX3_named 29 = .ok (.ireturn, 1) := by decide +kernel
theorem dX3_named_30 : decode cX3_named 30 = .ok (.iload_n 2, 1) := by decide +kernel
theorem dX3_named_31 : decode cX3_named 31 = .ok (.ireturn, 1) := by decide +kernel
theorem dX3_named_32 : decode cX3_named 32 = .ok (.iload_n 3, 1) := by decide +kernel
theorem dX3_named_33 : decode cX3_named 33 = .ok (.ireturn, 1) := by decide +kernel
theorem dX3_named_34 : decode cX3_named 34 = .ok (.iload 4, 2) := by decide +kernel
theorem dX3_named_36 : decode cX3_named 36 = .ok (.ireturn, 1) := by decide +kernel
theorem dX3_joined_0 : decode cX3_joined 0 = .ok (.iload_n 0, 1) := by decide +kernel
theorem dX3_joined_1 : decode cX3_joined 1 = .ok (.lookupswitch 168 #[(38, 97), (42, 152), (43, 144), (45, 148), (47, 156), (60, 111), (61, 122), (62, 133), (124, 83)], 83) := by decide +kernel
theorem dX3_joined_84 : decode cX3_joined 84 = .ok (.iload_n 1, 1) := by decide +kernel
theorem dX3_joined_85 : decode cX3_joined 85 = .ok (.ifCond .ne 7, 3) := by decide +kernel
theorem dX3_joined_88 : decode cX3_joined 88 = .ok (.iload_n 2, 1) := by decide +kernel
theorem dX3_joined_89 : decode cX3_joined 89 = .ok (.ifCond .eq 7, 3) := by decide +kernel
theorem dX3_joined_92 : decode cX3_joined 92 = .ok (.iconst 1, 1) := by decide +kernel
theorem dX3_joined_93 : decode cX3_joined 93 = .ok (.goto 4, 3) := by decide +kernel
theorem dX3_joined_96 : decode cX3_joined 96 = .ok (.iconst 0, 1) := by decide +kernel
theorem dX3_joined_97 : decode cX3_joined 97 = .ok (.ireturn, 1) := by decide +kernel
theorem dX3_joined_98 : decode cX3_joined 98 = .ok (.iload_n 1, 1) := by decide +kernel
theorem dX3_joined_99 : decode cX3_joined 99 = .ok (.ifCond .eq 11, 3) := by decide +kernel
theorem dX3_joined_102 : decode cX3_joined 102 = .ok (.iload_n 2, 1) := by decide +kernel
theorem dX3_joined_103 : decode cX3_joined 103 = .ok (.ifCond .eq 7, 3) := by decide +kernel
theorem dX3_joined_106 : decode cX3_joined 106 = .ok (.iconst 1, 1) := by decide +kernel
theorem dX3_joined_107 : decode cX3_joined 107 = .ok (.goto 4, 3) := by decide +kernel
theorem dX3_joined_110 : decode cX3_joined 110 = .ok (.iconst 0, 1) := by decide +kernel
theorem dX3_joined_111 : decode cX3_joined 111 = .ok (.ireturn, 1) := by decide +kernel
theorem dX3_joined_112 : decode cX3_joined 112 = .ok (.iload_n 1, 1) := by decide +kernel
theorem dX3_joined_113 : decode cX3_joined 113 = .ok (.iload_n 2, 1) := by decide +kernel
theorem dX3_joined_114 : decode cX3_joined 114 = .ok (.if_icmp .ge 7, 3) := by decide +kernel
theorem dX3_joined_117 : decode cX3_joined 117 = .ok (.iconst 1, 1) := by decide +kernel
theorem dX3_joined_118 : decode cX3_joined 118 = .ok (.goto 4, 3) := by decide +kernel
theorem dX3_joined_121 : decode cX3_joined 121 = .ok (.iconst 0, 1) := by decide +kernel
theorem dX3_joined_122 : decode cX3_joined 122 = .ok (.ireturn, 1) := by decide +kernel
theorem dX3_joined_123 : decode cX3_joined 123 = .ok (.iload_n 1, 1) := by decide +kernel
theorem dX3_joined_124 : decode cX3_joined 124 = .ok (.iload_n 2, 1) := by decide +kernel
theorem dX3_joined_125 : decode cX3_joined 125 = .ok (.if_icmp .ne 7, 3) := by decide +kernel
theorem dX3_joined_128 : decode cX3_joined 128 = .ok (.iconst 1, 1) := by decide +kernel
theorem dX3_joined_129 : decode cX3_joined 129 = .ok (.goto 4, 3) := by decide +kernel
theorem dX3_joined_132 : decode cX3_joined 132 = .ok (.iconst 0, 1) := by decide +kernel
theorem dX3_joined_133 : decode cX3_joined 133 = .ok (.ireturn, 1) := by decide +kernel
theorem dX3_joined_134 : decode cX3_joined 134 = .ok (.iload_n 1, 1) := by decide +kernel
theorem dX3_joined_135 : decode cX3_joined 135 = .ok (.iload_n 2, 1) := by decide +kernel
theorem dX3_joined_136 : decode cX3_joined 136 = .ok (.if_icmp .le 7, 3) := by decide +kernel
theorem dX3_joined_139 : decode cX3_joined 139 = .ok (.iconst 1, 1) := by decide +kernel
theorem dX3_joined_140 : decode cX3_joined 140 = .ok (.goto 4, 3) := by decide +kernel
theorem dX3_joined_143 : decode cX3_joined 143 = .ok (.iconst 0, 1) := by decide +kernel
theorem dX3_joined_144 : decode cX3_joined 144 = .ok (.ireturn, 1) := by decide +kernel
theorem dX3_joined_145 : decode cX3_joined 145 = .ok (.iload_n 1, 1) := by decide +kernel
theorem dX3_joined_146 : decode cX3_joined 146 = .ok (.iload_n 2, 1) := by decide +kernel
theorem dX3_joined_147 : decode cX3_joined 147 = .ok (.iadd, 1) := by decide +kernel
theorem dX3_joined_148 : decode cX3_joined 148 = .ok (.ireturn, 1) := by decide +kernel
theorem dX3_joined_149 : decode cX3_joined 149 = .ok (.iload_n 1, 1) := by decide +kernel
theorem dX3_joined_150 : decode cX3_joined 150 = .ok (.iload_n 2, 1) := by decide +kernel
theorem dX3_joined_151 : decode cX3_joined 151 = .ok (.isub, 1) := by decide +kernel
theorem dX3_joined_152 : decode cX3_joined 152 = .ok (.ireturn, 1) := by decide +kernel
theorem dX3_joined_153 : decode cX3_joined 153 = .ok (.iload_n 1, 1) := by decide +kernel
theorem dX3_joined_154 : decode cX3_joined 154 = .ok (.iload_n 2, 1) := by decide +kernel
theorem dX3_joined_155 : decode cX3_joined 155 = .ok (.imul, 1) := by decide +kernel
theorem dX3_joined_156 : decode cX3_joined 156 = .ok (.ireturn, 1) := by decide +kernel
theorem dX3_joined_157 : decode cX3_joined 157 = .ok (.iload_n 2, 1) := by decide +kernel
theorem dX3_joined_158 : decode cX3_joined 158 = .ok (.ifCond .ne 7, 3) := by decide +kernel
theorem dX3_joined_161 : decode cX3_joined 161 = .ok (.iconst 0, 1) := by decide +kernel
theorem dX3_joined_162 : decode cX3_joined 162 = .ok (.goto 6, 3) := by decide +kernel
theorem dX3_joined_165 : decode cX3_joined 165 = .ok (.iload_n 1, 1) := by decide +kernel
theorem dX3_joined_166 : decode cX3_joined 166 = .ok (.iload_n 2, 1) := by decide +kernel
theorem dX3_joined_167 : decode cX3_joined 167 = .ok (.idiv, 1) := by decide +kernel
theorem dX3_joined_168 : decode cX3_joined 168 = .ok (.ireturn, 1) := by decide +kernel
theorem dX3_joined_169 : decode cX3_joined 169 = .ok (.iload_n 2, 1) := by decide +kernel
theorem dX3_joined_170 : decode cX3_joined 170 = .ok (.ifCond .ne 7, 3) := by decide +kernel
theorem dX3_joined_173 : decode cX3_joined 173 = .ok (.iconst 0, 1) := by decide +kernel
theorem dX3_joined_174 : decode cX3_joined 174 = .ok (.goto 6, 3) := by decide +kernel
theorem dX3_joined_177 : decode cX3_joined 177 = .ok (.iload_n 1, 1) := by decide +kernel
theorem dX3_joined_178 : decode cX3_joined 178 = .ok (.iload_n 2, 1) := by decide +kernel
theorem dX3_joined_179 : decode cX3_joined 179 = .ok (.irem, 1) := by decide +kernel
theorem dX3_joined_180 : decode cX3_joined 180 = .ok (.ireturn, 1) := by decide +kernel
theorem dX4_init_0 : decode cX4_init 0 = .ok (.aload_n 0, 1) := by decide +kernel
theorem dX4_init_1 : decode cX4_init 1 = .ok (.invokespecial 3, 3) := by decide +kernel
theorem dX4_init_4 : decode cX4_init 4 = .ok (.aload_n 0, 1) := by decide +kernel
theorem dX4_init_5 : decode cX4_init 5 = .ok (.new 9, 3) := by decide +kernel
theorem dX4_init_8 : decode cX4_init 8 = .ok (.dup, 1) := by decide +kernel
theorem dX4_init_9 : decode cX4_init 9 = .ok (.bipush 30, 2) := by decide +kernel
theorem dX4_init_11 : decode cX4_init 11 = .ok (.invokespecial 11, 3) := by decide +kernel
theorem dX4_init_14 : decode cX4_init 14 = .ok (.putfield 14, 3) := by decide +kernel
theorem dX4_init_17 : decode cX4_init 17 = .ok (.return_, 1) := by decide +kernel
theorem dX4_begin_0 : decode cX4_begin 0 = .ok (.aload_n 0, 1) := by decide +kernel
theorem dX4_begin_1 : decode cX4_begin 1 = .ok (.iload_n 1, 1) := by decide +kernel
theorem dX4_begin_2 : decode cX4_begin 2 = .ok (.putfield 20, 3) := by decide +kernel
theorem dX4_begin_5 : decode cX4_begin 5 = .ok (.aload_n 0, 1) := by decide +kernel
theorem dX4_begin_6 : decode cX4_begin 6 = .ok (.iload_n 2, 1) := by decide +kernel
theorem dX4_begin_7 : decode cX4_begin 7 = .ok (.putfield 24, 3) := by decide +kernel
theorem dX4_begin_10 : decode cX4_begin 10 = .ok (.aload_n 0, 1) := by decide +kernel
theorem dX4_begin_11 : decode cX4_begin 11 = .ok (.iload_n 3, 1) := by decide +kernel
theorem dX4_begin_12 : decode cX4_begin 12 = .ok (.putfield 27, 3) := by decide +kernel
theorem dX4_begin_15 : decode cX4_begin 15 = .ok (.aload_n 0, 1) := by decide +kernel
theorem dX4_begin_16 : decode cX4_begin 16 = .ok (.iconst 0, 1) := by decide +kernel
theorem dX4_begin_17 : decode cX4_begin 17 = .ok (.putfield 30, 3) := by decide +kernel
theorem dX4_begin_20 : decode cX4_begin 20 = .ok (.aload_n 0, 1) := by decide +kernel
theorem dX4_begin_21 : decode cX4_begin 21 = .ok (.getfield 14, 3) := by decide +kernel
theorem dX4_begin_24 : decode cX4_begin 24 = .ok (.invokevirtual 34, 3) := by decide +kernel
theorem dX4_begin_27 : decode cX4_begin 27 = .ok (.aload_n 0, 1) := by decide +kernel
theorem dX4_begin_28 : decode cX4_begin 28 = .ok (.aload_n 0, 1) := by decide +kernel
theorem dX4_begin_29 : decode cX4_begin 29 = .ok (.iload_n 1, 1) := by decide +kernel
theorem dX4_begin_30 : decode cX4_begin 30 = .ok (.iload 4, 2) := by decide +kernel
theorem dX4_begin_32 : decode cX4_begin 32 = .ok (.iload 5, 2) := by decide +kernel
theorem dX4_begin_34 : decode cX4_begin 34 = .ok (.iconst 0, 1) := by decide +kernel
theorem dX4_begin_35 : decode cX4_begin 35 = .ok (.invokevirtual 37, 3) := by decide +kernel
theorem dX4_begin_38 : decode cX4_begin 38 = .ok (.putfield 41, 3) := by decide +kernel
theorem dX4_begin_41 : decode cX4_begin 41 = .ok (.aload_n 0, 1) := by decide +kernel
theorem dX4_begin_42 : decode cX4_begin 42 = .ok (.getfield 30, 3) := by decide +kernel
theorem dX4_begin_45 : decode cX4_begin 45 = .ok (.ifCond .ne 7, 3) := by decide +kernel
theorem dX4_begin_48 : decode cX4_begin 48 = .ok (.iconst 1, 1) := by decide +kernel
theorem dX4_begin_49 : decode cX4_begin 49 = .ok (.goto 4, 3) := by decide +kernel
theorem dX4_begin_52 : decode cX4_begin 52 = .ok (.iconst 0, 1) := by decide +kernel
theorem dX4_begin_53 : decode cX4_begin 53 = .ok (.ireturn, 1) := by decide +kernel
theorem dX4_bodyOf_0 : decode cX4_bodyOf 0 = .ok (.iconst 4, 1) := by decide +kernel
theorem dX4_bodyOf_1 : decode cX4_bodyOf 1 = .ok (.iload_n 0, 1) := by decide +kernel
theorem dX4_bodyOf_2 : decode cX4_bodyOf 2 = .ok (.imul, 1) := by decide +kernel
theorem dX4_bodyOf_3 : decode cX4_bodyOf 3 = .ok (.iload_n 1, 1) := by decide +kernel
theorem dX4_bodyOf_4 : decode cX4_bodyOf 4 = .ok (.iadd, 1) := by decide +kernel
theorem dX4_bodyOf_5 : decode cX4_bodyOf 5 = .ok (.istore_n 2, 1) := by decide +kernel
theorem dX4_bodyOf_6 : decode cX4_bodyOf 6 = .ok (.iload_n 2, 1) := by decide +kernel
theorem dX4_bodyOf_7 : decode cX4_bodyOf 7 = .ok (.ifCond .lt 19, 3) := by decide +kernel
theorem dX4_bodyOf_10 : decode cX4_bodyOf 10 = .ok (.iload_n 2, 1) := by decide +kernel
theorem dX4_bodyOf_11 : decode cX4_bodyOf 11 = .ok (.getstatic 44, 3) := by decide +kernel
theorem dX4_bodyOf_14 : decode cX4_bodyOf 14 = .ok (.arraylength, 1) := by decide +kernel
theorem dX4_bodyOf_15 : decode cX4_bodyOf 15 = .ok (.if_icmp .ge 11, 3) := by decide +kernel
theorem dX4_bodyOf_18 : decode cX4_bodyOf 18 = .ok (.getstatic 44, 3) := by decide +kernel
theorem dX4_bodyOf_21 : decode cX4_bodyOf 21 = .ok (.iload_n 2, 1) := by decide +kernel
theorem dX4_bodyOf_22 : decode cX4_bodyOf 22 = .ok (.iaload, 1) := by decide +kernel
theorem dX4_bodyOf_23 : decode cX4_bodyOf 23 = .ok (.goto 4, 3) := by decide +kernel
theorem dX4_bodyOf_26 : decode cX4_bodyOf 26 = .ok (.iconst 0, 1) := by decide +kernel
theorem dX4_bodyOf_27 : decode cX4_bodyOf 27 = .ok (.ireturn, 1) := by decide +kernel
theorem dX4_speak_0 : decode cX4_speak 0 = .ok (.iload_n 1, 1) := by decide +kernel
theorem dX4_speak_1 : decode cX4_speak 1 = .ok (.istore 5, 2) := by decide +kernel
theorem dX4_speak_3 : decode cX4_speak 3 = .ok (.iconst 0, 1) := by decide +kernel
theorem dX4_speak_4 : decode cX4_speak 4 = .ok (.istore 6, 2) := by decide +kernel
theorem dX4_speak_6 : decode cX4_speak 6 = .ok (.iload 6, 2) := by decide +kernel
theorem dX4_speak_8 : decode cX4_speak 8 = .ok (.bipush 7, 2) := by decide +kernel
theorem dX4_speak_10 : decode cX4_speak 10 = .ok (.if_icmp .ge 30, 3) := by decide +kernel
theorem dX4_speak_13 : decode cX4_speak 13 = .ok (.iload 5, 2) := by decide +kernel
theorem dX4_speak_15 : decode cX4_speak 15 = .ok (.ifCond .le 25, 3) := by decide +kernel
theorem dX4_speak_18 : decode cX4_speak 18 = .ok (.iload 5, 2) := by decide +kernel
theorem dX4_speak_20 : decode cX4_speak 20 = .ok (.iload_n 2, 1) := by decide +kernel
theorem dX4_speak_21 : decode cX4_speak 21 = .ok (.invokestatic 48, 3) := by decide +kernel
theorem dX4_speak_24 : decode cX4_speak 24 = .ok (.ifCond .ne 16, 3) := by decide +kernel
theorem dX4_speak_27 : decode cX4_speak 27 = .ok (.iload 5, 2) := by decide +kernel
theorem dX4_speak_29 : decode cX4_speak 29 = .ok (.invokestatic 52, 3) := by decide +kernel
theorem dX4_speak_32 : decode cX4_speak 32 = .ok (.istore 5, 2) := by decide +kernel
theorem dX4_speak_34 : decode cX4_speak 34 = .ok (.iinc 6 1, 3) := by decide +kernel
theorem dX4_speak_37 : decode cX4_speak 37 = .ok (.goto (-31), 3) := by decide +kernel
theorem dX4_speak_40 : decode cX4_speak 40 = .ok (.aload_n 0, 1) := by decide +kernel
theorem dX4_speak_41 : decode cX4_speak 41 = .ok (.getfield 30, 3) := by decide +kernel
theorem dX4_speak_44 : decode cX4_speak 44 = .ok (.ifCond .ne 10, 3) := by decide +kernel
theorem dX4_speak_47 : decode cX4_speak 47 = .ok (.iload 4, 2) := by decide +kernel
theorem dX4_speak_49 : decode cX4_speak 49 = .ok (.bipush 12, 2) := by decide +kernel
theorem dX4_speak_51 : decode cX4_speak 51 = .ok (.if_icmp .le 5, 3) := by decide +kernel
theorem dX4_speak_54 : decode cX4_speak 54 = .ok (.iconst 0, 1) := by decide +kernel
theorem dX4_speak_55 : decode cX4_speak 55 = .ok (.ireturn, 1) := by decide +kernel
theorem dX4_speak_56 : decode cX4_speak 56 = .ok (.iload 5, 2) := by decide +kernel
theorem dX4_speak_58 : decode cX4_speak 58 = .ok (.iload_n 2, 1) := by decide +kernel
theorem dX4_speak_59 : decode cX4_speak 59 = .ok (.invokestatic 48, 3) := by decide +kernel
theorem dX4_speak_62 : decode cX4_speak 62 = .ok (.istore 6, 2) := by decide +kernel
theorem dX4_speak_64 : decode cX4_speak 64 = .ok (.aload_n 0, 1) := by decide +kernel
theorem dX4_speak_65 : decode cX4_speak 65 = .ok (.getfield 14, 3) := by decide +kernel
theorem dX4_speak_68 : decode cX4_speak 68 = .ok (.iload 6, 2) := by decide +kernel
theorem dX4_speak_70 : decode cX4_speak 70 = .ok (.invokevirtual 56, 3) := by decide +kernel
theorem dX4_speak_73 : decode cX4_speak 73 = .ok (.aload_n 0, 1) := by decide +kernel
theorem dX4_speak_74 : decode cX4_speak 74 = .ok (.iload 6, 2) := by decide +kernel
theorem dX4_speak_76 : decode cX4_speak 76 = .ok (.iload 5, 2) := by decide +kernel
theorem dX4_speak_78 : decode cX4_speak 78 = .ok (.invokestatic 52, 3) := by decide +kernel
theorem dX4_speak_81 : decode cX4_speak 81 = .ok (.iload_n 3, 1) := by decide +kernel
theorem dX4_speak_82 : decode cX4_speak 82 = .ok (.iload 4, 2) := by decide +kernel
theorem dX4_speak_84 : decode cX4_speak 84 = .ok (.iconst 1, 1) := by decide +kernel
theorem dX4_speak_85 : decode cX4_speak 85 = .ok (.iadd, 1) := by decide +kernel
theorem dX4_speak_86 : decode cX4_speak 86 = .ok (.invokevirtual 59, 3) := by decide +kernel
theorem dX4_speak_89 : decode cX4_speak 89 = .ok (.ireturn, 1) := by decide +kernel
theorem dX4_say_0 : decode cX4_say 0 = .ok (.iload_n 1, 1) := by decide +kernel
theorem dX4_say_1 : decode cX4_say 1 = .ok (.lookupswitch 280 #[(10, 115), (11, 122), (12, 137), (13, 155), (20, 161), (21, 173), (30, 200), (40, 212), (50, 224), (51, 236), (60, 251), (70, 263), (71, 265)], 115) := by decide +kernel
theorem dX4_say_116 : decode cX4_say 116 = .ok (.iload_n 3, 1) := by decide +kernel
theorem dX4_say_117 : decode cX4_say 117 = .ok (.aload_n 0, 1) := by decide +kernel
theorem dX4_say_118 : decode cX4_say 118 = .ok (.getfield 24, 3) := by decide +kernel
theorem dX4_say_121 : decode cX4_say 121 = .ok (.iadd, 1) := by decide +kernel
theorem dX4_say_122 : decode cX4_say 122 = .ok (.ireturn, 1) := by decide +kernel
theorem dX4_say_123 : decode cX4_say 123 = .ok (.aload_n 0, 1) := by decide +kernel
theorem dX4_say_124 : decode cX4_say 124 = .ok (.aload_n 0, 1) := by decide +kernel
theorem dX4_say_125 : decode cX4_say 125 = .ok (.getfield 20, 3) := by decide +kernel
theorem dX4_say_128 : decode cX4_say 128 = .ok (.iconst 0, 1) := by decide +kernel
theorem dX4_say_129 : decode cX4_say 129 = .ok (.iload_n 3, 1) := by decide +kernel
theorem dX4_say_130 : decode cX4_say 130 = .ok (.iload 4, 2) := by decide +kernel
theorem dX4_say_132 : decode cX4_say 132 = .ok (.invokevirtual 37, 3) := by decide +kernel
theorem dX4_say_135 : decode cX4_say 135 = .ok (.iconst 2, 1) := by decide +kernel
theorem dX4_say_136 : decode cX4_say 136 = .ok (.imul, 1) := by decide +kernel
theorem dX4_say_137 : decode cX4_say 137 = .ok (.ireturn, 1) := by decide +kernel
theorem dX4_say_138 : decode cX4_say 138 = .ok (.aload_n 0, 1) := by decide +kernel
theorem dX4_say_139 : decode cX4_say 139 = .ok (.aload_n 0, 1) := by decide +kernel
theorem dX4_say_140 : decode cX4_say 140 = .ok (.getfield 20, 3) := by decide +kernel
theorem dX4_say_143 : decode cX4_say 143 = .ok (.iconst 1, 1) := by decide +kernel
theorem dX4_say_144 : decode cX4_say 144 = .ok (.iload_n 3, 1) := by decide +kernel
theorem dX4_say_145 : decode cX4_say 145 = .ok (.iload 4, 2) := by decide +kernel
theorem dX4_say_147 : decode cX4_say 147 = .ok (.invokevirtual 37, 3) := by decide +kernel
theorem dX4_say_150 : decode cX4_say 150 = .ok (.aload_n 0, 1) := by decide +kernel
theorem dX4_say_151 : decode cX4_say 151 = .ok (.getfield 27, 3) := by decide +kernel
theorem dX4_say_154 : decode cX4_say 154 = .ok (.isub, 1) := by decide +kernel
theorem dX4_say_155 : decode cX4_say 155 = .ok (.ireturn, 1) := by decide +kernel
theorem dX4_say_156 : decode cX4_say 156 = .ok (.aload_n 0, 1) := by decide +kernel
theorem dX4_say_157 : decode cX4_say 157 = .ok (.iload_n 3, 1) := by decide +kernel
theorem dX4_say_158 : decode cX4_say 158 = .ok (.invokevirtual 62, 3) := by decide +kernel
theorem dX4_say_161 : decode cX4_say 161 = .ok (.ireturn, 1) := by decide +kernel
theorem dX4_say_162 : decode cX4_say 162 = .ok (.aload_n 0, 1) := by decide +kernel
theorem dX4_say_163 : decode cX4_say 163 = .ok (.iload_n 2, 1) := by decide +kernel
theorem dX4_say_164 : decode cX4_say 164 = .ok (.iconst 0, 1) := by decide +kernel
theorem dX4_say_165 : decode cX4_say 165 = .ok (.iload_n 3, 1) := by decide +kernel
theorem dX4_say_166 : decode cX4_say 166 = .ok (.iload 4, 2) := by decide +kernel
theorem dX4_say_168 : decode cX4_say 168 = .ok (.invokevirtual 37, 3) := by decide +kernel
theorem dX4_say_171 : decode cX4_say 171 = .ok (.iconst 3, 1) := by decide +kernel
theorem dX4_say_172 : decode cX4_say 172 = .ok (.isub, 1) := by decide +kernel
theorem dX4_say_173 : decode cX4_say 173 = .ok (.ireturn, 1) := by decide +kernel
theorem dX4_say_174 : decode cX4_say 174 = .ok (.aload_n 0, 1) := by decide +kernel
theorem dX4_say_175 : decode cX4_say 175 = .ok (.iload_n 2, 1) := by decide +kernel
theorem dX4_say_176 : decode cX4_say 176 = .ok (.iconst 3, 1) := by decide +kernel
theorem dX4_say_177 : decode cX4_say 177 = .ok (.iload_n 3, 1) := by decide +kernel
theorem dX4_say_178 : decode cX4_say 178 = .ok (.iload 4, 2) := by decide +kernel
theorem dX4_say_180 : decode cX4_say 180 = .ok (.invokevirtual 37, 3) := by decide +kernel
theorem dX4_say_183 : decode cX4_say 183 = .ok (.istore 5, 2) := by decide +kernel
theorem dX4_say_185 : decode cX4_say 185 = .ok (.iload 5, 2) := by decide +kernel
theorem dX4_say_187 : decode cX4_say 187 = .ok (.aload_n 0, 1) := by decide +kernel
theorem dX4_say_188 : decode cX4_say 188 = .ok (.aload_n 0, 1) := by decide +kernel
theorem dX4_say_189 : decode cX4_say 189 = .ok (.getfield 20, 3) := by decide +kernel
theorem dX4_say_192 : decode cX4_say 192 = .ok (.iconst 1, 1) := by decide +kernel
theorem dX4_say_193 : decode cX4_say 193 = .ok (.iconst 1, 1) := by decide +kernel
theorem dX4_say_194 : decode cX4_say 194 = .ok (.iload 4, 2) := by decide +kernel
theorem dX4_say_196 : decode cX4_say 196 = .ok (.invokevirtual 37, 3) := by decide +kernel
theorem dX4_say_199 : decode cX4_say 199 = .ok (.iadd, 1) := by decide +kernel
theorem dX4_say_200 : decode cX4_say 200 = .ok (.ireturn, 1) := by decide +kernel
theorem dX4_say_201 : decode cX4_say 201 = .ok (.iconst 0, 1) := by decide +kernel
theorem dX4_say_202 : decode cX4_say 202 = .ok (.aload_n 0, 1) := by decide +kernel
theorem dX4_say_203 : decode cX4_say 203 = .ok (.iload_n 2, 1) := by decide +kernel
theorem dX4_say_204 : decode cX4_say 204 = .ok (.iconst 1, 1) := by decide +kernel
theorem dX4_say_205 : decode cX4_say 205 = .ok (.iload_n 3, 1) := by decide +kernel
theorem dX4_say_206 : decode cX4_say 206 = .ok (.iload 4, 2) := by decide +kernel
theorem dX4_say_208 : decode cX4_say 208 = .ok (.invokevirtual 37, 3) := by decide +kernel
theorem dX4_say_211 : decode cX4_say 211 = .ok (.isub, 1) := by decide +kernel
theorem dX4_say_212 : decode cX4_say 212 = .ok (.ireturn, 1) := by decide +kernel
theorem dX4_say_213 : decode cX4_say 213 = .ok (.aload_n 0, 1) := by decide +kernel
theorem dX4_say_214 : decode cX4_say 214 = .ok (.iload_n 2, 1) := by decide +kernel
theorem dX4_say_215 : decode cX4_say 215 = .ok (.iconst 2, 1) := by decide +kernel
theorem dX4_say_216 : decode cX4_say 216 = .ok (.iload_n 3, 1) := by decide +kernel
theorem dX4_say_217 : decode cX4_say 217 = .ok (.iconst 2, 1) := by decide +kernel
theorem dX4_say_218 : decode cX4_say 218 = .ok (.idiv, 1) := by decide +kernel
theorem dX4_say_219 : decode cX4_say 219 = .ok (.iload 4, 2) := by decide +kernel
theorem dX4_say_221 : decode cX4_say 221 = .ok (.invokevirtual 37, 3) := by decide +kernel
theorem dX4_say_224 : decode cX4_say 224 = .ok (.ireturn, 1) := by decide +kernel
theorem dX4_say_225 : decode cX4_say 225 = .ok (.aload_n 0, 1) := by decide +kernel
theorem dX4_say_226 : decode cX4_say 226 = .ok (.iload_n 2, 1) := by decide +kernel
theorem dX4_say_227 : decode cX4_say 227 = .ok (.iconst 0, 1) := by decide +kernel
theorem dX4_say_228 : decode cX4_say 228 = .ok (.iload_n 3, 1) := by decide +kernel
theorem dX4_say_229 : decode cX4_say 229 = .ok (.iload 4, 2) := by decide +kernel
theorem dX4_say_231 : decode cX4_say 231 = .ok (.invokevirtual 37, 3) := by decide +kernel
theorem dX4_say_234 : decode cX4_say 234 = .ok (.iconst 3, 1) := by decide +kernel
theorem dX4_say_235 : decode cX4_say 235 = .ok (.imul, 1) := by decide +kernel
theorem dX4_say_236 : decode cX4_say 236 = .ok (.ireturn, 1) := by decide +kernel
theorem dX4_say_237 : decode cX4_say 237 = .ok (.aload_n 0, 1) := by decide +kernel
theorem dX4_say_238 : decode cX4_say 238 = .ok (.iload_n 2, 1) := by decide +kernel
theorem dX4_say_239 : decode cX4_say 239 = .ok (.iconst 2, 1) := by decide +kernel
theorem dX4_say_240 : decode cX4_say 240 = .ok (.iload_n 3, 1) := by decide +kernel
theorem dX4_say_241 : decode cX4_say 241 = .ok (.iload 4, 2) := by decide +kernel
theorem dX4_say_243 : decode cX4_say 243 = .ok (.invokevirtual 37, 3) := by decide +kernel
theorem dX4_say_246 : decode cX4_say 246 = .ok (.aload_n 0, 1) := by decide +kernel
theorem dX4_say_247 : decode cX4_say 247 = .ok (.getfield 24, 3) := by decide +kernel
theorem dX4_say_250 : decode cX4_say 250 = .ok (.ixor, 1) := by decide +kernel
theorem dX4_say_251 : decode cX4_say 251 = .ok (.ireturn, 1) := by decide +kernel
theorem dX4_say_252 : decode cX4_say 252 = .ok (.aload_n 0, 1) := by decide +kernel
theorem dX4_say_253 : decode cX4_say 253 = .ok (.iload_n 2, 1) := by decide +kernel
theorem dX4_say_254 : decode cX4_say 254 = .ok (.iconst 1, 1) := by decide +kernel
theorem dX4_say_255 : decode cX4_say 255 = .ok (.iload_n 3, 1) := by decide +kernel
theorem dX4_say_256 : decode cX4_say 256 = .ok (.iconst 1, 1) := by decide +kernel
theorem dX4_say_257 : decode cX4_say 257 = .ok (.iadd, 1) := by decide +kernel
theorem dX4_say_258 : decode cX4_say 258 = .ok (.iload 4, 2) := by decide +kernel
theorem dX4_say_260 : decode cX4_say 260 = .ok (.invokevirtual 37, 3) := by decide +kernel
theorem dX4_say_263 : decode cX4_say 263 = .ok (.ireturn, 1) := by decide +kernel
theorem dX4_say_264 : decode cX4_say 264 = .ok (.iconst 4, 1) := by decide +kernel
theorem dX4_say_265 : decode cX4_say 265 = .ok (.ireturn, 1) := by decide +kernel
theorem dX4_say_266 : decode cX4_say 266 = .ok (.aload_n 0, 1) := by decide +kernel
theorem dX4_say_267 : decode cX4_say 267 = .ok (.iload_n 2, 1) := by decide +kernel
theorem dX4_say_268 : decode cX4_say 268 = .ok (.iconst 1, 1) := by decide +kernel
theorem dX4_say_269 : decode cX4_say 269 = .ok (.iload_n 3, 1) := by decide +kernel
theorem dX4_say_270 : decode cX4_say 270 = .ok (.iload 4, 2) := by decide +kernel
theorem dX4_say_272 : decode cX4_say 272 = .ok (.invokevirtual 37, 3) := by decide +kernel
theorem dX4_say_275 : decode cX4_say 275 = .ok (.aload_n 0, 1) := by decide +kernel
theorem dX4_say_276 : decode cX4_say 276 = .ok (.getfield 27, 3) := by decide +kernel
theorem dX4_say_279 : decode cX4_say 279 = .ok (.iadd, 1) := by decide +kernel
theorem dX4_say_280 : decode cX4_say 280 = .ok (.ireturn, 1) := by decide +kernel
theorem dX4_say_281 : decode cX4_say 281 = .ok (.iconst 0, 1) := by decide +kernel
theorem dX4_say_282 : decode cX4_say 282 = .ok (.ireturn, 1) := by decide +kernel
theorem dX4_part_0 : decode cX4_part 0 = .ok (.aload_n 0, 1) := by decide +kernel
theorem dX4_part_1 : decode cX4_part 1 = .ok (.getfield 27, 3) := by decide +kernel
theorem dX4_part_4 : decode cX4_part 4 = .ok (.aload_n 0, 1) := by decide +kernel
theorem dX4_part_5 : decode cX4_part 5 = .ok (.getfield 24, 3) := by decide +kernel
theorem dX4_part_8 : decode cX4_part 8 = .ok (.isub, 1) := by decide +kernel
theorem dX4_part_9 : decode cX4_part 9 = .ok (.istore_n 2, 1) := by decide +kernel
theorem dX4_part_10 : decode cX4_part 10 = .ok (.iload_n 2, 1) := by decide +kernel
theorem dX4_part_11 : decode cX4_part 11 = .ok (.ifCond .ne 10, 3) := by decide +kernel
theorem dX4_part_14 : decode cX4_part 14 = .ok (.aload_n 0, 1) := by decide +kernel
theorem dX4_part_15 : decode cX4_part 15 = .ok (.iconst 1, 1) := by decide +kernel
theorem dX4_part_16 : decode cX4_part 16 = .ok (.putfield 30, 3) := by decide +kernel
theorem dX4_part_19 : decode cX4_part 19 = .ok (.iconst 0, 1) := by decide +kernel
theorem dX4_part_20 : decode cX4_part 20 = .ok (.ireturn, 1) := by decide +kernel
theorem dX4_part_21 : decode cX4_part 21 = .ok (.iload_n 1, 1) := by decide +kernel
theorem dX4_part_22 : decode cX4_part 22 = .ok (.iload_n 2, 1) := by decide +kernel
theorem dX4_part_23 : decode cX4_part 23 = .ok (.idiv, 1) := by decide +kernel
theorem dX4_part_24 : decode cX4_part 24 = .ok (.ireturn, 1) := by decide +kernel
theorem dX5_init_0 : decode cX5_init 0 = .ok (.aload_n 0, 1) := by decide +kernel
theorem dX5_init_1 : decode cX5_init 1 = .ok (.invokespecial 1, 3) := by decide +kernel
theorem dX5_init_4 : decode cX5_init 4 = .ok (.aload_n 0, 1) := by decide +kernel
theorem dX5_init_5 : decode cX5_init 5 = .ok (.new 7, 3) := by decide +kernel
theorem dX5_init_8 : decode cX5_init 8 = .ok (.dup, 1) := by decide +kernel
theorem dX5_init_9 : decode cX5_init 9 = .ok (.bipush 60, 2) := by decide +kernel
theorem dX5_init_11 : decode cX5_init 11 = .ok (.invokespecial 11, 3) := by decide +kernel
theorem dX5_init_14 : decode cX5_init 14 = .ok (.putfield 14, 3) := by decide +kernel
theorem dX5_init_17 : decode cX5_init 17 = .ok (.aload_n 0, 1) := by decide +kernel
theorem dX5_init_18 : decode cX5_init 18 = .ok (.new 7, 3) := by decide +kernel
theorem dX5_init_21 : decode cX5_init 21 = .ok (.dup, 1) := by decide +kernel
theorem dX5_init_22 : decode cX5_init 22 = .ok (.bipush 60, 2) := by decide +kernel
theorem dX5_init_24 : decode cX5_init 24 = .ok (.invokespecial 11, 3) := by decide +kernel
theorem dX5_init_27 : decode cX5_init 27 = .ok (.putfield 18, 3) := by decide +kernel
theorem dX5_init_30 : decode cX5_init 30 = .ok (.aload_n 0, 1) := by decide +kernel
theorem dX5_init_31 : decode cX5_init 31 = .ok (.new 7, 3) := by decide +kernel
theorem dX5_init_34 : decode cX5_init 34 = .ok (.dup, 1) := by decide +kernel
theorem dX5_init_35 : decode cX5_init 35 = .ok (.bipush 24, 2) := by decide +kernel
theorem dX5_init_37 : decode cX5_init 37 = .ok (.invokespecial 11, 3) := by decide +kernel
theorem dX5_init_40 : decode cX5_init 40 = .ok (.putfield 21, 3) := by decide +kernel
theorem dX5_init_43 : decode cX5_init 43 = .ok (.aload_n 0, 1) := by decide +kernel
theorem dX5_init_44 : decode cX5_init 44 = .ok (.new 7, 3) := by decide +kernel
theorem dX5_init_47 : decode cX5_init 47 = .ok (.dup, 1) := by decide +kernel
theorem dX5_init_48 : decode cX5_init 48 = .ok (.bipush 24, 2) := by decide +kernel
theorem dX5_init_50 : decode cX5_init 50 = .ok (.invokespecial 11, 3) := by decide +kernel
theorem dX5_init_53 : decode cX5_init 53 = .ok (.putfield 24, 3) := by decide +kernel
theorem dX5_init_56 : decode cX5_init 56 = .ok (.aload_n 0, 1) := by decide +kernel
theorem dX5_init_57 : decode cX5_init 57 = .ok (.new 27, 3) := by decide +kernel
theorem dX5_init_60 : decode cX5_init 60 = .ok (.dup, 1) := by decide +kernel
theorem dX5_init_61 : decode cX5_init 61 = .ok (.invokespecial 29, 3) := by decide +kernel
theorem dX5_init_64 : decode cX5_init 64 = .ok (.putfield 30, 3) := by decide +kernel
theorem dX5_init_67 : decode cX5_init 67 = .ok (.aload_n 0, 1) := by decide +kernel
theorem dX5_init_68 : decode cX5_init 68 = .ok (.new 34, 3) := by decide +kernel
theorem dX5_init_71 : decode cX5_init 71 = .ok (.dup, 1) := by decide +kernel
theorem dX5_init_72 : decode cX5_init 72 = .ok (.invokespecial 36, 3) := by decide +kernel
theorem dX5_init_75 : decode cX5_init 75 = .ok (.putfield 37, 3) := by decide +kernel
theorem dX5_init_78 : decode cX5_init 78 = .ok (.aload_n 0, 1) := by decide +kernel
theorem dX5_init_79 : decode cX5_init 79 = .ok (.new 41, 3) := by decide +kernel
theorem dX5_init_82 : decode cX5_init 82 = .ok (.dup, 1) := by decide +kernel
theorem dX5_init_83 : decode cX5_init 83 = .ok (.invokespecial 43, 3) := by decide +kernel
theorem dX5_init_86 : decode cX5_init 86 = .ok (.putfield 44, 3) := by decide +kernel
theorem dX5_init_89 : decode cX5_init 89 = .ok (.aload_n 0, 1) := by decide +kernel
theorem dX5_init_90 : decode cX5_init 90 = .ok (.iconst 4, 1) := by decide +kernel
theorem dX5_init_91 : decode cX5_init 91 = .ok (.anewarray 7, 3) := by decide +kernel
theorem dX5_init_94 : decode cX5_init 94 = .ok (.dup, 1) := by decide +kernel
theorem dX5_init_95 : decode cX5_init 95 = .ok (.iconst 0, 1) := by decide +kernel
theorem dX5_init_96 : decode cX5_init 96 = .ok (.new 7, 3) := by decide +kernel
theorem dX5_init_99 : decode cX5_init 99 = .ok (.dup, 1) := by decide +kernel
theorem dX5_init_100 : decode cX5_init 100 = .ok (.bipush 24, 2) := by decide +kernel
theorem dX5_init_102 : decode cX5_init 102 = .ok (.invokespecial 11, 3) := by decide +kernel
theorem dX5_init_105 : decode cX5_init 105 = .ok (.aastore, 1) := by decide +kernel
theorem dX5_init_106 : decode cX5_init 106 = .ok (.dup, 1) := by decide +kernel
theorem dX5_init_107 : decode cX5_init 107 = .ok (.iconst 1, 1) := by decide +kernel
theorem dX5_init_108 : decode cX5_init 108 = .ok (.new 7, 3) := by decide +kernel
theorem dX5_init_111 : decode cX5_init 111 = .ok (.dup, 1) := by decide +kernel
theorem dX5_init_112 : decode cX5_init 112 = .ok (.bipush 24, 2) := by decide +kernel
theorem dX5_init_114 : decode cX5_init 114 = .ok (.invokespecial 11, 3) := by decide +kernel
theorem dX5_init_117 : decode cX5_init 117 = .ok (.aastore, 1) := by decide +kernel
theorem dX5_init_118 : decode cX5_init 118 = .ok (.dup, 1) := by decide +kernel
theorem dX5_init_119 : decode cX5_init 119 = .ok (.iconst 2, 1) := by decide +kernel
theorem dX5_init_120 : decode cX5_init 120 = .ok (.new 7, 3) := by decide +kernel
theorem dX5_init_123 : decode cX5_init 123 = .ok (.dup, 1) := by decide +kernel
theorem dX5_init_124 : decode cX5_init 124 = .ok (.bipush 24, 2) := by decide +kernel
theorem dX5_init_126 : decode cX5_init 126 = .ok (.invokespecial 11, 3) := by decide +kernel
theorem dX5_init_129 : decode cX5_init 129 = .ok (.aastore, 1) := by decide +kernel
theorem dX5_init_130 : decode cX5_init 130 = .ok (.dup, 1) := by decide +kernel
theorem dX5_init_131 : decode cX5_init 131 = .ok (.iconst 3, 1) := by decide +kernel
theorem dX5_init_132 : decode cX5_init 132 = .ok (.new 7, 3) := by decide +kernel
theorem dX5_init_135 : decode cX5_init 135 = .ok (.dup, 1) := by decide +kernel
theorem dX5_init_136 : decode cX5_init 136 = .ok (.bipush 24, 2) := by decide +kernel
theorem dX5_init_138 : decode cX5_init 138 = .ok (.invokespecial 11, 3) := by decide +kernel
theorem dX5_init_141 : decode cX5_init 141 = .ok (.aastore, 1) := by decide +kernel
theorem dX5_init_142 : decode cX5_init 142 = .ok (.putfield 48, 3) := by decide +kernel
theorem dX5_init_145 : decode cX5_init 145 = .ok (.aload_n 0, 1) := by decide +kernel
theorem dX5_init_146 : decode cX5_init 146 = .ok (.iconst 4, 1) := by decide +kernel
theorem dX5_init_147 : decode cX5_init 147 = .ok (.newarray .int, 2) := by decide +kernel
theorem dX5_init_149 : decode cX5_init 149 = .ok (.putfield 52, 3) := by decide +kernel
theorem dX5_init_152 : decode cX5_init 152 = .ok (.aload_n 0, 1) := by decide +kernel
theorem dX5_init_153 : decode cX5_init 153 = .ok (.iconst 3, 1) := by decide +kernel
theorem dX5_init_154 : decode cX5_init 154 = .ok (.newarray .int, 2) := by decide +kernel
theorem dX5_init_156 : decode cX5_init 156 = .ok (.putfield 56, 3) := by decide +kernel
theorem dX5_init_159 : decode cX5_init 159 = .ok (.aload_n 0, 1) := by decide +kernel
theorem dX5_init_160 : decode cX5_init 160 = .ok (.bipush 7, 2) := by decide +kernel
theorem dX5_init_162 : decode cX5_init 162 = .ok (.newarray .int, 2) := by decide +kernel
theorem dX5_init_164 : decode cX5_init 164 = .ok (.putfield 59, 3) := by decide +kernel
theorem dX5_init_167 : decode cX5_init 167 = .ok (.aload_n 0, 1) := by decide +kernel
theorem dX5_init_168 : decode cX5_init 168 = .ok (.new 62, 3) := by decide +kernel
theorem dX5_init_171 : decode cX5_init 171 = .ok (.dup, 1) := by decide +kernel
theorem dX5_init_172 : decode cX5_init 172 = .ok (.new 34, 3) := by decide +kernel
theorem dX5_init_175 : decode cX5_init 175 = .ok (.dup, 1) := by decide +kernel
theorem dX5_init_176 : decode cX5_init 176 = .ok (.invokespecial 36, 3) := by decide +kernel
theorem dX5_init_179 : decode cX5_init 179 = .ok (.new 34, 3) := by decide +kernel
theorem dX5_init_182 : decode cX5_init 182 = .ok (.dup, 1) := by decide +kernel
theorem dX5_init_183 : decode cX5_init 183 = .ok (.invokespecial 36, 3) := by decide +kernel
theorem dX5_init_186 : decode cX5_init 186 = .ok (.invokespecial 64, 3) := by decide +kernel
theorem dX5_init_189 : decode cX5_init 189 = .ok (.putfield 67, 3) := by decide +kernel
theorem dX5_init_192 : decode cX5_init 192 = .ok (.aload_n 0, 1) := by decide +kernel
theorem dX5_init_193 : decode cX5_init 193 = .ok (.new 62, 3) := by decide +kernel
theorem dX5_init_196 : decode cX5_init 196 = .ok (.dup, 1) := by decide +kernel
theorem dX5_init_197 : decode cX5_init 197 = .ok (.new 34, 3) := by decide +kernel
theorem dX5_init_200 : decode cX5_init 200 = .ok (.dup, 1) := by decide +kernel
theorem dX5_init_201 : decode cX5_init 201 = .ok (.invokespecial 36, 3) := by decide +kernel
theorem dX5_init_204 : decode cX5_init 204 = .ok (.new 34, 3) := by decide +kernel
theorem dX5_init_207 : decode cX5_init 207 = .ok (.dup, 1) := by decide +kernel
theorem dX5_init_208 : decode cX5_init 208 = .ok (.invokespecial 36, 3) := by decide +kernel
theorem dX5_init_211 : decode cX5_init 211 = .ok (.invokespecial 64, 3) := by decide +kernel
theorem dX5_init_214 : decode cX5_init 214 = .ok (.putfield 71, 3) := by decide +kernel
theorem dX5_init_217 : decode cX5_init 217 = .ok (.aload_n 0, 1) := by decide +kernel
theorem dX5_init_218 : decode cX5_init 218 = .ok (.new 62, 3) := by decide +kernel
theorem dX5_init_221 : decode cX5_init 221 = .ok (.dup, 1) := by decide +kernel
theorem dX5_init_222 : decode cX5_init 222 = .ok (.aload_n 0, 1) := by decide +kernel
theorem dX5_init_223 : decode cX5_init 223 = .ok (.getfield 67, 3) := by decide +kernel
theorem dX5_init_226 : decode cX5_init 226 = .ok (.getfield 74, 3) := by decide +kernel
theorem dX5_init_229 : decode cX5_init 229 = .ok (.aload_n 0, 1) := by decide +kernel
theorem dX5_init_230 : decode cX5_init 230 = .ok (.getfield 67, 3) := by decide +kernel
theorem dX5_init_233 : decode cX5_init 233 = .ok (.getfield 77, 3) := by decide +kernel
theorem dX5_init_236 : decode cX5_init 236 = .ok (.invokespecial 64, 3) := by decide +kernel
theorem dX5_init_239 : decode cX5_init 239 = .ok (.putfield 80, 3) := by decide +kernel
theorem dX5_init_242 : decode cX5_init 242 = .ok (.return_, 1) := by decide +kernel
theorem dX5_lay_0 : decode cX5_lay 0 = .ok (.iload_n 1, 1) := by decide +kernel
theorem dX5_lay_1 : decode cX5_lay 1 = .ok (.ifCond .lt 16, 3) := by decide +kernel
theorem dX5_lay_4 : decode cX5_lay 4 = .ok (.iload_n 1, 1) := by decide +kernel
theorem dX5_lay_5 : decode cX5_lay 5 = .ok (.bipush 70, 2) := by decide +kernel
theorem dX5_lay_7 : decode cX5_lay 7 = .ok (.if_icmp .ge 10, 3) := by decide +kernel
theorem dX5_lay_10 : decode cX5_lay 10 = .ok (.iload_n 2, 1) := by decide +kernel
theorem dX5_lay_11 : decode cX5_lay 11 = .ok (.invokestatic 83, 3) := by decide +kernel
theorem dX5_lay_14 : decode cX5_lay 14 = .ok (.ifCond .ne 9, 3) := by decide +kernel
theorem dX5_lay_17 : decode cX5_lay 17 = .ok (.aload_n 0, 1) := by decide +kernel
theorem dX5_lay_18 : decode cX5_lay 18 = .ok (.iconst 1, 1) := by decide +kernel
theorem dX5_lay_19 : decode cX5_lay 19 = .ok (.invokevirtual 87, 3) := by decide +kernel
theorem dX5_lay_22 : decode cX5_lay 22 = .ok (.ireturn, 1) := by decide +kernel
theorem dX5_lay_23 : decode cX5_lay 23 = .ok (.aload_n 0, 1) := by decide +kernel
theorem dX5_lay_24 : decode cX5_lay 24 = .ok (.getfield 67, 3) := by decide +kernel
theorem dX5_lay_27 : decode cX5_lay 27 = .ok (.getfield 91, 3) := by decide +kernel
theorem dX5_lay_30 : decode cX5_lay 30 = .ok (.bipush 16, 2) := by decide +kernel
theorem dX5_lay_32 : decode cX5_lay 32 = .ok (.if_icmp .ge 15, 3) := by decide +kernel
theorem dX5_lay_35 : decode cX5_lay 35 = .ok (.aload_n 0, 1) := by decide +kernel
theorem dX5_lay_36 : decode cX5_lay 36 = .ok (.getfield 67, 3) := by decide +kernel
theorem dX5_lay_39 : decode cX5_lay 39 = .ok (.iload_n 2, 1) := by decide +kernel
theorem dX5_lay_40 : decode cX5_lay 40 = .ok (.invokevirtual 95, 3) := by decide +kernel
theorem dX5_lay_43 : decode cX5_lay 43 = .ok (.iconst 5, 1) := by decide +kernel
theorem dX5_lay_44 : decode cX5_lay 44 = .ok (.if_icmp .lt 9, 3) := by decide +kernel
theorem dX5_lay_47 : decode cX5_lay 47 = .ok (.aload_n 0, 1) := by decide +kernel
theorem dX5_lay_48 : decode cX5_lay 48 = .ok (.iconst 4, 1) := by decide +kernel
theorem dX5_lay_49 : decode cX5_lay 49 = .ok (.invokevirtual 87, 3) := by decide +kernel
theorem dX5_lay_52 : decode cX5_lay 52 = .ok (.ireturn, 1) := by decide +kernel
theorem dX5_lay_53 : decode cX5_lay 53 = .ok (.aload_n 0, 1) := by decide +kernel
theorem dX5_lay_54 : decode cX5_lay 54 = .ok (.getfield 67, 3) := by decide +kernel
theorem dX5_lay_57 : decode cX5_lay 57 = .ok (.iload_n 1, 1) := by decide +kernel
theorem dX5_lay_58 : decode cX5_lay 58 = .ok (.bipush 10, 2) := by decide +kernel
theorem dX5_lay_60 : decode cX5_lay 60 = .ok (.idiv, 1) := by decide +kernel
theorem dX5_lay_61 : decode cX5_lay 61 = .ok (.iload_n 1, 1) := by decide +kernel
theorem dX5_lay_62 : decode cX5_lay 62 = .ok (.bipush 10, 2) := by decide +kernel
theorem dX5_lay_64 : decode cX5_lay 64 = .ok (.irem, 1) := by decide +kernel
theorem dX5_lay_65 : decode cX5_lay 65 = .ok (.iload_n 2, 1) := by decide +kernel
theorem dX5_lay_66 : decode cX5_lay 66 = .ok (.invokevirtual 98, 3) := by decide +kernel
theorem dX5_lay_69 : decode cX5_lay 69 = .ok (.ireturn, 1) := by decide +kernel
theorem dX5_thingIs_0 : decode cX5_thingIs 0 = .ok (.aload_n 0, 1) := by decide +kernel
theorem dX5_thingIs_1 : decode cX5_thingIs 1 = .ok (.getfield 67, 3) := by decide +kernel
theorem dX5_thingIs_4 : decode cX5_thingIs 4 = .ok (.iload_n 1, 1) := by decide +kernel
theorem dX5_thingIs_5 : decode cX5_thingIs 5 = .ok (.invokevirtual 102, 3) := by decide +kernel
theorem dX5_thingIs_8 : decode cX5_thingIs 8 = .ok (.ifCond .ne 9, 3) := by decide +kernel
theorem dX5_thingIs_11 : decode cX5_thingIs 11 = .ok (.aload_n 0, 1) := by decide +kernel
theorem dX5_thingIs_12 : decode cX5_thingIs 12 = .ok (.iconst 1, 1) := by decide +kernel
theorem dX5_thingIs_13 : decode cX5_thingIs 13 = .ok (.invokevirtual 87, 3) := by decide +kernel
theorem dX5_thingIs_16 : decode cX5_thingIs 16 = .ok (.ireturn, 1) := by decide +kernel
theorem dX5_thingIs_17 : decode cX5_thingIs 17 = .ok (.iload_n 2, 1) := by decide +kernel
theorem dX5_thingIs_18 : decode cX5_thingIs 18 = .ok (.tableswitch 118 0 7 #[46, 55, 64, 73, 82, 91, 100, 109], 46) := by decide +kernel
theorem dX5_thingIs_64 : decode cX5_thingIs 64 = .ok (.aload_n 0, 1) := by decide +kernel
theorem dX5_thingIs_65 : decode cX5_thingIs 65 = .ok (.getfield 67, 3) := by decide +kernel
theorem dX5_thingIs_68 : decode cX5_thingIs 68 = .ok (.iload_n 1, 1) := by decide +kernel
theorem dX5_thingIs_69 : decode cX5_thingIs 69 = .ok (.invokevirtual 105, 3) := by decide +kernel
theorem dX5_thingIs_72 : decode cX5_thingIs 72 = .ok (.ireturn, 1) := by decide +kernel
theorem dX5_thingIs_73 : decode cX5_thingIs 73 = .ok (.aload_n 0, 1) := by decide +kernel
theorem dX5_thingIs_74 : decode cX5_thingIs 74 = .ok (.getfield 67, 3) := by decide +kernel
theorem dX5_thingIs_77 : decode cX5_thingIs 77 = .ok (.iload_n 1, 1) := by decide +kernel
theorem dX5_thingIs_78 : decode cX5_thingIs 78 = .ok (.invokevirtual 108, 3) := by decide +kernel
theorem dX5_thingIs_81 : decode cX5_thingIs 81 = .ok (.ireturn, 1) := by decide +kernel
theorem dX5_thingIs_82 : decode cX5_thingIs 82 = .ok (.aload_n 0, 1) := by decide +kernel
theorem dX5_thingIs_83 : decode cX5_thingIs 83 = .ok (.getfield 67, 3) := by decide +kernel
theorem dX5_thingIs_86 : decode cX5_thingIs 86 = .ok (.iload_n 1, 1) := by decide +kernel
theorem dX5_thingIs_87 : decode cX5_thingIs 87 = .ok (.invokevirtual 111, 3) := by decide +kernel
theorem dX5_thingIs_90 : decode cX5_thingIs 90 = .ok (.ireturn, 1) := by decide +kernel
theorem dX5_thingIs_91 : decode cX5_thingIs 91 = .ok (.aload_n 0, 1) := by decide +kernel
theorem dX5_thingIs_92 : decode cX5_thingIs 92 = .ok (.getfield 67, 3) := by decide +kernel
theorem dX5_thingIs_95 : decode cX5_thingIs 95 = .ok (.iload_n 1, 1) := by decide +kernel
theorem dX5_thingIs_96 : decode cX5_thingIs 96 = .ok (.invokevirtual 114, 3) := by decide +kernel
theorem dX5_thingIs_99 : decode cX5_thingIs 99 = .ok (.ireturn, 1) := by decide +kernel
theorem dX5_thingIs_100 : decode cX5_thingIs 100 = .ok (.aload_n 0, 1) := by decide +kernel
theorem dX5_thingIs_101 : decode cX5_thingIs 101 = .ok (.getfield 67, 3) := by decide +kernel
theorem dX5_thingIs_104 : decode cX5_thingIs 104 = .ok (.iload_n 1, 1) := by decide +kernel
theorem dX5_thingIs_105 : decode cX5_thingIs 105 = .ok (.invokevirtual 117, 3) := by decide +kernel
theorem dX5_thingIs_108 : decode cX5_thingIs 108 = .ok (.ireturn, 1) := by decide +kernel
theorem dX5_thingIs_109 : decode cX5_thingIs 109 = .ok (.aload_n 0, 1) := by decide +kernel
theorem dX5_thingIs_110 : decode cX5_thingIs 110 = .ok (.getfield 67, 3) := by decide +kernel
theorem dX5_thingIs_113 : decode cX5_thingIs 113 = .ok (.iload_n 1, 1) := by decide +kernel
theorem dX5_thingIs_114 : decode cX5_thingIs 114 = .ok (.invokevirtual 120, 3) := by decide +kernel
theorem dX5_thingIs_117 : decode cX5_thingIs 117 = .ok (.ireturn, 1) := by decide +kernel
theorem dX5_thingIs_118 : decode cX5_thingIs 118 = .ok (.aload_n 0, 1) := by decide +kernel
theorem dX5_thingIs_119 : decode cX5_thingIs 119 = .ok (.getfield 67, 3) := by decide +kernel
theorem dX5_thingIs_122 : decode cX5_thingIs 122 = .ok (.iload_n 1, 1) := by decide +kernel
theorem dX5_thingIs_123 : decode cX5_thingIs 123 = .ok (.invokevirtual 123, 3) := by decide +kernel
theorem dX5_thingIs_126 : decode cX5_thingIs 126 = .ok (.ireturn, 1) := by decide +kernel
theorem dX5_thingIs_127 : decode cX5_thingIs 127 = .ok (.aload_n 0, 1) := by decide +kernel
theorem dX5_thingIs_128 : decode cX5_thingIs 128 = .ok (.getfield 67, 3) := by decide +kernel
theorem dX5_thingIs_131 : decode cX5_thingIs 131 = .ok (.iload_n 1, 1) := by decide +kernel
theorem dX5_thingIs_132 : decode cX5_thingIs 132 = .ok (.invokevirtual 126, 3) := by decide +kernel
theorem dX5_thingIs_135 : decode cX5_thingIs 135 = .ok (.ireturn, 1) := by decide +kernel
theorem dX5_thingIs_136 : decode cX5_thingIs 136 = .ok (.aload_n 0, 1) := by decide +kernel
theorem dX5_thingIs_137 : decode cX5_thingIs 137 = .ok (.iconst 1, 1) := by decide +kernel
theorem dX5_thingIs_138 : decode cX5_thingIs 138 = .ok (.invokevirtual 87, 3) := by decide +kernel
theorem dX5_thingIs_141 : decode cX5_thingIs 141 = .ok (.ireturn, 1) := by decide +kernel
theorem dX5_as_0 : decode cX5_as 0 = .ok (.aload_n 0, 1) := by decide +kernel
theorem dX5_as_1 : decode cX5_as 1 = .ok (.getfield 67, 3) := by decide +kernel
theorem dX5_as_4 : decode cX5_as 4 = .ok (.iload_n 1, 1) := by decide +kernel
theorem dX5_as_5 : decode cX5_as 5 = .ok (.invokevirtual 102, 3) := by decide +kernel
theorem dX5_as_8 : decode cX5_as 8 = .ok (.ifCond .eq 13, 3) := by decide +kernel
theorem dX5_as_11 : decode cX5_as 11 = .ok (.iload_n 2, 1) := by decide +kernel
theorem dX5_as_12 : decode cX5_as 12 = .ok (.ifCond .lt 9, 3) := by decide +kernel
theorem dX5_as_15 : decode cX5_as 15 = .ok (.iload_n 2, 1) := by decide +kernel
theorem dX5_as_16 : decode cX5_as 16 = .ok (.bipush 7, 2) := by decide +kernel
theorem dX5_as_18 : decode cX5_as 18 = .ok (.if_icmp .lt 9, 3) := by decide +kernel
theorem dX5_as_21 : decode cX5_as 21 = .ok (.aload_n 0, 1) := by decide +kernel
theorem dX5_as_22 : decode cX5_as 22 = .ok (.iconst 1, 1) := by decide +kernel
theorem dX5_as_23 : decode cX5_as 23 = .ok (.invokevirtual 87, 3) := by decide +kernel
theorem dX5_as_26 : decode cX5_as 26 = .ok (.ireturn, 1) := by decide +kernel
theorem dX5_as_27 : decode cX5_as 27 = .ok (.aload_n 0, 1) := by decide +kernel
theorem dX5_as_28 : decode cX5_as 28 = .ok (.getfield 67, 3) := by decide +kernel
theorem dX5_as_31 : decode cX5_as 31 = .ok (.iload_n 1, 1) := by decide +kernel
theorem dX5_as_32 : decode cX5_as 32 = .ok (.invokevirtual 105, 3) := by decide +kernel
theorem dX5_as_35 : decode cX5_as 35 = .ok (.iload_n 2, 1) := by decide +kernel
theorem dX5_as_36 : decode cX5_as 36 = .ok (.invokestatic 129, 3) := by decide +kernel
theorem dX5_as_39 : decode cX5_as 39 = .ok (.ifCond .eq 14, 3) := by decide +kernel
theorem dX5_as_42 : decode cX5_as 42 = .ok (.aload_n 0, 1) := by decide +kernel
theorem dX5_as_43 : decode cX5_as 43 = .ok (.getfield 67, 3) := by decide +kernel
theorem dX5_as_46 : decode cX5_as 46 = .ok (.iload_n 1, 1) := by decide +kernel
theorem dX5_as_47 : decode cX5_as 47 = .ok (.invokevirtual 111, 3) := by decide +kernel
theorem dX5_as_50 : decode cX5_as 50 = .ok (.goto 8, 3) := by decide +kernel
theorem dX5_as_53 : decode cX5_as 53 = .ok (.aload_n 0, 1) := by decide +kernel
theorem dX5_as_54 : decode cX5_as 54 = .ok (.iconst 5, 1) := by decide +kernel
theorem dX5_as_55 : decode cX5_as 55 = .ok (.invokevirtual 87, 3) := by decide +kernel
theorem dX5_as_58 : decode cX5_as 58 = .ok (.ireturn, 1) := by decide +kernel
theorem dX5_set_0 : decode cX5_set 0 = .ok (.aload_n 0, 1) := by decide +kernel
theorem dX5_set_1 : decode cX5_set 1 = .ok (.getfield 67, 3) := by decide +kernel
theorem dX5_set_4 : decode cX5_set 4 = .ok (.iload_n 1, 1) := by decide +kernel
theorem dX5_set_5 : decode cX5_set 5 = .ok (.invokevirtual 102, 3) := by decide +kernel
theorem dX5_set_8 : decode cX5_set 8 = .ok (.ifCond .eq 24, 3) := by decide +kernel
theorem dX5_set_11 : decode cX5_set 11 = .ok (.iload_n 2, 1) := by decide +kernel
theorem dX5_set_12 : decode cX5_set 12 = .ok (.ifCond .lt 20, 3) := by decide +kernel
theorem dX5_set_15 : decode cX5_set 15 = .ok (.iload_n 2, 1) := by decide +kernel
theorem dX5_set_16 : decode cX5_set 16 = .ok (.iconst 2, 1) := by decide +kernel
theorem dX5_set_17 : decode cX5_set 17 = .ok (.if_icmp .gt 15, 3) := by decide +kernel
theorem dX5_set_20 : decode cX5_set 20 = .ok (.iload_n 3, 1) := by decide +kernel
theorem dX5_set_21 : decode cX5_set 21 = .ok (.ifCond .lt 11, 3) := by decide +kernel
theorem dX5_set_24 : decode cX5_set 24 = .ok (.iload_n 3, 1) := by decide +kernel
theorem dX5_set_25 : decode cX5_set 25 = .ok (.iload_n 2, 1) := by decide +kernel
theorem dX5_set_26 : decode cX5_set 26 = .ok (.invokestatic 133, 3) := by decide +kernel
theorem dX5_set_29 : decode cX5_set 29 = .ok (.if_icmp .le 9, 3) := by decide +kernel
theorem dX5_set_32 : decode cX5_set 32 = .ok (.aload_n 0, 1) := by decide +kernel
theorem dX5_set_33 : decode cX5_set 33 = .ok (.iconst 1, 1) := by decide +kernel
theorem dX5_set_34 : decode cX5_set 34 = .ok (.invokevirtual 87, 3) := by decide +kernel
theorem dX5_set_37 : decode cX5_set 37 = .ok (.ireturn, 1) := by decide +kernel
theorem dX5_set_38 : decode cX5_set 38 = .ok (.aload_n 0, 1) := by decide +kernel
theorem dX5_set_39 : decode cX5_set 39 = .ok (.getfield 67, 3) := by decide +kernel
theorem dX5_set_42 : decode cX5_set 42 = .ok (.iload_n 1, 1) := by decide +kernel
theorem dX5_set_43 : decode cX5_set 43 = .ok (.iload_n 2, 1) := by decide +kernel
theorem dX5_set_44 : decode cX5_set 44 = .ok (.iload_n 3, 1) := by decide +kernel
theorem dX5_set_45 : decode cX5_set 45 = .ok (.invokevirtual 136, 3) := by decide +kernel
theorem dX5_set_48 : decode cX5_set 48 = .ok (.ireturn, 1) := by decide +kernel
theorem dX5_out_0 : decode cX5_out 0 = .ok (.aload_n 0, 1) := by decide +kernel
theorem dX5_out_1 : decode cX5_out 1 = .ok (.getfield 67, 3) := by decide +kernel
theorem dX5_out_4 : decode cX5_out 4 = .ok (.iload_n 1, 1) := by decide +kernel
theorem dX5_out_5 : decode cX5_out 5 = .ok (.invokevirtual 102, 3) := by decide +kernel
theorem dX5_out_8 : decode cX5_out 8 = .ok (.ifCond .ne 9, 3) := by decide +kernel
theorem dX5_out_11 : decode cX5_out 11 = .ok (.aload_n 0, 1) := by decide +kernel
theorem dX5_out_12 : decode cX5_out 12 = .ok (.iconst 1, 1) := by decide +kernel
theorem dX5_out_13 : decode cX5_out 13 = .ok (.invokevirtual 87, 3) := by decide +kernel
theorem dX5_out_16 : decode cX5_out 16 = .ok (.ireturn, 1) := by decide +kernel
theorem dX5_out_17 : decode cX5_out 17 = .ok (.aload_n 0, 1) := by decide +kernel
theorem dX5_out_18 : decode cX5_out 18 = .ok (.getfield 67, 3) := by decide +kernel
theorem dX5_out_21 : decode cX5_out 21 = .ok (.iload_n 1, 1) := by decide +kernel
theorem dX5_out_22 : decode cX5_out 22 = .ok (.invokevirtual 114, 3) := by decide +kernel
theorem dX5_out_25 : decode cX5_out 25 = .ok (.istore_n 2, 1) := by decide +kernel
theorem dX5_out_26 : decode cX5_out 26 = .ok (.iload_n 2, 1) := by decide +kernel
theorem dX5_out_27 : decode cX5_out 27 = .ok (.ifCond .ge 9, 3) := by decide +kernel
theorem dX5_out_30 : decode cX5_out 30 = .ok (.aload_n 0, 1) := by decide +kernel
theorem dX5_out_31 : decode cX5_out 31 = .ok (.iconst 3, 1) := by decide +kernel
theorem dX5_out_32 : decode cX5_out 32 = .ok (.invokevirtual 87, 3) := by decide +kernel
theorem dX5_out_35 : decode cX5_out 35 = .ok (.ireturn, 1) := by decide +kernel
theorem dX5_out_36 : decode cX5_out 36 = .ok (.aload_n 0, 1) := by decide +kernel
theorem dX5_out_37 : decode cX5_out 37 = .ok (.getfield 67, 3) := by decide +kernel
theorem dX5_out_40 : decode cX5_out 40 = .ok (.iload_n 1, 1) := by decide +kernel
theorem dX5_out_41 : decode cX5_out 41 = .ok (.bipush (-2), 2) := by decide +kernel
theorem dX5_out_43 : decode cX5_out 43 = .ok (.invokevirtual 139, 3) := by decide +kernel
theorem dX5_out_46 : decode cX5_out 46 = .ok (.iload_n 2, 1) := by decide +kernel
theorem dX5_out_47 : decode cX5_out 47 = .ok (.ireturn, 1) := by decide +kernel
theorem dX5_back_0 : decode cX5_back 0 = .ok (.aload_n 0, 1) := by decide +kernel
theorem dX5_back_1 : decode cX5_back 1 = .ok (.getfield 67, 3) := by decide +kernel
theorem dX5_back_4 : decode cX5_back 4 = .ok (.iload_n 1, 1) := by decide +kernel
theorem dX5_back_5 : decode cX5_back 5 = .ok (.invokevirtual 102, 3) := by decide +kernel
theorem dX5_back_8 : decode cX5_back 8 = .ok (.ifCond .eq 10, 3) := by decide +kernel
theorem dX5_back_11 : decode cX5_back 11 = .ok (.iload_n 2, 1) := by decide +kernel
theorem dX5_back_12 : decode cX5_back 12 = .ok (.invokestatic 83, 3) := by decide +kernel
theorem dX5_back_15 : decode cX5_back 15 = .ok (.ifCond .ne 9, 3) := by decide +kernel
theorem dX5_back_18 : decode cX5_back 18 = .ok (.aload_n 0, 1) := by decide +kernel
theorem dX5_back_19 : decode cX5_back 19 = .ok (.iconst 1, 1) := by decide +kernel
theorem dX5_back_20 : decode cX5_back 20 = .ok (.invokevirtual 87, 3) := by decide +kernel
theorem dX5_back_23 : decode cX5_back 23 = .ok (.ireturn, 1) := by decide +kernel
theorem dX5_back_24 : decode cX5_back 24 = .ok (.aload_n 0, 1) := by decide +kernel
theorem dX5_back_25 : decode cX5_back 25 = .ok (.getfield 67, 3) := by decide +kernel
theorem dX5_back_28 : decode cX5_back 28 = .ok (.iload_n 1, 1) := by decide +kernel
theorem dX5_back_29 : decode cX5_back 29 = .ok (.invokevirtual 114, 3) := by decide +kernel
theorem dX5_back_32 : decode cX5_back 32 = .ok (.ifCond .lt 9, 3) := by decide +kernel
theorem dX5_back_35 : decode cX5_back 35 = .ok (.aload_n 0, 1) := by decide +kernel
theorem dX5_back_36 : decode cX5_back 36 = .ok (.iconst 3, 1) := by decide +kernel
theorem dX5_back_37 : decode cX5_back 37 = .ok (.invokevirtual 87, 3) := by decide +kernel
theorem dX5_back_40 : decode cX5_back 40 = .ok (.ireturn, 1) := by decide +kernel
theorem dX5_back_41 : decode cX5_back 41 = .ok (.aload_n 0, 1) := by decide +kernel
theorem dX5_back_42 : decode cX5_back 42 = .ok (.getfield 67, 3) := by decide +kernel
theorem dX5_back_45 : decode cX5_back 45 = .ok (.iload_n 2, 1) := by decide +kernel
theorem dX5_back_46 : decode cX5_back 46 = .ok (.invokevirtual 95, 3) := by decide +kernel
theorem dX5_back_49 : decode cX5_back 49 = .ok (.iconst 5, 1) := by decide +kernel
theorem dX5_back_50 : decode cX5_back 50 = .ok (.if_icmp .lt 9, 3) := by decide +kernel
theorem dX5_back_53 : decode cX5_back 53 = .ok (.aload_n 0, 1) := by decide +kernel
theorem dX5_back_54 : decode cX5_back 54 = .ok (.iconst 4, 1) := by decide +kernel
theorem dX5_back_55 : decode cX5_back 55 = .ok (.invokevirtual 87, 3) := by decide +kernel
theorem dX5_back_58 : decode cX5_back 58 = .ok (.ireturn, 1) := by decide +kernel
theorem dX5_back_59 : decode cX5_back 59 = .ok (.aload_n 0, 1) := by decide +kernel
theorem dX5_back_60 : decode cX5_back 60 = .ok (.getfield 67, 3) := by decide +kernel
theorem dX5_back_63 : decode cX5_back 63 = .ok (.iload_n 1, 1) := by decide +kernel
theorem dX5_back_64 : decode cX5_back 64 = .ok (.iload_n 2, 1) := by decide +kernel
theorem dX5_back_65 : decode cX5_back 65 = .ok (.invokevirtual 143, 3) := by decide +kernel
theorem dX5_back_68 : decode cX5_back 68 = .ok (.aload_n 0, 1) := by decide +kernel
theorem dX5_back_69 : decode cX5_back 69 = .ok (.getfield 67, 3) := by decide +kernel
theorem dX5_back_72 : decode cX5_back 72 = .ok (.iload_n 2, 1) := by decide +kernel
theorem dX5_back_73 : decode cX5_back 73 = .ok (.invokevirtual 95, 3) := by decide +kernel
theorem dX5_back_76 : decode cX5_back 76 = .ok (.ireturn, 1) := by decide +kernel
theorem dX5_spring_0 : decode cX5_spring 0 = .ok (.iload_n 1, 1) := by decide +kernel
theorem dX5_spring_1 : decode cX5_spring 1 = .ok (.ifCond .lt 27, 3) := by decide +kernel
theorem dX5_spring_4 : decode cX5_spring 4 = .ok (.iload_n 1, 1) := by decide +kernel
theorem dX5_spring_5 : decode cX5_spring 5 = .ok (.iconst 1, 1) := by decide +kernel
theorem dX5_spring_6 : decode cX5_spring 6 = .ok (.if_icmp .gt 22, 3) := by decide +kernel
theorem dX5_spring_9 : decode cX5_spring 9 = .ok (.iload_n 2, 1) := by decide +kernel
theorem dX5_spring_10 : decode cX5_spring 10 = .ok (.ifCond .lt 18, 3) := by decide +kernel
theorem dX5_spring_13 : decode cX5_spring 13 = .ok (.iload_n 2, 1) := by decide +kernel
theorem dX5_spring_14 : decode cX5_spring 14 = .ok (.iload_n 1, 1) := by decide +kernel
theorem dX5_spring_15 : decode cX5_spring 15 = .ok (.ifCond .ne 8, 3) := by decide +kernel
theorem dX5_spring_18 : decode cX5_spring 18 = .ok (.bipush 99, 2) := by decide +kernel
theorem dX5_spring_20 : decode cX5_spring 20 = .ok (.goto 5, 3) := by decide +kernel
theorem dX5_spring_23 : decode cX5_spring 23 = .ok (.bipush 9, 2) := by decide +kernel
theorem dX5_spring_25 : decode cX5_spring 25 = .ok (.if_icmp .le 9, 3) := by decide +kernel
theorem dX5_spring_28 : decode cX5_spring 28 = .ok (.aload_n 0, 1) := by decide +kernel
theorem dX5_spring_29 : decode cX5_spring 29 = .ok (.iconst 1, 1) := by decide +kernel
theorem dX5_spring_30 : decode cX5_spring 30 = .ok (.invokevirtual 87, 3) := by decide +kernel
theorem dX5_spring_33 : decode cX5_spring 33 = .ok (.ireturn, 1) := by decide +kernel
theorem dX5_spring_34 : decode cX5_spring 34 = .ok (.iload_n 1, 1) := by decide +kernel
theorem dX5_spring_35 : decode cX5_spring 35 = .ok (.ifCond .ne 13, 3) := by decide +kernel
theorem dX5_spring_38 : decode cX5_spring 38 = .ok (.aload_n 0, 1) := by decide +kernel
theorem dX5_spring_39 : decode cX5_spring 39 = .ok (.getfield 67, 3) := by decide +kernel
theorem dX5_spring_42 : decode cX5_spring 42 = .ok (.getfield 146, 3) := by decide +kernel
theorem dX5_spring_45 : decode cX5_spring 45 = .ok (.goto 10, 3) := by decide +kernel
theorem dX5_spring_48 : decode cX5_spring 48 = .ok (.aload_n 0, 1) := by decide +kernel
theorem dX5_spring_49 : decode cX5_spring 49 = .ok (.getfield 67, 3) := by decide +kernel
theorem dX5_spring_52 : decode cX5_spring 52 = .ok (.getfield 149, 3) := by decide +kernel
theorem dX5_spring_55 : decode cX5_spring 55 = .ok (.istore_n 3, 1) := by decide +kernel
theorem dX5_spring_56 : decode cX5_spring 56 = .ok (.iload_n 1, 1) := by decide +kernel
theorem dX5_spring_57 : decode cX5_spring 57 = .ok (.ifCond .ne 14, 3) := by decide +kernel
theorem dX5_spring_60 : decode cX5_spring 60 = .ok (.aload_n 0, 1) := by decide +kernel
theorem dX5_spring_61 : decode cX5_spring 61 = .ok (.getfield 67, 3) := by decide +kernel
theorem dX5_spring_64 : decode cX5_spring 64 = .ok (.iload_n 2, 1) := by decide +kernel
theorem dX5_spring_65 : decode cX5_spring 65 = .ok (.putfield 146, 3) := by decide +kernel
theorem dX5_spring_68 : decode cX5_spring 68 = .ok (.goto 11, 3) := by decide +kernel
theorem dX5_spring_71 : decode cX5_spring 71 = .ok (.aload_n 0, 1) := by decide +kernel
theorem dX5_spring_72 : decode cX5_spring 72 = .ok (.getfield 67, 3) := by decide +kernel
theorem dX5_spring_75 : decode cX5_spring 75 = .ok (.iload_n 2, 1) := by decide +kernel
theorem dX5_spring_76 : decode cX5_spring 76 = .ok (.putfield 149, 3) := by decide +kernel
theorem dX5_spring_79 : decode cX5_spring 79 = .ok (.iload_n 3, 1) := by decide +kernel
theorem dX5_spring_80 : decode cX5_spring 80 = .ok (.ireturn, 1) := by decide +kernel
theorem dX5_wind_0 : decode cX5_wind 0 = .ok (.aload_n 0, 1) := by decide +kernel
theorem dX5_wind_1 : decode cX5_wind 1 = .ok (.getfield 67, 3) := by decide +kernel
theorem dX5_wind_4 : decode cX5_wind 4 = .ok (.getfield 152, 3) := by decide +kernel
theorem dX5_wind_7 : decode cX5_wind 7 = .ok (.istore_n 1, 1) := by decide +kernel
theorem dX5_wind_8 : decode cX5_wind 8 = .ok (.aload_n 0, 1) := by decide +kernel
theorem dX5_wind_9 : decode cX5_wind 9 = .ok (.getfield 67, 3) := by decide +kernel
theorem dX5_wind_12 : decode cX5_wind 12 = .ok (.iconst 0, 1) := by decide +kernel
theorem dX5_wind_13 : decode cX5_wind 13 = .ok (.putfield 152, 3) := by decide +kernel
theorem dX5_wind_16 : decode cX5_wind 16 = .ok (.iload_n 1, 1) := by decide +kernel
theorem dX5_wind_17 : decode cX5_wind 17 = .ok (.ireturn, 1) := by decide +kernel
theorem dX5_cellIs_0 : decode cX5_cellIs 0 = .ok (.iload_n 1, 1) := by decide +kernel
theorem dX5_cellIs_1 : decode cX5_cellIs 1 = .ok (.invokestatic 155, 3) := by decide +kernel
theorem dX5_cellIs_4 : decode cX5_cellIs 4 = .ok (.ifCond .ne 9, 3) := by decide +kernel
theorem dX5_cellIs_7 : decode cX5_cellIs 7 = .ok (.aload_n 0, 1) := by decide +kernel
theorem dX5_cellIs_8 : decode cX5_cellIs 8 = .ok (.iconst 1, 1) := by decide +kernel
theorem dX5_cellIs_9 : decode cX5_cellIs 9 = .ok (.invokevirtual 87, 3) := by decide +kernel
theorem dX5_cellIs_12 : decode cX5_cellIs 12 = .ok (.ireturn, 1) := by decide +kernel
theorem dX5_cellIs_13 : decode cX5_cellIs 13 = .ok (.iload_n 2, 1) := by decide +kernel
theorem dX5_cellIs_14 : decode cX5_cellIs 14 = .ok (.tableswitch 67 0 3 #[30, 39, 48, 58], 30) := by decide +kernel
theorem dX5_cellIs_44 : decode cX5_cellIs 44 = .ok (.aload_n 0, 1) := by decide +kernel
theorem dX5_cellIs_45 : decode cX5_cellIs 45 = .ok (.getfield 67, 3) := by decide +kernel
theorem dX5_cellIs_48 : decode cX5_cellIs 48 = .ok (.iload_n 1, 1) := by decide +kernel
theorem dX5_cellIs_49 : decode cX5_cellIs 49 = .ok (.invokevirtual 95, 3) := by decide +kernel
theorem dX5_cellIs_52 : decode cX5_cellIs 52 = .ok (.ireturn, 1) := by decide +kernel
theorem dX5_cellIs_53 : decode cX5_cellIs 53 = .ok (.aload_n 0, 1) := by decide +kernel
theorem dX5_cellIs_54 : decode cX5_cellIs 54 = .ok (.getfield 67, 3) := by decide +kernel
theorem dX5_cellIs_57 : decode cX5_cellIs 57 = .ok (.iload_n 1, 1) := by decide +kernel
theorem dX5_cellIs_58 : decode cX5_cellIs 58 = .ok (.invokevirtual 158, 3) := by decide +kernel
theorem dX5_cellIs_61 : decode cX5_cellIs 61 = .ok (.ireturn, 1) := by decide +kernel
theorem dX5_cellIs_62 : decode cX5_cellIs 62 = .ok (.aload_n 0, 1) := by decide +kernel
theorem dX5_cellIs_63 : decode cX5_cellIs 63 = .ok (.getfield 67, 3) := by decide +kernel
theorem dX5_cellIs_66 : decode cX5_cellIs 66 = .ok (.iload_n 1, 1) := by decide +kernel
theorem dX5_cellIs_67 : decode cX5_cellIs 67 = .ok (.iconst 0, 1) := by decide +kernel
theorem dX5_cellIs_68 : decode cX5_cellIs 68 = .ok (.invokevirtual 161, 3) := by decide +kernel
theorem dX5_cellIs_71 : decode cX5_cellIs 71 = .ok (.ireturn, 1) := by decide +kernel
theorem dX5_cellIs_72 : decode cX5_cellIs 72 = .ok (.aload_n 0, 1) := by decide +kernel
theorem dX5_cellIs_73 : decode cX5_cellIs 73 = .ok (.getfield 67, 3) := by decide +kernel
theorem dX5_cellIs_76 : decode cX5_cellIs 76 = .ok (.iload_n 1, 1) := by decide +kernel
theorem dX5_cellIs_77 : decode cX5_cellIs 77 = .ok (.invokevirtual 165, 3) := by decide +kernel
theorem dX5_cellIs_80 : decode cX5_cellIs 80 = .ok (.ireturn, 1) := by decide +kernel
theorem dX5_cellIs_81 : decode cX5_cellIs 81 = .ok (.aload_n 0, 1) := by decide +kernel
theorem dX5_cellIs_82 : decode cX5_cellIs 82 = .ok (.iconst 1, 1) := by decide +kernel
theorem dX5_cellIs_83 : decode cX5_cellIs 83 = .ok (.invokevirtual 87, 3) := by decide +kernel
theorem dX5_cellIs_86 : decode cX5_cellIs 86 = .ok (.ireturn, 1) := by decide +kernel
theorem dX5_feed_0 : decode cX5_feed 0 = .ok (.iload_n 3, 1) := by decide +kernel
theorem dX5_feed_1 : decode cX5_feed 1 = .ok (.iconst 1, 1) := by decide +kernel
theorem dX5_feed_2 : decode cX5_feed 2 = .ok (.if_icmp .lt 9, 3) := by decide +kernel
theorem dX5_feed_5 : decode cX5_feed 5 = .ok (.iload_n 3, 1) := by decide +kernel
theorem dX5_feed_6 : decode cX5_feed 6 = .ok (.bipush 8, 2) := by decide +kernel
theorem dX5_feed_8 : decode cX5_feed 8 = .ok (.if_icmp .le 9, 3) := by decide +kernel
theorem dX5_feed_11 : decode cX5_feed 11 = .ok (.aload_n 0, 1) := by decide +kernel
theorem dX5_feed_12 : decode cX5_feed 12 = .ok (.iconst 1, 1) := by decide +kernel
theorem dX5_feed_13 : decode cX5_feed 13 = .ok (.invokevirtual 87, 3) := by decide +kernel
theorem dX5_feed_16 : decode cX5_feed 16 = .ok (.ireturn, 1) := by decide +kernel
theorem dX5_feed_17 : decode cX5_feed 17 = .ok (.aload_n 0, 1) := by decide +kernel
theorem dX5_feed_18 : decode cX5_feed 18 = .ok (.getfield 14, 3) := by decide +kernel
theorem dX5_feed_21 : decode cX5_feed 21 = .ok (.getfield 168, 3) := by decide +kernel
theorem dX5_feed_24 : decode cX5_feed 24 = .ok (.iload_n 3, 1) := by decide +kernel
theorem dX5_feed_25 : decode cX5_feed 25 = .ok (.iadd, 1) := by decide +kernel
theorem dX5_feed_26 : decode cX5_feed 26 = .ok (.bipush 60, 2) := by decide +kernel
theorem dX5_feed_28 : decode cX5_feed 28 = .ok (.if_icmp .le 9, 3) := by decide +kernel
theorem dX5_feed_31 : decode cX5_feed 31 = .ok (.aload_n 0, 1) := by decide +kernel
theorem dX5_feed_32 : decode cX5_feed 32 = .ok (.iconst 4, 1) := by decide +kernel
theorem dX5_feed_33 : decode cX5_feed 33 = .ok (.invokevirtual 87, 3) := by decide +kernel
theorem dX5_feed_36 : decode cX5_feed 36 = .ok (.ireturn, 1) := by decide +kernel
theorem dX5_feed_37 : decode cX5_feed 37 = .ok (.iconst 0, 1) := by decide +kernel
theorem dX5_feed_38 : decode cX5_feed 38 = .ok (.istore 4, 2) := by decide +kernel
theorem dX5_feed_40 : decode cX5_feed 40 = .ok (.iload 4, 2) := by decide +kernel
theorem dX5_feed_42 : decode cX5_feed 42 = .ok (.iload_n 3, 1) := by decide +kernel
theorem dX5_feed_43 : decode cX5_feed 43 = .ok (.if_icmp .ge 28, 3) := by decide +kernel
theorem dX5_feed_46 : decode cX5_feed 46 = .ok (.aload_n 0, 1) := by decide +kernel
theorem dX5_feed_47 : decode cX5_feed 47 = .ok (.getfield 14, 3) := by decide +kernel
theorem dX5_feed_50 : decode cX5_feed 50 = .ok (.lload_n 1, 1) := by decide +kernel
theorem dX5_feed_51 : decode cX5_feed 51 = .ok (.bipush 8, 2) := by decide +kernel
theorem dX5_feed_53 : decode cX5_feed 53 = .ok (.iload 4, 2) := by decide +kernel
theorem dX5_feed_55 : decode cX5_feed 55 = .ok (.imul, 1) := by decide +kernel
theorem dX5_feed_56 : decode cX5_feed 56 = .ok (.lushr, 1) := by decide +kernel
theorem dX5_feed_57 : decode cX5_feed 57 = .ok (.l2i, 1) := by decide +kernel
theorem dX5_feed_58 : decode cX5_feed 58 = .ok (.sipush 255, 3) := by decide +kernel
theorem dX5_feed_61 : decode cX5_feed 61 = .ok (.iand, 1) := by decide +kernel
theorem dX5_feed_62 : decode cX5_feed 62 = .ok (.invokevirtual 171, 3) := by decide +kernel
theorem dX5_feed_65 : decode cX5_feed 65 = .ok (.iinc 4 1, 3) := by decide +kernel
theorem dX5_feed_68 : decode cX5_feed 68 = .ok (.goto (-28), 3) := by decide +kernel
theorem dX5_feed_71 : decode cX5_feed 71 = .ok (.aload_n 0, 1) := by decide +kernel
theorem dX5_feed_72 : decode cX5_feed 72 = .ok (.getfield 14, 3) := by decide +kernel
theorem dX5_feed_75 : decode cX5_feed 75 = .ok (.getfield 168, 3) := by decide +kernel
theorem dX5_feed_78 : decode cX5_feed 78 = .ok (.ireturn, 1) := by decide +kernel
theorem dX5_text_0 : decode cX5_text 0 = .ok (.iload_n 1, 1) := by decide +kernel
theorem dX5_text_1 : decode cX5_text 1 = .ok (.ifCond .lt 8, 3) := by decide +kernel
theorem dX5_text_4 : decode cX5_text 4 = .ok (.iload_n 1, 1) := by decide +kernel
theorem dX5_text_5 : decode cX5_text 5 = .ok (.iconst 1, 1) := by decide +kernel
theorem dX5_text_6 : decode cX5_text 6 = .ok (.if_icmp .le 9, 3) := by decide +kernel
theorem dX5_text_9 : decode cX5_text 9 = .ok (.aload_n 0, 1) := by decide +kernel
theorem dX5_text_10 : decode cX5_text 10 = .ok (.iconst 1, 1) := by decide +kernel
theorem dX5_text_11 : decode cX5_text 11 = .ok (.invokevirtual 87, 3) := by decide +kernel
theorem dX5_text_14 : decode cX5_text 14 = .ok (.ireturn, 1) := by decide +kernel
theorem dX5_text_15 : decode cX5_text 15 = .ok (.aload_n 0, 1) := by decide +kernel
theorem dX5_text_16 : decode cX5_text 16 = .ok (.getfield 30, 3) := by decide +kernel
theorem dX5_text_19 : decode cX5_text 19 = .ok (.aload_n 0, 1) := by decide +kernel
theorem dX5_text_20 : decode cX5_text 20 = .ok (.getfield 14, 3) := by decide +kernel
theorem dX5_text_23 : decode cX5_text 23 = .ok (.iload_n 1, 1) := by decide +kernel
theorem dX5_text_24 : decode cX5_text 24 = .ok (.ifCond .ne 8, 3) := by decide +kernel
theorem dX5_text_27 : decode cX5_text 27 = .ok (.ldc 173, 2) := by decide +kernel
theorem dX5_text_29 : decode cX5_text 29 = .ok (.goto 5, 3) := by decide +kernel
theorem dX5_text_32 : decode cX5_text 32 = .ok (.ldc 175, 2) := by decide +kernel
theorem dX5_text_34 : decode cX5_text 34 = .ok (.aload_n 0, 1) := by decide +kernel
theorem dX5_text_35 : decode cX5_text 35 = .ok (.getfield 37, 3) := by decide +kernel
theorem dX5_text_38 : decode cX5_text 38 = .ok (.invokevirtual 177, 3) := by decide +kernel
theorem dX5_text_41 : decode cX5_text 41 = .ok (.istore_n 2, 1) := by decide +kernel
theorem dX5_text_42 : decode cX5_text 42 = .ok (.aload_n 0, 1) := by decide +kernel
theorem dX5_text_43 : decode cX5_text 43 = .ok (.getfield 14, 3) := by decide +kernel
theorem dX5_text_46 : decode cX5_text 46 = .ok (.invokevirtual 181, 3) := by decide +kernel
theorem dX5_text_49 : decode cX5_text 49 = .ok (.iload_n 2, 1) := by decide +kernel
theorem dX5_text_50 : decode cX5_text 50 = .ok (.ifCond .lt 8, 3) := by decide +kernel
theorem dX5_text_53 : decode cX5_text 53 = .ok (.bipush (-10), 2) := by decide +kernel
theorem dX5_text_55 : decode cX5_text 55 = .ok (.iload_n 2, 1) := by decide +kernel
theorem dX5_text_56 : decode cX5_text 56 = .ok (.isub, 1) := by decide +kernel
theorem dX5_text_57 : decode cX5_text 57 = .ok (.ireturn, 1) := by decide +kernel
theorem dX5_text_58 : decode cX5_text 58 = .ok (.aload_n 0, 1) := by decide +kernel
theorem dX5_text_59 : decode cX5_text 59 = .ok (.getfield 67, 3) := by decide +kernel
theorem dX5_text_62 : decode cX5_text 62 = .ok (.iload_n 1, 1) := by decide +kernel
theorem dX5_text_63 : decode cX5_text 63 = .ok (.invokevirtual 184, 3) := by decide +kernel
theorem dX5_text_66 : decode cX5_text 66 = .ok (.aload_n 0, 1) := by decide +kernel
theorem dX5_text_67 : decode cX5_text 67 = .ok (.getfield 37, 3) := by decide +kernel
theorem dX5_text_70 : decode cX5_text 70 = .ok (.invokevirtual 188, 3) := by decide +kernel
theorem dX5_text_73 : decode cX5_text 73 = .ok (.iconst 1, 1) := by decide +kernel
theorem dX5_text_74 : decode cX5_text 74 = .ok (.ireturn, 1) := by decide +kernel
theorem dX5_untell_0 : decode cX5_untell 0 = .ok (.iload_n 1, 1) := by decide +kernel
theorem dX5_untell_1 : decode cX5_untell 1 = .ok (.ifCond .lt 8, 3) := by decide +kernel
theorem dX5_untell_4 : decode cX5_untell 4 = .ok (.iload_n 1, 1) := by decide +kernel
theorem dX5_untell_5 : decode cX5_untell 5 = .ok (.iconst 1, 1) := by decide +kernel
theorem dX5_untell_6 : decode cX5_untell 6 = .ok (.if_icmp .le 9, 3) := by decide +kernel
theorem dX5_untell_9 : decode cX5_untell 9 = .ok (.aload_n 0, 1) := by decide +kernel
theorem dX5_untell_10 : decode cX5_untell 10 = .ok (.iconst 1, 1) := by decide +kernel
theorem dX5_untell_11 : decode cX5_untell 11 = .ok (.invokevirtual 87, 3) := by decide +kernel
theorem dX5_untell_14 : decode cX5_untell 14 = .ok (.ireturn, 1) := by decide +kernel
theorem dX5_untell_15 : decode cX5_untell 15 = .ok (.aload_n 0, 1) := by decide +kernel
theorem dX5_untell_16 : decode cX5_untell 16 = .ok (.getfield 67, 3) := by decide +kernel
theorem dX5_untell_19 : decode cX5_untell 19 = .ok (.iload_n 1, 1) := by decide +kernel
theorem dX5_untell_20 : decode cX5_untell 20 = .ok (.invokevirtual 184, 3) := by decide +kernel
theorem dX5_untell_23 : decode cX5_untell 23 = .ok (.astore_n 2, 1) := by decide +kernel
theorem dX5_untell_24 : decode cX5_untell 24 = .ok (.aload_n 2, 1) := by decide +kernel
theorem dX5_untell_25 : decode cX5_untell 25 = .ok (.invokevirtual 192, 3) := by decide +kernel
theorem dX5_untell_28 : decode cX5_untell 28 = .ok (.ifCond .eq 7, 3) := by decide +kernel
theorem dX5_untell_31 : decode cX5_untell 31 = .ok (.iconst 1, 1) := by decide +kernel
theorem dX5_untell_32 : decode cX5_untell 32 = .ok (.goto 4, 3) := by decide +kernel
theorem dX5_untell_35 : decode cX5_untell 35 = .ok (.iconst 0, 1) := by decide +kernel
theorem dX5_untell_36 : decode cX5_untell 36 = .ok (.istore_n 3, 1) := by decide +kernel
theorem dX5_untell_37 : decode cX5_untell 37 = .ok (.aload_n 2, 1) := by decide +kernel
theorem dX5_untell_38 : decode cX5_untell 38 = .ok (.invokevirtual 196, 3) := by decide +kernel
theorem dX5_untell_41 : decode cX5_untell 41 = .ok (.iload_n 3, 1) := by decide +kernel
theorem dX5_untell_42 : decode cX5_untell 42 = .ok (.ireturn, 1) := by decide +kernel
theorem dX5_pull_0 : decode cX5_pull 0 = .ok (.iload_n 1, 1) := by decide +kernel
theorem dX5_pull_1 : decode cX5_pull 1 = .ok (.invokestatic 83, 3) := by decide +kernel
theorem dX5_pull_4 : decode cX5_pull 4 = .ok (.ifCond .ne 9, 3) := by decide +kernel
theorem dX5_pull_7 : decode cX5_pull 7 = .ok (.aload_n 0, 1) := by decide +kernel
theorem dX5_pull_8 : decode cX5_pull 8 = .ok (.iconst 1, 1) := by decide +kernel
theorem dX5_pull_9 : decode cX5_pull 9 = .ok (.invokevirtual 87, 3) := by decide +kernel
theorem dX5_pull_12 : decode cX5_pull 12 = .ok (.ireturn, 1) := by decide +kernel
theorem dX5_pull_13 : decode cX5_pull 13 = .ok (.aload_n 0, 1) := by decide +kernel
theorem dX5_pull_14 : decode cX5_pull 14 = .ok (.getfield 67, 3) := by decide +kernel
theorem dX5_pull_17 : decode cX5_pull 17 = .ok (.iload_n 1, 1) := by decide +kernel
theorem dX5_pull_18 : decode cX5_pull 18 = .ok (.invokevirtual 197, 3) := by decide +kernel
theorem dX5_pull_21 : decode cX5_pull 21 = .ok (.iconst 2, 1) := by decide +kernel
theorem dX5_pull_22 : decode cX5_pull 22 = .ok (.if_icmp .ne 13, 3) := by decide +kernel
theorem dX5_pull_25 : decode cX5_pull 25 = .ok (.aload_n 0, 1) := by decide +kernel
theorem dX5_pull_26 : decode cX5_pull 26 = .ok (.getfield 67, 3) := by decide +kernel
theorem dX5_pull_29 : decode cX5_pull 29 = .ok (.getfield 200, 3) := by decide +kernel
theorem dX5_pull_32 : decode cX5_pull 32 = .ok (.goto 4, 3) := by decide +kernel
theorem dX5_pull_35 : decode cX5_pull 35 = .ok (.iconst (-1), 1) := by decide +kernel
theorem dX5_pull_36 : decode cX5_pull 36 = .ok (.ireturn, 1) := by decide +kernel
theorem dX5_pulls_0 : decode cX5_pulls 0 = .ok (.aload_n 0, 1) := by decide +kernel
theorem dX5_pulls_1 : decode cX5_pulls 1 = .ok (.iload_n 1, 1) := by decide +kernel
theorem dX5_pulls_2 : decode cX5_pulls 2 = .ok (.invokevirtual 203, 3) := by decide +kernel
theorem dX5_pulls_5 : decode cX5_pulls 5 = .ok (.istore_n 2, 1) := by decide +kernel
theorem dX5_pulls_6 : decode cX5_pulls 6 = .ok (.iload_n 2, 1) := by decide +kernel
theorem dX5_pulls_7 : decode cX5_pulls 7 = .ok (.ifCond .eq 9, 3) := by decide +kernel
theorem dX5_pulls_10 : decode cX5_pulls 10 = .ok (.aload_n 0, 1) := by decide +kernel
theorem dX5_pulls_11 : decode cX5_pulls 11 = .ok (.iload_n 2, 1) := by decide +kernel
theorem dX5_pulls_12 : decode cX5_pulls 12 = .ok (.invokevirtual 87, 3) := by decide +kernel
theorem dX5_pulls_15 : decode cX5_pulls 15 = .ok (.ireturn, 1) := by decide +kernel
theorem dX5_pulls_16 : decode cX5_pulls 16 = .ok (.aload_n 0, 1) := by decide +kernel
theorem dX5_pulls_17 : decode cX5_pulls 17 = .ok (.getfield 48, 3) := by decide +kernel
theorem dX5_pulls_20 : decode cX5_pulls 20 = .ok (.iload_n 1, 1) := by decide +kernel
theorem dX5_pulls_21 : decode cX5_pulls 21 = .ok (.aaload, 1) := by decide +kernel
theorem dX5_pulls_22 : decode cX5_pulls 22 = .ok (.astore_n 3, 1) := by decide +kernel
theorem dX5_pulls_23 : decode cX5_pulls 23 = .ok (.aload_n 3, 1) := by decide +kernel
theorem dX5_pulls_24 : decode cX5_pulls 24 = .ok (.invokestatic 206, 3) := by decide +kernel
theorem dX5_pulls_27 : decode cX5_pulls 27 = .ok (.istore 4, 2) := by decide +kernel
theorem dX5_pulls_29 : decode cX5_pulls 29 = .ok (.iconst 0, 1) := by decide +kernel
theorem dX5_pulls_30 : decode cX5_pulls 30 = .ok (.istore 5, 2) := by decide +kernel
theorem dX5_pulls_32 : decode cX5_pulls 32 = .ok (.iload 5, 2) := by decide +kernel
theorem dX5_pulls_34 : decode cX5_pulls 34 = .ok (.iload 4, 2) := by decide +kernel
theorem dX5_pulls_36 : decode cX5_pulls 36 = .ok (.if_icmp .ge 23, 3) := by decide +kernel
theorem dX5_pulls_39 : decode cX5_pulls 39 = .ok (.aload_n 0, 1) := by decide +kernel
theorem dX5_pulls_40 : decode cX5_pulls 40 = .ok (.getfield 67, 3) := by decide +kernel
theorem dX5_pulls_43 : decode cX5_pulls 43 = .ok (.aload_n 3, 1) := by decide +kernel
theorem dX5_pulls_44 : decode cX5_pulls 44 = .ok (.iload 5, 2) := by decide +kernel
theorem dX5_pulls_46 : decode cX5_pulls 46 = .ok (.invokevirtual 210, 3) := by decide +kernel
theorem dX5_pulls_49 : decode cX5_pulls 49 = .ok (.invokevirtual 197, 3) := by decide +kernel
theorem dX5_pulls_52 : decode cX5_pulls 52 = .ok (.pop, 1) := by decide +kernel
theorem dX5_pulls_53 : decode cX5_pulls 53 = .ok (.iinc 5 1, 3) := by decide +kernel
theorem dX5_pulls_56 : decode cX5_pulls 56 = .ok (.goto (-24), 3) := by decide +kernel
theorem dX5_pulls_59 : decode cX5_pulls 59 = .ok (.iload 4, 2) := by decide +kernel
theorem dX5_pulls_61 : decode cX5_pulls 61 = .ok (.ireturn, 1) := by decide +kernel
theorem dX5_draws_0 : decode cX5_draws 0 = .ok (.iload_n 1, 1) := by decide +kernel
theorem dX5_draws_1 : decode cX5_draws 1 = .ok (.iconst 1, 1) := by decide +kernel
theorem dX5_draws_2 : decode cX5_draws 2 = .ok (.if_icmp .lt 9, 3) := by decide +kernel
theorem dX5_draws_5 : decode cX5_draws 5 = .ok (.iload_n 1, 1) := by decide +kernel
theorem dX5_draws_6 : decode cX5_draws 6 = .ok (.bipush 60, 2) := by decide +kernel
theorem dX5_draws_8 : decode cX5_draws 8 = .ok (.if_icmp .le 9, 3) := by decide +kernel
theorem dX5_draws_11 : decode cX5_draws 11 = .ok (.aload_n 0, 1) := by decide +kernel
theorem dX5_draws_12 : decode cX5_draws 12 = .ok (.iconst 1, 1) := by decide +kernel
theorem dX5_draws_13 : decode cX5_draws 13 = .ok (.invokevirtual 87, 3) := by decide +kernel
theorem dX5_draws_16 : decode cX5_draws 16 = .ok (.ireturn, 1) := by decide +kernel
theorem dX5_draws_17 : decode cX5_draws 17 = .ok (.iconst 0, 1) := by decide +kernel
theorem dX5_draws_18 : decode cX5_draws 18 = .ok (.istore_n 2, 1) := by decide +kernel
theorem dX5_draws_19 : decode cX5_draws 19 = .ok (.iconst 0, 1) := by decide +kernel
theorem dX5_draws_20 : decode cX5_draws 20 = .ok (.istore_n 3, 1) := by decide +kernel
theorem dX5_draws_21 : decode cX5_draws 21 = .ok (.iload_n 3, 1) := by decide +kernel
theorem dX5_draws_22 : decode cX5_draws 22 = .ok (.iload_n 1, 1) := by decide +kernel
theorem dX5_draws_23 : decode cX5_draws 23 = .ok (.if_icmp .ge 35, 3) := by decide +kernel
theorem dX5_draws_26 : decode cX5_draws 26 = .ok (.aload_n 0, 1) := by decide +kernel
theorem dX5_draws_27 : decode cX5_draws 27 = .ok (.getfield 67, 3) := by decide +kernel
theorem dX5_draws_30 : decode cX5_draws 30 = .ok (.iconst 1, 1) := by decide +kernel
theorem dX5_draws_31 : decode cX5_draws 31 = .ok (.aload_n 0, 1) := by decide +kernel
theorem dX5_draws_32 : decode cX5_draws 32 = .ok (.getfield 67, 3) := by decide +kernel
theorem dX5_draws_35 : decode cX5_draws 35 = .ok (.invokevirtual 213, 3) := by decide +kernel
theorem dX5_draws_38 : decode cX5_draws 38 = .ok (.bipush 15, 2) := by decide +kernel
theorem dX5_draws_40 : decode cX5_draws 40 = .ok (.irem, 1) := by decide +kernel
theorem dX5_draws_41 : decode cX5_draws 41 = .ok (.iadd, 1) := by decide +kernel
theorem dX5_draws_42 : decode cX5_draws 42 = .ok (.invokevirtual 197, 3) := by decide +kernel
theorem dX5_draws_45 : decode cX5_draws 45 = .ok (.iconst 2, 1) := by decide +kernel
theorem dX5_draws_46 : decode cX5_draws 46 = .ok (.if_icmp .ne 6, 3) := by decide +kernel
theorem dX5_draws_49 : decode cX5_draws 49 = .ok (.iinc 2 1, 3) := by decide +kernel
theorem dX5_draws_52 : decode cX5_draws 52 = .ok (.iinc 3 1, 3) := by decide +kernel
theorem dX5_draws_55 : decode cX5_draws 55 = .ok (.goto (-34), 3) := by decide +kernel
theorem dX5_draws_58 : decode cX5_draws 58 = .ok (.iload_n 2, 1) := by decide +kernel
theorem dX5_draws_59 : decode cX5_draws 59 = .ok (.ireturn, 1) := by decide +kernel
theorem dX5_seed_0 : decode cX5_seed 0 = .ok (.aload_n 0, 1) := by decide +kernel
theorem dX5_seed_1 : decode cX5_seed 1 = .ok (.getfield 67, 3) := by decide +kernel
theorem dX5_seed_4 : decode cX5_seed 4 = .ok (.getfield 217, 3) := by decide +kernel
theorem dX5_seed_7 : decode cX5_seed 7 = .ok (.istore_n 2, 1) := by decide +kernel
theorem dX5_seed_8 : decode cX5_seed 8 = .ok (.aload_n 0, 1) := by decide +kernel
theorem dX5_seed_9 : decode cX5_seed 9 = .ok (.getfield 67, 3) := by decide +kernel
theorem dX5_seed_12 : decode cX5_seed 12 = .ok (.iload_n 1, 1) := by decide +kernel
theorem dX5_seed_13 : decode cX5_seed 13 = .ok (.putfield 217, 3) := by decide +kernel
theorem dX5_seed_16 : decode cX5_seed 16 = .ok (.iload_n 2, 1) := by decide +kernel
theorem dX5_seed_17 : decode cX5_seed 17 = .ok (.ireturn, 1) := by decide +kernel
theorem dX5_fewest_0 : decode cX5_fewest 0 = .ok (.aload_n 0, 1) := by decide +kernel
theorem dX5_fewest_1 : decode cX5_fewest 1 = .ok (.getfield 67, 3) := by decide +kernel
theorem dX5_fewest_4 : decode cX5_fewest 4 = .ok (.iload_n 1, 1) := by decide +kernel
theorem dX5_fewest_5 : decode cX5_fewest 5 = .ok (.invokevirtual 102, 3) := by decide +kernel
theorem dX5_fewest_8 : decode cX5_fewest 8 = .ok (.ifCond .eq 20, 3) := by decide +kernel
theorem dX5_fewest_11 : decode cX5_fewest 11 = .ok (.iload_n 2, 1) := by decide +kernel
theorem dX5_fewest_12 : decode cX5_fewest 12 = .ok (.invokestatic 220, 3) := by decide +kernel
theorem dX5_fewest_15 : decode cX5_fewest 15 = .ok (.ifCond .eq 13, 3) := by decide +kernel
theorem dX5_fewest_18 : decode cX5_fewest 18 = .ok (.iload_n 3, 1) := by decide +kernel
theorem dX5_fewest_19 : decode cX5_fewest 19 = .ok (.iconst (-1), 1) := by decide +kernel
theorem dX5_fewest_20 : decode cX5_fewest 20 = .ok (.if_icmp .lt 8, 3) := by decide +kernel
theorem dX5_fewest_23 : decode cX5_fewest 23 = .ok (.iload_n 3, 1) := by decide +kernel
theorem dX5_fewest_24 : decode cX5_fewest 24 = .ok (.iconst 3, 1) := by decide +kernel
theorem dX5_fewest_25 : decode cX5_fewest 25 = .ok (.if_icmp .lt 9, 3) := by decide +kernel
theorem dX5_fewest_28 : decode cX5_fewest 28 = .ok (.aload_n 0, 1) := by decide +kernel
theorem dX5_fewest_29 : decode cX5_fewest 29 = .ok (.iconst 1, 1) := by decide +kernel
theorem dX5_fewest_30 : decode cX5_fewest 30 = .ok (.invokevirtual 87, 3) := by decide +kernel
theorem dX5_fewest_33 : decode cX5_fewest 33 = .ok (.ireturn, 1) := by decide +kernel
theorem dX5_fewest_34 : decode cX5_fewest 34 = .ok (.aload_n 0, 1) := by decide +kernel
theorem dX5_fewest_35 : decode cX5_fewest 35 = .ok (.getfield 67, 3) := by decide +kernel
theorem dX5_fewest_38 : decode cX5_fewest 38 = .ok (.iload_n 1, 1) := by decide +kernel
theorem dX5_fewest_39 : decode cX5_fewest 39 = .ok (.invokevirtual 114, 3) := by decide +kernel
theorem dX5_fewest_42 : decode cX5_fewest 42 = .ok (.ifCond .ge 9, 3) := by decide +kernel
theorem dX5_fewest_45 : decode cX5_fewest 45 = .ok (.aload_n 0, 1) := by decide +kernel
theorem dX5_fewest_46 : decode cX5_fewest 46 = .ok (.iconst 3, 1) := by decide +kernel
theorem dX5_fewest_47 : decode cX5_fewest 47 = .ok (.invokevirtual 87, 3) := by decide +kernel
theorem dX5_fewest_50 : decode cX5_fewest 50 = .ok (.ireturn, 1) := by decide +kernel
theorem dX5_fewest_51 : decode cX5_fewest 51 = .ok (.aload_n 0, 1) := by decide +kernel
theorem dX5_fewest_52 : decode cX5_fewest 52 = .ok (.getfield 80, 3) := by decide +kernel
theorem dX5_fewest_55 : decode cX5_fewest 55 = .ok (.aload_n 0, 1) := by decide +kernel
theorem dX5_fewest_56 : decode cX5_fewest 56 = .ok (.getfield 67, 3) := by decide +kernel
theorem dX5_fewest_59 : decode cX5_fewest 59 = .ok (.invokevirtual 223, 3) := by decide +kernel
theorem dX5_fewest_62 : decode cX5_fewest 62 = .ok (.iconst 0, 1) := by decide +kernel
theorem dX5_fewest_63 : decode cX5_fewest 63 = .ok (.istore 4, 2) := by decide +kernel
theorem dX5_fewest_65 : decode cX5_fewest 65 = .ok (.iconst 1, 1) := by decide +kernel
theorem dX5_fewest_66 : decode cX5_fewest 66 = .ok (.istore 5, 2) := by decide +kernel
theorem dX5_fewest_68 : decode cX5_fewest 68 = .ok (.iload 5, 2) := by decide +kernel
theorem dX5_fewest_70 : decode cX5_fewest 70 = .ok (.iload_n 2, 1) := by decide +kernel
theorem dX5_fewest_71 : decode cX5_fewest 71 = .ok (.if_icmp .gt 40, 3) := by decide +kernel
theorem dX5_fewest_74 : decode cX5_fewest 74 = .ok (.iload 4, 2) := by decide +kernel
theorem dX5_fewest_76 : decode cX5_fewest 76 = .ok (.ifCond .ne 35, 3) := by decide +kernel
theorem dX5_fewest_79 : decode cX5_fewest 79 = .ok (.aload_n 0, 1) := by decide +kernel
theorem dX5_fewest_80 : decode cX5_fewest 80 = .ok (.getfield 80, 3) := by decide +kernel
theorem dX5_fewest_83 : decode cX5_fewest 83 = .ok (.iload_n 1, 1) := by decide +kernel
theorem dX5_fewest_84 : decode cX5_fewest 84 = .ok (.aload_n 0, 1) := by decide +kernel
theorem dX5_fewest_85 : decode cX5_fewest 85 = .ok (.getfield 56, 3) := by decide +kernel
theorem dX5_fewest_88 : decode cX5_fewest 88 = .ok (.iconst 0, 1) := by decide +kernel
theorem dX5_fewest_89 : decode cX5_fewest 89 = .ok (.iload 5, 2) := by decide +kernel
theorem dX5_fewest_91 : decode cX5_fewest 91 = .ok (.invokestatic 226, 3) := by decide +kernel
theorem dX5_fewest_94 : decode cX5_fewest 94 = .ok (.ifCond .eq 8, 3) := by decide +kernel
theorem dX5_fewest_97 : decode cX5_fewest 97 = .ok (.iload 5, 2) := by decide +kernel
theorem dX5_fewest_99 : decode cX5_fewest 99 = .ok (.goto 4, 3) := by decide +kernel
theorem dX5_fewest_102 : decode cX5_fewest 102 = .ok (.iconst 0, 1) := by decide +kernel
theorem dX5_fewest_103 : decode cX5_fewest 103 = .ok (.istore 4, 2) := by decide +kernel
theorem dX5_fewest_105 : decode cX5_fewest 105 = .ok (.iinc 5 1, 3) := by decide +kernel
theorem dX5_fewest_108 : decode cX5_fewest 108 = .ok (.goto (-40), 3) := by decide +kernel
theorem dX5_fewest_111 : decode cX5_fewest 111 = .ok (.iload 4, 2) := by decide +kernel
theorem dX5_fewest_113 : decode cX5_fewest 113 = .ok (.ifCond .eq 9, 3) := by decide +kernel
theorem dX5_fewest_116 : decode cX5_fewest 116 = .ok (.iload_n 3, 1) := by decide +kernel
theorem dX5_fewest_117 : decode cX5_fewest 117 = .ok (.iload 4, 2) := by decide +kernel
theorem dX5_fewest_119 : decode cX5_fewest 119 = .ok (.if_icmp .lt 9, 3) := by decide +kernel
theorem dX5_fewest_122 : decode cX5_fewest 122 = .ok (.aload_n 0, 1) := by decide +kernel
theorem dX5_fewest_123 : decode cX5_fewest 123 = .ok (.iconst 2, 1) := by decide +kernel
theorem dX5_fewest_124 : decode cX5_fewest 124 = .ok (.invokevirtual 87, 3) := by decide +kernel
theorem dX5_fewest_127 : decode cX5_fewest 127 = .ok (.ireturn, 1) := by decide +kernel
theorem dX5_fewest_128 : decode cX5_fewest 128 = .ok (.iload_n 3, 1) := by decide +kernel
theorem dX5_fewest_129 : decode cX5_fewest 129 = .ok (.ifCond .ge 8, 3) := by decide +kernel
theorem dX5_fewest_132 : decode cX5_fewest 132 = .ok (.iload 4, 2) := by decide +kernel
theorem dX5_fewest_134 : decode cX5_fewest 134 = .ok (.goto 9, 3) := by decide +kernel
theorem dX5_fewest_137 : decode cX5_fewest 137 = .ok (.aload_n 0, 1) := by decide +kernel
theorem dX5_fewest_138 : decode cX5_fewest 138 = .ok (.getfield 56, 3) := by decide +kernel
theorem dX5_fewest_141 : decode cX5_fewest 141 = .ok (.iload_n 3, 1) := by decide +kernel
theorem dX5_fewest_142 : decode cX5_fewest 142 = .ok (.iaload, 1) := by decide +kernel
theorem dX5_fewest_143 : decode cX5_fewest 143 = .ok (.ireturn, 1) := by decide +kernel
theorem dX5_game_0 : decode cX5_game 0 = .ok (.iload_n 1, 1) := by decide +kernel
theorem dX5_game_1 : decode cX5_game 1 = .ok (.invokestatic 220, 3) := by decide +kernel
theorem dX5_game_4 : decode cX5_game 4 = .ok (.ifCond .eq 12, 3) := by decide +kernel
theorem dX5_game_7 : decode cX5_game 7 = .ok (.iload_n 2, 1) := by decide +kernel
theorem dX5_game_8 : decode cX5_game 8 = .ok (.ifCond .lt 8, 3) := by decide +kernel
theorem dX5_game_11 : decode cX5_game 11 = .ok (.iload_n 2, 1) := by decide +kernel
theorem dX5_game_12 : decode cX5_game 12 = .ok (.iconst 1, 1) := by decide +kernel
theorem dX5_game_13 : decode cX5_game 13 = .ok (.if_icmp .le 9, 3) := by decide +kernel
theorem dX5_game_16 : decode cX5_game 16 = .ok (.aload_n 0, 1) := by decide +kernel
theorem dX5_game_17 : decode cX5_game 17 = .ok (.iconst 1, 1) := by decide +kernel
theorem dX5_game_18 : decode cX5_game 18 = .ok (.invokevirtual 87, 3) := by decide +kernel
theorem dX5_game_21 : decode cX5_game 21 = .ok (.ireturn, 1) := by decide +kernel
theorem dX5_game_22 : decode cX5_game 22 = .ok (.aload_n 0, 1) := by decide +kernel
theorem dX5_game_23 : decode cX5_game 23 = .ok (.getfield 80, 3) := by decide +kernel
theorem dX5_game_26 : decode cX5_game 26 = .ok (.aload_n 0, 1) := by decide +kernel
theorem dX5_game_27 : decode cX5_game 27 = .ok (.getfield 67, 3) := by decide +kernel
theorem dX5_game_30 : decode cX5_game 30 = .ok (.invokevirtual 223, 3) := by decide +kernel
theorem dX5_game_33 : decode cX5_game 33 = .ok (.iconst 0, 1) := by decide +kernel
theorem dX5_game_34 : decode cX5_game 34 = .ok (.istore_n 3, 1) := by decide +kernel
theorem dX5_game_35 : decode cX5_game 35 = .ok (.iconst 0, 1) := by decide +kernel
theorem dX5_game_36 : decode cX5_game 36 = .ok (.istore 4, 2) := by decide +kernel
theorem dX5_game_38 : decode cX5_game 38 = .ok (.iconst 1, 1) := by decide +kernel
theorem dX5_game_39 : decode cX5_game 39 = .ok (.istore 5, 2) := by decide +kernel
theorem dX5_game_41 : decode cX5_game 41 = .ok (.iload 5, 2) := by decide +kernel
theorem dX5_game_43 : decode cX5_game 43 = .ok (.bipush 16, 2) := by decide +kernel
theorem dX5_game_45 : decode cX5_game 45 = .ok (.if_icmp .ge 54, 3) := by decide +kernel
theorem dX5_game_48 : decode cX5_game 48 = .ok (.aload_n 0, 1) := by decide +kernel
theorem dX5_game_49 : decode cX5_game 49 = .ok (.getfield 80, 3) := by decide +kernel
theorem dX5_game_52 : decode cX5_game 52 = .ok (.iload 5, 2) := by decide +kernel
theorem dX5_game_54 : decode cX5_game 54 = .ok (.invokestatic 230, 3) := by decide +kernel
theorem dX5_game_57 : decode cX5_game 57 = .ok (.ifCond .eq 6, 3) := by decide +kernel
theorem dX5_game_60 : decode cX5_game 60 = .ok (.goto 33, 3) := by decide +kernel
theorem dX5_game_63 : decode cX5_game 63 = .ok (.aload_n 0, 1) := by decide +kernel
theorem dX5_game_64 : decode cX5_game 64 = .ok (.getfield 80, 3) := by decide +kernel
theorem dX5_game_67 : decode cX5_game 67 = .ok (.iload 5, 2) := by decide +kernel
theorem dX5_game_69 : decode cX5_game 69 = .ok (.iload_n 1, 1) := by decide +kernel
theorem dX5_game_70 : decode cX5_game 70 = .ok (.invokestatic 234, 3) := by decide +kernel
theorem dX5_game_73 : decode cX5_game 73 = .ok (.istore 6, 2) := by decide +kernel
theorem dX5_game_75 : decode cX5_game 75 = .ok (.iload 4, 2) := by decide +kernel
theorem dX5_game_77 : decode cX5_game 77 = .ok (.ifCond .eq 9, 3) := by decide +kernel
theorem dX5_game_80 : decode cX5_game 80 = .ok (.iload 6, 2) := by decide +kernel
theorem dX5_game_82 : decode cX5_game 82 = .ok (.iload_n 3, 1) := by decide +kernel
theorem dX5_game_83 : decode cX5_game 83 = .ok (.if_icmp .le 10, 3) := by decide +kernel
theorem dX5_game_86 : decode cX5_game 86 = .ok (.iload 6, 2) := by decide +kernel
theorem dX5_game_88 : decode cX5_game 88 = .ok (.istore_n 3, 1) := by decide +kernel
theorem dX5_game_89 : decode cX5_game 89 = .ok (.iload 5, 2) := by decide +kernel
theorem dX5_game_91 : decode cX5_game 91 = .ok (.istore 4, 2) := by decide +kernel
theorem dX5_game_93 : decode cX5_game 93 = .ok (.iinc 5 1, 3) := by decide +kernel
theorem dX5_game_96 : decode cX5_game 96 = .ok (.goto (-55), 3) := by decide +kernel
theorem dX5_game_99 : decode cX5_game 99 = .ok (.iload_n 2, 1) := by decide +kernel
theorem dX5_game_100 : decode cX5_game 100 = .ok (.ifCond .ne 7, 3) := by decide +kernel
theorem dX5_game_103 : decode cX5_game 103 = .ok (.iload_n 3, 1) := by decide +kernel
theorem dX5_game_104 : decode cX5_game 104 = .ok (.goto 5, 3) := by decide +kernel
theorem dX5_game_107 : decode cX5_game 107 = .ok (.iload 4, 2) := by decide +kernel
theorem dX5_game_109 : decode cX5_game 109 = .ok (.ireturn, 1) := by decide +kernel
theorem dX5_haul_0 : decode cX5_haul 0 = .ok (.aload_n 0, 1) := by decide +kernel
theorem dX5_haul_1 : decode cX5_haul 1 = .ok (.iload_n 1, 1) := by decide +kernel
theorem dX5_haul_2 : decode cX5_haul 2 = .ok (.invokevirtual 203, 3) := by decide +kernel
theorem dX5_haul_5 : decode cX5_haul 5 = .ok (.istore_n 2, 1) := by decide +kernel
theorem dX5_haul_6 : decode cX5_haul 6 = .ok (.iload_n 2, 1) := by decide +kernel
theorem dX5_haul_7 : decode cX5_haul 7 = .ok (.ifCond .eq 9, 3) := by decide +kernel
theorem dX5_haul_10 : decode cX5_haul 10 = .ok (.aload_n 0, 1) := by decide +kernel
theorem dX5_haul_11 : decode cX5_haul 11 = .ok (.iload_n 2, 1) := by decide +kernel
theorem dX5_haul_12 : decode cX5_haul 12 = .ok (.invokevirtual 87, 3) := by decide +kernel
theorem dX5_haul_15 : decode cX5_haul 15 = .ok (.ireturn, 1) := by decide +kernel
theorem dX5_haul_16 : decode cX5_haul 16 = .ok (.aload_n 0, 1) := by decide +kernel
theorem dX5_haul_17 : decode cX5_haul 17 = .ok (.getfield 80, 3) := by decide +kernel
theorem dX5_haul_20 : decode cX5_haul 20 = .ok (.aload_n 0, 1) := by decide +kernel
theorem dX5_haul_21 : decode cX5_haul 21 = .ok (.getfield 67, 3) := by decide +kernel
theorem dX5_haul_24 : decode cX5_haul 24 = .ok (.invokevirtual 223, 3) := by decide +kernel
theorem dX5_haul_27 : decode cX5_haul 27 = .ok (.aload_n 0, 1) := by decide +kernel
theorem dX5_haul_28 : decode cX5_haul 28 = .ok (.getfield 80, 3) := by decide +kernel
theorem dX5_haul_31 : decode cX5_haul 31 = .ok (.aload_n 0, 1) := by decide +kernel
theorem dX5_haul_32 : decode cX5_haul 32 = .ok (.getfield 48, 3) := by decide +kernel
theorem dX5_haul_35 : decode cX5_haul 35 = .ok (.iload_n 1, 1) := by decide +kernel
theorem dX5_haul_36 : decode cX5_haul 36 = .ok (.aaload, 1) := by decide +kernel
theorem dX5_haul_37 : decode cX5_haul 37 = .ok (.invokestatic 238, 3) := by decide +kernel
theorem dX5_haul_40 : decode cX5_haul 40 = .ok (.ireturn, 1) := by decide +kernel
theorem dX5_changed_0 : decode cX5_changed 0 = .ok (.aload_n 0, 1) := by decide +kernel
theorem dX5_changed_1 : decode cX5_changed 1 = .ok (.iload_n 1, 1) := by decide +kernel
theorem dX5_changed_2 : decode cX5_changed 2 = .ok (.invokevirtual 203, 3) := by decide +kernel
theorem dX5_changed_5 : decode cX5_changed 5 = .ok (.istore_n 2, 1) := by decide +kernel
theorem dX5_changed_6 : decode cX5_changed 6 = .ok (.iload_n 2, 1) := by decide +kernel
theorem dX5_changed_7 : decode cX5_changed 7 = .ok (.ifCond .eq 9, 3) := by decide +kernel
theorem dX5_changed_10 : decode cX5_changed 10 = .ok (.aload_n 0, 1) := by decide +kernel
theorem dX5_changed_11 : decode cX5_changed 11 = .ok (.iload_n 2, 1) := by decide +kernel
theorem dX5_changed_12 : decode cX5_changed 12 = .ok (.invokevirtual 87, 3) := by decide +kernel
theorem dX5_changed_15 : decode cX5_changed 15 = .ok (.ireturn, 1) := by decide +kernel
theorem dX5_changed_16 : decode cX5_changed 16 = .ok (.aload_n 0, 1) := by decide +kernel
theorem dX5_changed_17 : decode cX5_changed 17 = .ok (.getfield 48, 3) := by decide +kernel
theorem dX5_changed_20 : decode cX5_changed 20 = .ok (.iload_n 1, 1) := by decide +kernel
theorem dX5_changed_21 : decode cX5_changed 21 = .ok (.aaload, 1) := by decide +kernel
theorem dX5_changed_22 : decode cX5_changed 22 = .ok (.astore_n 3, 1) := by decide +kernel
theorem dX5_changed_23 : decode cX5_changed 23 = .ok (.aload_n 0, 1) := by decide +kernel
theorem dX5_changed_24 : decode cX5_changed 24 = .ok (.getfield 80, 3) := by decide +kernel
theorem dX5_changed_27 : decode cX5_changed 27 = .ok (.aload_n 0, 1) := by decide +kernel
theorem dX5_changed_28 : decode cX5_changed 28 = .ok (.getfield 67, 3) := by decide +kernel
theorem dX5_changed_31 : decode cX5_changed 31 = .ok (.invokevirtual 223, 3) := by decide +kernel
theorem dX5_changed_34 : decode cX5_changed 34 = .ok (.aload_n 0, 1) := by decide +kernel
theorem dX5_changed_35 : decode cX5_changed 35 = .ok (.getfield 80, 3) := by decide +kernel
theorem dX5_changed_38 : decode cX5_changed 38 = .ok (.aload_n 3, 1) := by decide +kernel
theorem dX5_changed_39 : decode cX5_changed 39 = .ok (.invokestatic 238, 3) := by decide +kernel
theorem dX5_changed_42 : decode cX5_changed 42 = .ok (.istore 4, 2) := by decide +kernel
theorem dX5_changed_44 : decode cX5_changed 44 = .ok (.iconst (-1), 1) := by decide +kernel
theorem dX5_changed_45 : decode cX5_changed 45 = .ok (.istore 5, 2) := by decide +kernel
theorem dX5_changed_47 : decode cX5_changed 47 = .ok (.iconst 0, 1) := by decide +kernel
theorem dX5_changed_48 : decode cX5_changed 48 = .ok (.istore 6, 2) := by decide +kernel
theorem dX5_changed_50 : decode cX5_changed 50 = .ok (.iload 6, 2) := by decide +kernel
theorem dX5_changed_52 : decode cX5_changed 52 = .ok (.aload_n 0, 1) := by decide +kernel
theorem dX5_changed_53 : decode cX5_changed 53 = .ok (.getfield 67, 3) := by decide +kernel
theorem dX5_changed_56 : decode cX5_changed 56 = .ok (.getfield 91, 3) := by decide +kernel
theorem dX5_changed_59 : decode cX5_changed 59 = .ok (.if_icmp .ge 113, 3) := by decide +kernel
theorem dX5_changed_62 : decode cX5_changed 62 = .ok (.iload 6, 2) := by decide +kernel
theorem dX5_changed_64 : decode cX5_changed 64 = .ok (.iconst 1, 1) := by decide +kernel
theorem dX5_changed_65 : decode cX5_changed 65 = .ok (.iadd, 1) := by decide +kernel
theorem dX5_changed_66 : decode cX5_changed 66 = .ok (.istore 7, 2) := by decide +kernel
theorem dX5_changed_68 : decode cX5_changed 68 = .ok (.iload 7, 2) := by decide +kernel
theorem dX5_changed_70 : decode cX5_changed 70 = .ok (.aload_n 0, 1) := by decide +kernel
theorem dX5_changed_71 : decode cX5_changed 71 = .ok (.getfield 67, 3) := by decide +kernel
theorem dX5_changed_74 : decode cX5_changed 74 = .ok (.getfield 91, 3) := by decide +kernel
theorem dX5_changed_77 : decode cX5_changed 77 = .ok (.if_icmp .ge 89, 3) := by decide +kernel
theorem dX5_changed_80 : decode cX5_changed 80 = .ok (.aload_n 0, 1) := by decide +kernel
theorem dX5_changed_81 : decode cX5_changed 81 = .ok (.getfield 67, 3) := by decide +kernel
theorem dX5_changed_84 : decode cX5_changed 84 = .ok (.iload 6, 2) := by decide +kernel
theorem dX5_changed_86 : decode cX5_changed 86 = .ok (.invokevirtual 114, 3) := by decide +kernel
theorem dX5_changed_89 : decode cX5_changed 89 = .ok (.ifCond .lt 71, 3) := by decide +kernel
theorem dX5_changed_92 : decode cX5_changed 92 = .ok (.aload_n 0, 1) := by decide +kernel
theorem dX5_changed_93 : decode cX5_changed 93 = .ok (.getfield 67, 3) := by decide +kernel
theorem dX5_changed_96 : decode cX5_changed 96 = .ok (.iload 7, 2) := by decide +kernel
theorem dX5_changed_98 : decode cX5_changed 98 = .ok (.invokevirtual 114, 3) := by decide +kernel
theorem dX5_changed_101 : decode cX5_changed 101 = .ok (.ifCond .ge 6, 3) := by decide +kernel
theorem dX5_changed_104 : decode cX5_changed 104 = .ok (.goto 56, 3) := by decide +kernel
theorem dX5_changed_107 : decode cX5_changed 107 = .ok (.aload_n 0, 1) := by decide +kernel
theorem dX5_changed_108 : decode cX5_changed 108 = .ok (.getfield 80, 3) := by decide +kernel
theorem dX5_changed_111 : decode cX5_changed 111 = .ok (.aload_n 0, 1) := by decide +kernel
theorem dX5_changed_112 : decode cX5_changed 112 = .ok (.getfield 67, 3) := by decide +kernel
theorem dX5_changed_115 : decode cX5_changed 115 = .ok (.invokevirtual 223, 3) := by decide +kernel
theorem dX5_changed_118 : decode cX5_changed 118 = .ok (.aload_n 0, 1) := by decide +kernel
theorem dX5_changed_119 : decode cX5_changed 119 = .ok (.getfield 80, 3) := by decide +kernel
theorem dX5_changed_122 : decode cX5_changed 122 = .ok (.iload 6, 2) := by decide +kernel
theorem dX5_changed_124 : decode cX5_changed 124 = .ok (.iload 7, 2) := by decide +kernel
theorem dX5_changed_126 : decode cX5_changed 126 = .ok (.invokevirtual 242, 3) := by decide +kernel
theorem dX5_changed_129 : decode cX5_changed 129 = .ok (.aload_n 0, 1) := by decide +kernel
theorem dX5_changed_130 : decode cX5_changed 130 = .ok (.getfield 80, 3) := by decide +kernel
theorem dX5_changed_133 : decode cX5_changed 133 = .ok (.aload_n 3, 1) := by decide +kernel
theorem dX5_changed_134 : decode cX5_changed 134 = .ok (.invokestatic 238, 3) := by decide +kernel
theorem dX5_changed_137 : decode cX5_changed 137 = .ok (.istore 8, 2) := by decide +kernel
theorem dX5_changed_139 : decode cX5_changed 139 = .ok (.iload 8, 2) := by decide +kernel
theorem dX5_changed_141 : decode cX5_changed 141 = .ok (.iload 4, 2) := by decide +kernel
theorem dX5_changed_143 : decode cX5_changed 143 = .ok (.if_icmp .ge 17, 3) := by decide +kernel
theorem dX5_changed_146 : decode cX5_changed 146 = .ok (.iload 8, 2) := by decide +kernel
theorem dX5_changed_148 : decode cX5_changed 148 = .ok (.istore 4, 2) := by decide +kernel
theorem dX5_changed_150 : decode cX5_changed 150 = .ok (.bipush 100, 2) := by decide +kernel
theorem dX5_changed_152 : decode cX5_changed 152 = .ok (.iload 6, 2) := by decide +kernel
theorem dX5_changed_154 : decode cX5_changed 154 = .ok (.imul, 1) := by decide +kernel
theorem dX5_changed_155 : decode cX5_changed 155 = .ok (.iload 7, 2) := by decide +kernel
theorem dX5_changed_157 : decode cX5_changed 157 = .ok (.iadd, 1) := by decide +kernel
theorem dX5_changed_158 : decode cX5_changed 158 = .ok (.istore 5, 2) := by decide +kernel
theorem dX5_changed_160 : decode cX5_changed 160 = .ok (.iinc 7 1, 3) := by decide +kernel
theorem dX5_changed_163 : decode cX5_changed 163 = .ok (.goto (-95), 3) := by decide +kernel
theorem dX5_changed_166 : decode cX5_changed 166 = .ok (.iinc 6 1, 3) := by decide +kernel
theorem dX5_changed_169 : decode cX5_changed 169 = .ok (.goto (-119), 3) := by decide +kernel
theorem dX5_changed_172 : decode cX5_changed 172 = .ok (.iload 5, 2) := by decide +kernel
theorem dX5_changed_174 : decode cX5_changed 174 = .ok (.ifCond .ge 11, 3) := by decide +kernel
theorem dX5_changed_177 : decode cX5_changed 177 = .ok (.aload_n 0, 1) := by decide +kernel
theorem dX5_changed_178 : decode cX5_changed 178 = .ok (.iconst 2, 1) := by decide +kernel
theorem dX5_changed_179 : decode cX5_changed 179 = .ok (.invokevirtual 87, 3) := by decide +kernel
theorem dX5_changed_182 : decode cX5_changed 182 = .ok (.goto 5, 3) := by decide +kernel
theorem dX5_changed_185 : decode cX5_changed 185 = .ok (.iload 5, 2) := by decide +kernel
theorem dX5_changed_187 : decode cX5_changed 187 = .ok (.ireturn, 1) := by decide +kernel
theorem dX5_springs_0 : decode cX5_springs 0 = .ok (.iload_n 2, 1) := by decide +kernel
theorem dX5_springs_1 : decode cX5_springs 1 = .ok (.ifCond .lt 8, 3) := by decide +kernel
theorem dX5_springs_4 : decode cX5_springs 4 = .ok (.iload_n 2, 1) := by decide +kernel
theorem dX5_springs_5 : decode cX5_springs 5 = .ok (.iconst 1, 1) := by decide +kernel
theorem dX5_springs_6 : decode cX5_springs 6 = .ok (.if_icmp .le 7, 3) := by decide +kernel
theorem dX5_springs_9 : decode cX5_springs 9 = .ok (.iconst 1, 1) := by decide +kernel
theorem dX5_springs_10 : decode cX5_springs 10 = .ok (.goto 8, 3) := by decide +kernel
theorem dX5_springs_13 : decode cX5_springs 13 = .ok (.aload_n 0, 1) := by decide +kernel
theorem dX5_springs_14 : decode cX5_springs 14 = .ok (.iload_n 1, 1) := by decide +kernel
theorem dX5_springs_15 : decode cX5_springs 15 = .ok (.invokevirtual 203, 3) := by decide +kernel
theorem dX5_springs_18 : decode cX5_springs 18 = .ok (.istore_n 3, 1) := by decide +kernel
theorem dX5_springs_19 : decode cX5_springs 19 = .ok (.iload_n 3, 1) := by decide +kernel
theorem dX5_springs_20 : decode cX5_springs 20 = .ok (.ifCond .eq 9, 3) := by decide +kernel
theorem dX5_springs_23 : decode cX5_springs 23 = .ok (.aload_n 0, 1) := by decide +kernel
theorem dX5_springs_24 : decode cX5_springs 24 = .ok (.iload_n 3, 1) := by decide +kernel
theorem dX5_springs_25 : decode cX5_springs 25 = .ok (.invokevirtual 87, 3) := by decide +kernel
theorem dX5_springs_28 : decode cX5_springs 28 = .ok (.ireturn, 1) := by decide +kernel
theorem dX5_springs_29 : decode cX5_springs 29 = .ok (.iconst 0, 1) := by decide +kernel
theorem dX5_springs_30 : decode cX5_springs 30 = .ok (.istore 4, 2) := by decide +kernel
theorem dX5_springs_32 : decode cX5_springs 32 = .ok (.iconst (-1), 1) := by decide +kernel
theorem dX5_springs_33 : decode cX5_springs 33 = .ok (.istore 5, 2) := by decide +kernel
theorem dX5_springs_35 : decode cX5_springs 35 = .ok (.bipush 99, 2) := by decide +kernel
theorem dX5_springs_37 : decode cX5_springs 37 = .ok (.istore 6, 2) := by decide +kernel
theorem dX5_springs_39 : decode cX5_springs 39 = .ok (.iload 6, 2) := by decide +kernel
theorem dX5_springs_41 : decode cX5_springs 41 = .ok (.ifCond .lt 37, 3) := by decide +kernel
theorem dX5_springs_44 : decode cX5_springs 44 = .ok (.aload_n 0, 1) := by decide +kernel
theorem dX5_springs_45 : decode cX5_springs 45 = .ok (.getfield 48, 3) := by decide +kernel
theorem dX5_springs_48 : decode cX5_springs 48 = .ok (.iload_n 1, 1) := by decide +kernel
theorem dX5_springs_49 : decode cX5_springs 49 = .ok (.aaload, 1) := by decide +kernel
theorem dX5_springs_50 : decode cX5_springs 50 = .ok (.iload 6, 2) := by decide +kernel
theorem dX5_springs_52 : decode cX5_springs 52 = .ok (.aload_n 0, 1) := by decide +kernel
theorem dX5_springs_53 : decode cX5_springs 53 = .ok (.getfield 67, 3) := by decide +kernel
theorem dX5_springs_56 : decode cX5_springs 56 = .ok (.getfield 149, 3) := by decide +kernel
theorem dX5_springs_59 : decode cX5_springs 59 = .ok (.invokestatic 245, 3) := by decide +kernel
theorem dX5_springs_62 : decode cX5_springs 62 = .ok (.ifCond .eq 10, 3) := by decide +kernel
theorem dX5_springs_65 : decode cX5_springs 65 = .ok (.iinc 4 1, 3) := by decide +kernel
theorem dX5_springs_68 : decode cX5_springs 68 = .ok (.iload 6, 2) := by decide +kernel
theorem dX5_springs_70 : decode cX5_springs 70 = .ok (.istore 5, 2) := by decide +kernel
theorem dX5_springs_72 : decode cX5_springs 72 = .ok (.iinc 6 (-1), 3) := by decide +kernel
theorem dX5_springs_75 : decode cX5_springs 75 = .ok (.goto (-36), 3) := by decide +kernel
theorem dX5_springs_78 : decode cX5_springs 78 = .ok (.iload_n 2, 1) := by decide +kernel
theorem dX5_springs_79 : decode cX5_springs 79 = .ok (.ifCond .ne 6, 3) := by decide +kernel
theorem dX5_springs_82 : decode cX5_springs 82 = .ok (.iload 4, 2) := by decide +kernel
theorem dX5_springs_84 : decode cX5_springs 84 = .ok (.ireturn, 1) := by decide +kernel
theorem dX5_springs_85 : decode cX5_springs 85 = .ok (.iload 5, 2) := by decide +kernel
theorem dX5_springs_87 : decode cX5_springs 87 = .ok (.ifCond .ge 11, 3) := by decide +kernel
theorem dX5_springs_90 : decode cX5_springs 90 = .ok (.aload_n 0, 1) := by decide +kernel
theorem dX5_springs_91 : decode cX5_springs 91 = .ok (.iconst 2, 1) := by decide +kernel
theorem dX5_springs_92 : decode cX5_springs 92 = .ok (.invokevirtual 87, 3) := by decide +kernel
theorem dX5_springs_95 : decode cX5_springs 95 = .ok (.goto 5, 3) := by decide +kernel
theorem dX5_springs_98 : decode cX5_springs 98 = .ok (.iload 5, 2) := by decide +kernel
theorem dX5_springs_100 : decode cX5_springs 100 = .ok (.ireturn, 1) := by decide +kernel
theorem dX5_odds_0 : decode cX5_odds 0 = .ok (.iload_n 2, 1) := by decide +kernel
theorem dX5_odds_1 : decode cX5_odds 1 = .ok (.ifCond .lt 8, 3) := by decide +kernel
theorem dX5_odds_4 : decode cX5_odds 4 = .ok (.iload_n 2, 1) := by decide +kernel
theorem dX5_odds_5 : decode cX5_odds 5 = .ok (.iconst 1, 1) := by decide +kernel
theorem dX5_odds_6 : decode cX5_odds 6 = .ok (.if_icmp .le 7, 3) := by decide +kernel
theorem dX5_odds_9 : decode cX5_odds 9 = .ok (.iconst 1, 1) := by decide +kernel
theorem dX5_odds_10 : decode cX5_odds 10 = .ok (.goto 8, 3) := by decide +kernel
theorem dX5_odds_13 : decode cX5_odds 13 = .ok (.aload_n 0, 1) := by decide +kernel
theorem dX5_odds_14 : decode cX5_odds 14 = .ok (.iload_n 1, 1) := by decide +kernel
theorem dX5_odds_15 : decode cX5_odds 15 = .ok (.invokevirtual 203, 3) := by decide +kernel
theorem dX5_odds_18 : decode cX5_odds 18 = .ok (.istore_n 3, 1) := by decide +kernel
theorem dX5_odds_19 : decode cX5_odds 19 = .ok (.iload_n 3, 1) := by decide +kernel
theorem dX5_odds_20 : decode cX5_odds 20 = .ok (.ifCond .eq 10, 3) := by decide +kernel
theorem dX5_odds_23 : decode cX5_odds 23 = .ok (.aload_n 0, 1) := by decide +kernel
theorem dX5_odds_24 : decode cX5_odds 24 = .ok (.iload_n 3, 1) := by decide +kernel
theorem dX5_odds_25 : decode cX5_odds 25 = .ok (.invokevirtual 87, 3) := by decide +kernel
theorem dX5_odds_28 : decode cX5_odds 28 = .ok (.i2l, 1) := by decide +kernel
theorem dX5_odds_29 : decode cX5_odds 29 = .ok (.lreturn, 1) := by decide +kernel
theorem dX5_odds_30 : decode cX5_odds 30 = .ok (.aload_n 0, 1) := by decide +kernel
theorem dX5_odds_31 : decode cX5_odds 31 = .ok (.getfield 48, 3) := by decide +kernel
theorem dX5_odds_34 : decode cX5_odds 34 = .ok (.iload_n 1, 1) := by decide +kernel
theorem dX5_odds_35 : decode cX5_odds 35 = .ok (.aaload, 1) := by decide +kernel
theorem dX5_odds_36 : decode cX5_odds 36 = .ok (.astore 4, 2) := by decide +kernel
theorem dX5_odds_38 : decode cX5_odds 38 = .ok (.aload 4, 2) := by decide +kernel
theorem dX5_odds_40 : decode cX5_odds 40 = .ok (.getfield 168, 3) := by decide +kernel
theorem dX5_odds_43 : decode cX5_odds 43 = .ok (.iconst 1, 1) := by decide +kernel
theorem dX5_odds_44 : decode cX5_odds 44 = .ok (.if_icmp .lt 25, 3) := by decide +kernel
theorem dX5_odds_47 : decode cX5_odds 47 = .ok (.aload 4, 2) := by decide +kernel
theorem dX5_odds_49 : decode cX5_odds 49 = .ok (.getfield 168, 3) := by decide +kernel
theorem dX5_odds_52 : decode cX5_odds 52 = .ok (.iconst 4, 1) := by decide +kernel
theorem dX5_odds_53 : decode cX5_odds 53 = .ok (.if_icmp .gt 16, 3) := by decide +kernel
theorem dX5_odds_56 : decode cX5_odds 56 = .ok (.aload 4, 2) := by decide +kernel
theorem dX5_odds_58 : decode cX5_odds 58 = .ok (.invokestatic 206, 3) := by decide +kernel
theorem dX5_odds_61 : decode cX5_odds 61 = .ok (.aload 4, 2) := by decide +kernel
theorem dX5_odds_63 : decode cX5_odds 63 = .ok (.getfield 168, 3) := by decide +kernel
theorem dX5_odds_66 : decode cX5_odds 66 = .ok (.if_icmp .ge 10, 3) := by decide +kernel
theorem dX5_odds_69 : decode cX5_odds 69 = .ok (.aload_n 0, 1) := by decide +kernel
theorem dX5_odds_70 : decode cX5_odds 70 = .ok (.iconst 2, 1) := by decide +kernel
theorem dX5_odds_71 : decode cX5_odds 71 = .ok (.invokevirtual 87, 3) := by decide +kernel
theorem dX5_odds_74 : decode cX5_odds 74 = .ok (.i2l, 1) := by decide +kernel
theorem dX5_odds_75 : decode cX5_odds 75 = .ok (.lreturn, 1) := by decide +kernel
theorem dX5_odds_76 : decode cX5_odds 76 = .ok (.iconst 1, 1) := by decide +kernel
theorem dX5_odds_77 : decode cX5_odds 77 = .ok (.istore 5, 2) := by decide +kernel
theorem dX5_odds_79 : decode cX5_odds 79 = .ok (.iconst 1, 1) := by decide +kernel
theorem dX5_odds_80 : decode cX5_odds 80 = .ok (.istore 6, 2) := by decide +kernel
theorem dX5_odds_82 : decode cX5_odds 82 = .ok (.iconst 0, 1) := by decide +kernel
theorem dX5_odds_83 : decode cX5_odds 83 = .ok (.istore 7, 2) := by decide +kernel
theorem dX5_odds_85 : decode cX5_odds 85 = .ok (.iload 7, 2) := by decide +kernel
theorem dX5_odds_87 : decode cX5_odds 87 = .ok (.aload 4, 2) := by decide +kernel
theorem dX5_odds_89 : decode cX5_odds 89 = .ok (.getfield 168, 3) := by decide +kernel
theorem dX5_odds_92 : decode cX5_odds 92 = .ok (.if_icmp .ge 29, 3) := by decide +kernel
theorem dX5_odds_95 : decode cX5_odds 95 = .ok (.iload 5, 2) := by decide +kernel
theorem dX5_odds_97 : decode cX5_odds 97 = .ok (.aload_n 0, 1) := by decide +kernel
theorem dX5_odds_98 : decode cX5_odds 98 = .ok (.aload 4, 2) := by decide +kernel
theorem dX5_odds_100 : decode cX5_odds 100 = .ok (.iload 7, 2) := by decide +kernel
theorem dX5_odds_102 : decode cX5_odds 102 = .ok (.invokevirtual 249, 3) := by decide +kernel
theorem dX5_odds_105 : decode cX5_odds 105 = .ok (.imul, 1) := by decide +kernel
theorem dX5_odds_106 : decode cX5_odds 106 = .ok (.istore 5, 2) := by decide +kernel
theorem dX5_odds_108 : decode cX5_odds 108 = .ok (.iload 6, 2) := by decide +kernel
theorem dX5_odds_110 : decode cX5_odds 110 = .ok (.bipush 16, 2) := by decide +kernel
theorem dX5_odds_112 : decode cX5_odds 112 = .ok (.imul, 1) := by decide +kernel
theorem dX5_odds_113 : decode cX5_odds 113 = .ok (.istore 6, 2) := by decide +kernel
theorem dX5_odds_115 : decode cX5_odds 115 = .ok (.iinc 7 1, 3) := by decide +kernel
theorem dX5_odds_118 : decode cX5_odds 118 = .ok (.goto (-33), 3) := by decide +kernel
theorem dX5_odds_121 : decode cX5_odds 121 = .ok (.iload 5, 2) := by decide +kernel
theorem dX5_odds_123 : decode cX5_odds 123 = .ok (.ifCond .ne 6, 3) := by decide +kernel
theorem dX5_odds_126 : decode cX5_odds 126 = .ok (.iload_n 2, 1) := by decide +kernel
theorem dX5_odds_127 : decode cX5_odds 127 = .ok (.i2l, 1) := by decide +kernel
theorem dX5_odds_128 : decode cX5_odds 128 = .ok (.lreturn, 1) := by decide +kernel
theorem dX5_odds_129 : decode cX5_odds 129 = .ok (.iconst 0, 1) := by decide +kernel
theorem dX5_odds_130 : decode cX5_odds 130 = .ok (.istore 7, 2) := by decide +kernel
theorem dX5_odds_132 : decode cX5_odds 132 = .ok (.iload 7, 2) := by decide +kernel
theorem dX5_odds_134 : decode cX5_odds 134 = .ok (.iconst 4, 1) := by decide +kernel
theorem dX5_odds_135 : decode cX5_odds 135 = .ok (.aload 4, 2) := by decide +kernel
theorem dX5_odds_137 : decode cX5_odds 137 = .ok (.getfield 168, 3) := by decide +kernel
theorem dX5_odds_140 : decode cX5_odds 140 = .ok (.imul, 1) := by decide +kernel
theorem dX5_odds_141 : decode cX5_odds 141 = .ok (.if_icmp .ge 28, 3) := by decide +kernel
theorem dX5_odds_144 : decode cX5_odds 144 = .ok (.iload 5, 2) := by decide +kernel
theorem dX5_odds_146 : decode cX5_odds 146 = .ok (.iconst 2, 1) := by decide +kernel
theorem dX5_odds_147 : decode cX5_odds 147 = .ok (.irem, 1) := by decide +kernel
theorem dX5_odds_148 : decode cX5_odds 148 = .ok (.ifCond .ne 21, 3) := by decide +kernel
theorem dX5_odds_151 : decode cX5_odds 151 = .ok (.iload 5, 2) := by decide +kernel
theorem dX5_odds_153 : decode cX5_odds 153 = .ok (.iconst 2, 1) := by decide +kernel
theorem dX5_odds_154 : decode cX5_odds 154 = .ok (.idiv, 1) := by decide +kernel
theorem dX5_odds_155 : decode cX5_odds 155 = .ok (.istore 5, 2) := by decide +kernel
theorem dX5_odds_157 : decode cX5_odds 157 = .ok (.iload 6, 2) := by decide +kernel
theorem dX5_odds_159 : decode cX5_odds 159 = .ok (.iconst 2, 1) := by decide +kernel
theorem dX5_odds_160 : decode cX5_odds 160 = .ok (.idiv, 1) := by decide +kernel
theorem dX5_odds_161 : decode cX5_odds 161 = .ok (.istore 6, 2) := by decide +kernel
theorem dX5_odds_163 : decode cX5_odds 163 = .ok (.iinc 7 1, 3) := by decide +kernel
theorem dX5_odds_166 : decode cX5_odds 166 = .ok (.goto (-34), 3) := by decide +kernel
theorem dX5_odds_169 : decode cX5_odds 169 = .ok (.iload_n 2, 1) := by decide +kernel
theorem dX5_odds_170 : decode cX5_odds 170 = .ok (.ifCond .ne 9, 3) := by decide +kernel
theorem dX5_odds_173 : decode cX5_odds 173 = .ok (.iload 5, 2) := by decide +kernel
theorem dX5_odds_175 : decode cX5_odds 175 = .ok (.i2l, 1) := by decide +kernel
theorem dX5_odds_176 : decode cX5_odds 176 = .ok (.goto 6, 3) := by decide +kernel
theorem dX5_odds_179 : decode cX5_odds 179 = .ok (.iload 6, 2) := by decide +kernel
theorem dX5_odds_181 : decode cX5_odds 181 = .ok (.i2l, 1) := by decide +kernel
theorem dX5_odds_182 : decode cX5_odds 182 = .ok (.lreturn, 1) := by decide +kernel
theorem dX5_seen_0 : decode cX5_seen 0 = .ok (.iload_n 1, 1) := by decide +kernel
theorem dX5_seen_1 : decode cX5_seen 1 = .ok (.ifCond .lt 17, 3) := by decide +kernel
theorem dX5_seen_4 : decode cX5_seen 4 = .ok (.iload_n 1, 1) := by decide +kernel
theorem dX5_seen_5 : decode cX5_seen 5 = .ok (.iconst 4, 1) := by decide +kernel
theorem dX5_seen_6 : decode cX5_seen 6 = .ok (.if_icmp .ge 12, 3) := by decide +kernel
theorem dX5_seen_9 : decode cX5_seen 9 = .ok (.iload_n 2, 1) := by decide +kernel
theorem dX5_seen_10 : decode cX5_seen 10 = .ok (.ifCond .lt 8, 3) := by decide +kernel
theorem dX5_seen_13 : decode cX5_seen 13 = .ok (.iload_n 2, 1) := by decide +kernel
theorem dX5_seen_14 : decode cX5_seen 14 = .ok (.iconst 5, 1) := by decide +kernel
theorem dX5_seen_15 : decode cX5_seen 15 = .ok (.if_icmp .lt 9, 3) := by decide +kernel
theorem dX5_seen_18 : decode cX5_seen 18 = .ok (.aload_n 0, 1) := by decide +kernel
theorem dX5_seen_19 : decode cX5_seen 19 = .ok (.iconst 1, 1) := by decide +kernel
theorem dX5_seen_20 : decode cX5_seen 20 = .ok (.invokevirtual 87, 3) := by decide +kernel
theorem dX5_seen_23 : decode cX5_seen 23 = .ok (.ireturn, 1) := by decide +kernel
theorem dX5_seen_24 : decode cX5_seen 24 = .ok (.iload_n 1, 1) := by decide +kernel
theorem dX5_seen_25 : decode cX5_seen 25 = .ok (.istore_n 3, 1) := by decide +kernel
theorem dX5_seen_26 : decode cX5_seen 26 = .ok (.iload_n 3, 1) := by decide +kernel
theorem dX5_seen_27 : decode cX5_seen 27 = .ok (.bipush 16, 2) := by decide +kernel
theorem dX5_seen_29 : decode cX5_seen 29 = .ok (.if_icmp .ge 28, 3) := by decide +kernel
theorem dX5_seen_32 : decode cX5_seen 32 = .ok (.aload_n 0, 1) := by decide +kernel
theorem dX5_seen_33 : decode cX5_seen 33 = .ok (.getfield 67, 3) := by decide +kernel
theorem dX5_seen_36 : decode cX5_seen 36 = .ok (.iload_n 3, 1) := by decide +kernel
theorem dX5_seen_37 : decode cX5_seen 37 = .ok (.iload_n 2, 1) := by decide +kernel
theorem dX5_seen_38 : decode cX5_seen 38 = .ok (.invokevirtual 161, 3) := by decide +kernel
theorem dX5_seen_41 : decode cX5_seen 41 = .ok (.istore 4, 2) := by decide +kernel
theorem dX5_seen_43 : decode cX5_seen 43 = .ok (.iload 4, 2) := by decide +kernel
theorem dX5_seen_45 : decode cX5_seen 45 = .ok (.ifCond .lt 6, 3) := by decide +kernel
theorem dX5_seen_48 : decode cX5_seen 48 = .ok (.iload 4, 2) := by decide +kernel
theorem dX5_seen_50 : decode cX5_seen 50 = .ok (.ireturn, 1) := by decide +kernel
theorem dX5_seen_51 : decode cX5_seen 51 = .ok (.iinc 3 4, 3) := by decide +kernel
theorem dX5_seen_54 : decode cX5_seen 54 = .ok (.goto (-28), 3) := by decide +kernel
theorem dX5_seen_57 : decode cX5_seen 57 = .ok (.aload_n 0, 1) := by decide +kernel
theorem dX5_seen_58 : decode cX5_seen 58 = .ok (.iconst 2, 1) := by decide +kernel
theorem dX5_seen_59 : decode cX5_seen 59 = .ok (.invokevirtual 87, 3) := by decide +kernel
theorem dX5_seen_62 : decode cX5_seen 62 = .ok (.ireturn, 1) := by decide +kernel
theorem dX5_fill_0 : decode cX5_fill 0 = .ok (.iload_n 1, 1) := by decide +kernel
theorem dX5_fill_1 : decode cX5_fill 1 = .ok (.ifCond .lt 8, 3) := by decide +kernel
theorem dX5_fill_4 : decode cX5_fill 4 = .ok (.iload_n 1, 1) := by decide +kernel
theorem dX5_fill_5 : decode cX5_fill 5 = .ok (.iconst 5, 1) := by decide +kernel
theorem dX5_fill_6 : decode cX5_fill 6 = .ok (.if_icmp .le 9, 3) := by decide +kernel
theorem dX5_fill_9 : decode cX5_fill 9 = .ok (.aload_n 0, 1) := by decide +kernel
theorem dX5_fill_10 : decode cX5_fill 10 = .ok (.iconst 1, 1) := by decide +kernel
theorem dX5_fill_11 : decode cX5_fill 11 = .ok (.invokevirtual 87, 3) := by decide +kernel
theorem dX5_fill_14 : decode cX5_fill 14 = .ok (.ireturn, 1) := by decide +kernel
theorem dX5_fill_15 : decode cX5_fill 15 = .ok (.iconst 0, 1) := by decide +kernel
theorem dX5_fill_16 : decode cX5_fill 16 = .ok (.istore_n 2, 1) := by decide +kernel
theorem dX5_fill_17 : decode cX5_fill 17 = .ok (.iconst 1, 1) := by decide +kernel
theorem dX5_fill_18 : decode cX5_fill 18 = .ok (.istore_n 3, 1) := by decide +kernel
theorem dX5_fill_19 : decode cX5_fill 19 = .ok (.iload_n 3, 1) := by decide +kernel
theorem dX5_fill_20 : decode cX5_fill 20 = .ok (.bipush 16, 2) := by decide +kernel
theorem dX5_fill_22 : decode cX5_fill 22 = .ok (.if_icmp .ge 26, 3) := by decide +kernel
theorem dX5_fill_25 : decode cX5_fill 25 = .ok (.iload_n 2, 1) := by decide +kernel
theorem dX5_fill_26 : decode cX5_fill 26 = .ok (.iconst 0, 1) := by decide +kernel
theorem dX5_fill_27 : decode cX5_fill 27 = .ok (.iload_n 1, 1) := by decide +kernel
theorem dX5_fill_28 : decode cX5_fill 28 = .ok (.aload_n 0, 1) := by decide +kernel
theorem dX5_fill_29 : decode cX5_fill 29 = .ok (.getfield 67, 3) := by decide +kernel
theorem dX5_fill_32 : decode cX5_fill 32 = .ok (.iload_n 3, 1) := by decide +kernel
theorem dX5_fill_33 : decode cX5_fill 33 = .ok (.invokevirtual 95, 3) := by decide +kernel
theorem dX5_fill_36 : decode cX5_fill 36 = .ok (.isub, 1) := by decide +kernel
theorem dX5_fill_37 : decode cX5_fill 37 = .ok (.invokestatic 253, 3) := by decide +kernel
theorem dX5_fill_40 : decode cX5_fill 40 = .ok (.iadd, 1) := by decide +kernel
theorem dX5_fill_41 : decode cX5_fill 41 = .ok (.istore_n 2, 1) := by decide +kernel
theorem dX5_fill_42 : decode cX5_fill 42 = .ok (.iinc 3 1, 3) := by decide +kernel
theorem dX5_fill_45 : decode cX5_fill 45 = .ok (.goto (-26), 3) := by decide +kernel
theorem dX5_fill_48 : decode cX5_fill 48 = .ok (.iload_n 2, 1) := by decide +kernel
theorem dX5_fill_49 : decode cX5_fill 49 = .ok (.ireturn, 1) := by decide +kernel
theorem dX5_voice_0 : decode cX5_voice 0 = .ok (.aload_n 0, 1) := by decide +kernel
theorem dX5_voice_1 : decode cX5_voice 1 = .ok (.getfield 67, 3) := by decide +kernel
theorem dX5_voice_4 : decode cX5_voice 4 = .ok (.iload_n 1, 1) := by decide +kernel
theorem dX5_voice_5 : decode cX5_voice 5 = .ok (.invokevirtual 102, 3) := by decide +kernel
theorem dX5_voice_8 : decode cX5_voice 8 = .ok (.ifCond .eq 12, 3) := by decide +kernel
theorem dX5_voice_11 : decode cX5_voice 11 = .ok (.iload_n 2, 1) := by decide +kernel
theorem dX5_voice_12 : decode cX5_voice 12 = .ok (.ifCond .lt 8, 3) := by decide +kernel
theorem dX5_voice_15 : decode cX5_voice 15 = .ok (.iload_n 2, 1) := by decide +kernel
theorem dX5_voice_16 : decode cX5_voice 16 = .ok (.iconst 3, 1) := by decide +kernel
theorem dX5_voice_17 : decode cX5_voice 17 = .ok (.if_icmp .le 9, 3) := by decide +kernel
theorem dX5_voice_20 : decode cX5_voice 20 = .ok (.aload_n 0, 1) := by decide +kernel
theorem dX5_voice_21 : decode cX5_voice 21 = .ok (.iconst 1, 1) := by decide +kernel
theorem dX5_voice_22 : decode cX5_voice 22 = .ok (.invokevirtual 87, 3) := by decide +kernel
theorem dX5_voice_25 : decode cX5_voice 25 = .ok (.ireturn, 1) := by decide +kernel
theorem dX5_voice_26 : decode cX5_voice 26 = .ok (.aload_n 0, 1) := by decide +kernel
theorem dX5_voice_27 : decode cX5_voice 27 = .ok (.getfield 44, 3) := by decide +kernel
theorem dX5_voice_30 : decode cX5_voice 30 = .ok (.aload_n 0, 1) := by decide +kernel
theorem dX5_voice_31 : decode cX5_voice 31 = .ok (.getfield 67, 3) := by decide +kernel
theorem dX5_voice_34 : decode cX5_voice 34 = .ok (.iload_n 1, 1) := by decide +kernel
theorem dX5_voice_35 : decode cX5_voice 35 = .ok (.invokevirtual 105, 3) := by decide +kernel
theorem dX5_voice_38 : decode cX5_voice 38 = .ok (.iload_n 1, 1) := by decide +kernel
theorem dX5_voice_39 : decode cX5_voice 39 = .ok (.aload_n 0, 1) := by decide +kernel
theorem dX5_voice_40 : decode cX5_voice 40 = .ok (.getfield 67, 3) := by decide +kernel
theorem dX5_voice_43 : decode cX5_voice 43 = .ok (.iload_n 1, 1) := by decide +kernel
theorem dX5_voice_44 : decode cX5_voice 44 = .ok (.invokevirtual 108, 3) := by decide +kernel
theorem dX5_voice_47 : decode cX5_voice 47 = .ok (.iload_n 2, 1) := by decide +kernel
theorem dX5_voice_48 : decode cX5_voice 48 = .ok (.iload_n 3, 1) := by decide +kernel
theorem dX5_voice_49 : decode cX5_voice 49 = .ok (.invokevirtual 258, 3) := by decide +kernel
theorem dX5_voice_52 : decode cX5_voice 52 = .ok (.istore 4, 2) := by decide +kernel
theorem dX5_voice_54 : decode cX5_voice 54 = .ok (.iload 4, 2) := by decide +kernel
theorem dX5_voice_56 : decode cX5_voice 56 = .ok (.ifCond .eq 13, 3) := by decide +kernel
theorem dX5_voice_59 : decode cX5_voice 59 = .ok (.aload_n 0, 1) := by decide +kernel
theorem dX5_voice_60 : decode cX5_voice 60 = .ok (.getfield 44, 3) := by decide +kernel
theorem dX5_voice_63 : decode cX5_voice 63 = .ok (.getfield 262, 3) := by decide +kernel
theorem dX5_voice_66 : decode cX5_voice 66 = .ok (.goto 9, 3) := by decide +kernel
theorem dX5_voice_69 : decode cX5_voice 69 = .ok (.aload_n 0, 1) := by decide +kernel
theorem dX5_voice_70 : decode cX5_voice 70 = .ok (.bipush 6, 2) := by decide +kernel
theorem dX5_voice_72 : decode cX5_voice 72 = .ok (.invokevirtual 87, 3) := by decide +kernel
theorem dX5_voice_75 : decode cX5_voice 75 = .ok (.ireturn, 1) := by decide +kernel
theorem dX5_body_0 : decode cX5_body 0 = .ok (.aload_n 0, 1) := by decide +kernel
theorem dX5_body_1 : decode cX5_body 1 = .ok (.getfield 44, 3) := by decide +kernel
theorem dX5_body_4 : decode cX5_body 4 = .ok (.getfield 265, 3) := by decide +kernel
theorem dX5_body_7 : decode cX5_body 7 = .ok (.iload_n 1, 1) := by decide +kernel
theorem dX5_body_8 : decode cX5_body 8 = .ok (.invokevirtual 268, 3) := by decide +kernel
theorem dX5_body_11 : decode cX5_body 11 = .ok (.ifCond .eq 17, 3) := by decide +kernel
theorem dX5_body_14 : decode cX5_body 14 = .ok (.aload_n 0, 1) := by decide +kernel
theorem dX5_body_15 : decode cX5_body 15 = .ok (.getfield 44, 3) := by decide +kernel
theorem dX5_body_18 : decode cX5_body 18 = .ok (.getfield 265, 3) := by decide +kernel
theorem dX5_body_21 : decode cX5_body 21 = .ok (.iload_n 1, 1) := by decide +kernel
theorem dX5_body_22 : decode cX5_body 22 = .ok (.invokevirtual 210, 3) := by decide +kernel
theorem dX5_body_25 : decode cX5_body 25 = .ok (.goto 8, 3) := by decide +kernel
theorem dX5_body_28 : decode cX5_body 28 = .ok (.aload_n 0, 1) := by decide +kernel
theorem dX5_body_29 : decode cX5_body 29 = .ok (.iconst 2, 1) := by decide +kernel
theorem dX5_body_30 : decode cX5_body 30 = .ok (.invokevirtual 87, 3) := by decide +kernel
theorem dX5_body_33 : decode cX5_body 33 = .ok (.ireturn, 1) := by decide +kernel
theorem dX5_sheet_0 : decode cX5_sheet 0 = .ok (.iload_n 1, 1) := by decide +kernel
theorem dX5_sheet_1 : decode cX5_sheet 1 = .ok (.invokestatic 271, 3) := by decide +kernel
theorem dX5_sheet_4 : decode cX5_sheet 4 = .ok (.ifCond .eq 25, 3) := by decide +kernel
theorem dX5_sheet_7 : decode cX5_sheet 7 = .ok (.iload_n 2, 1) := by decide +kernel
theorem dX5_sheet_8 : decode cX5_sheet 8 = .ok (.ifCond .eq 27, 3) := by decide +kernel
theorem dX5_sheet_11 : decode cX5_sheet 11 = .ok (.iload_n 2, 1) := by decide +kernel
theorem dX5_sheet_12 : decode cX5_sheet 12 = .ok (.bipush 8, 2) := by decide +kernel
theorem dX5_sheet_14 : decode cX5_sheet 14 = .ok (.if_icmp .eq 21, 3) := by decide +kernel
theorem dX5_sheet_17 : decode cX5_sheet 17 = .ok (.iload_n 2, 1) := by decide +kernel
theorem dX5_sheet_18 : decode cX5_sheet 18 = .ok (.bipush 16, 2) := by decide +kernel
theorem dX5_sheet_20 : decode cX5_sheet 20 = .ok (.if_icmp .eq 15, 3) := by decide +kernel
theorem dX5_sheet_23 : decode cX5_sheet 23 = .ok (.iload_n 2, 1) := by decide +kernel
theorem dX5_sheet_24 : decode cX5_sheet 24 = .ok (.bipush 32, 2) := by decide +kernel
theorem dX5_sheet_26 : decode cX5_sheet 26 = .ok (.if_icmp .eq 9, 3) := by decide +kernel
theorem dX5_sheet_29 : decode cX5_sheet 29 = .ok (.aload_n 0, 1) := by decide +kernel
theorem dX5_sheet_30 : decode cX5_sheet 30 = .ok (.iconst 1, 1) := by decide +kernel
theorem dX5_sheet_31 : decode cX5_sheet 31 = .ok (.invokevirtual 87, 3) := by decide +kernel
theorem dX5_sheet_34 : decode cX5_sheet 34 = .ok (.ireturn, 1) := by decide +kernel
theorem dX5_sheet_35 : decode cX5_sheet 35 = .ok (.iload_n 2, 1) := by decide +kernel
theorem dX5_sheet_36 : decode cX5_sheet 36 = .ok (.ifCond .eq 13, 3) := by decide +kernel
theorem dX5_sheet_39 : decode cX5_sheet 39 = .ok (.iload_n 3, 1) := by decide +kernel
theorem dX5_sheet_40 : decode cX5_sheet 40 = .ok (.ifCond .ge 9, 3) := by decide +kernel
theorem dX5_sheet_43 : decode cX5_sheet 43 = .ok (.aload_n 0, 1) := by decide +kernel
theorem dX5_sheet_44 : decode cX5_sheet 44 = .ok (.iconst 3, 1) := by decide +kernel
theorem dX5_sheet_45 : decode cX5_sheet 45 = .ok (.invokevirtual 87, 3) := by decide +kernel
theorem dX5_sheet_48 : decode cX5_sheet 48 = .ok (.ireturn, 1) := by decide +kernel
theorem dX5_sheet_49 : decode cX5_sheet 49 = .ok (.iload_n 2, 1) := by decide +kernel
theorem dX5_sheet_50 : decode cX5_sheet 50 = .ok (.ifCond .eq 15, 3) := by decide +kernel
theorem dX5_sheet_53 : decode cX5_sheet 53 = .ok (.iload_n 3, 1) := by decide +kernel
theorem dX5_sheet_54 : decode cX5_sheet 54 = .ok (.bipush 24, 2) := by decide +kernel
theorem dX5_sheet_56 : decode cX5_sheet 56 = .ok (.if_icmp .le 9, 3) := by decide +kernel
theorem dX5_sheet_59 : decode cX5_sheet 59 = .ok (.aload_n 0, 1) := by decide +kernel
theorem dX5_sheet_60 : decode cX5_sheet 60 = .ok (.iconst 1, 1) := by decide +kernel
theorem dX5_sheet_61 : decode cX5_sheet 61 = .ok (.invokevirtual 87, 3) := by decide +kernel
theorem dX5_sheet_64 : decode cX5_sheet 64 = .ok (.ireturn, 1) := by decide +kernel
theorem dX5_sheet_65 : decode cX5_sheet 65 = .ok (.aload_n 0, 1) := by decide +kernel
theorem dX5_sheet_66 : decode cX5_sheet 66 = .ok (.getfield 52, 3) := by decide +kernel
theorem dX5_sheet_69 : decode cX5_sheet 69 = .ok (.iload_n 1, 1) := by decide +kernel
theorem dX5_sheet_70 : decode cX5_sheet 70 = .ok (.iload_n 2, 1) := by decide +kernel
theorem dX5_sheet_71 : decode cX5_sheet 71 = .ok (.iastore, 1) := by decide +kernel
theorem dX5_sheet_72 : decode cX5_sheet 72 = .ok (.aload_n 0, 1) := by decide +kernel
theorem dX5_sheet_73 : decode cX5_sheet 73 = .ok (.getfield 48, 3) := by decide +kernel
theorem dX5_sheet_76 : decode cX5_sheet 76 = .ok (.iload_n 1, 1) := by decide +kernel
theorem dX5_sheet_77 : decode cX5_sheet 77 = .ok (.aaload, 1) := by decide +kernel
theorem dX5_sheet_78 : decode cX5_sheet 78 = .ok (.invokevirtual 181, 3) := by decide +kernel
theorem dX5_sheet_81 : decode cX5_sheet 81 = .ok (.iconst 0, 1) := by decide +kernel
theorem dX5_sheet_82 : decode cX5_sheet 82 = .ok (.istore 4, 2) := by decide +kernel
theorem dX5_sheet_84 : decode cX5_sheet 84 = .ok (.iload_n 2, 1) := by decide +kernel
theorem dX5_sheet_85 : decode cX5_sheet 85 = .ok (.ifCond .eq 25, 3) := by decide +kernel
theorem dX5_sheet_88 : decode cX5_sheet 88 = .ok (.iload 4, 2) := by decide +kernel
theorem dX5_sheet_90 : decode cX5_sheet 90 = .ok (.iload_n 3, 1) := by decide +kernel
theorem dX5_sheet_91 : decode cX5_sheet 91 = .ok (.if_icmp .ge 19, 3) := by decide +kernel
theorem dX5_sheet_94 : decode cX5_sheet 94 = .ok (.aload_n 0, 1) := by decide +kernel
theorem dX5_sheet_95 : decode cX5_sheet 95 = .ok (.getfield 48, 3) := by decide +kernel
theorem dX5_sheet_98 : decode cX5_sheet 98 = .ok (.iload_n 1, 1) := by decide +kernel
theorem dX5_sheet_99 : decode cX5_sheet 99 = .ok (.aaload, 1) := by decide +kernel
theorem dX5_sheet_100 : decode cX5_sheet 100 = .ok (.iconst 0, 1) := by decide +kernel
theorem dX5_sheet_101 : decode cX5_sheet 101 = .ok (.invokevirtual 171, 3) := by decide +kernel
theorem dX5_sheet_104 : decode cX5_sheet 104 = .ok (.iinc 4 1, 3) := by decide +kernel
theorem dX5_sheet_107 : decode cX5_sheet 107 = .ok (.goto (-23), 3) := by decide +kernel
theorem dX5_sheet_110 : decode cX5_sheet 110 = .ok (.iconst 1, 1) := by decide +kernel
theorem dX5_sheet_111 : decode cX5_sheet 111 = .ok (.ireturn, 1) := by decide +kernel
theorem dX5_put_0 : decode cX5_put 0 = .ok (.aload_n 0, 1) := by decide +kernel
theorem dX5_put_1 : decode cX5_put 1 = .ok (.iload_n 1, 1) := by decide +kernel
theorem dX5_put_2 : decode cX5_put 2 = .ok (.invokevirtual 203, 3) := by decide +kernel
theorem dX5_put_5 : decode cX5_put 5 = .ok (.istore 4, 2) := by decide +kernel
theorem dX5_put_7 : decode cX5_put 7 = .ok (.iload 4, 2) := by decide +kernel
theorem dX5_put_9 : decode cX5_put 9 = .ok (.ifCond .eq 10, 3) := by decide +kernel
theorem dX5_put_12 : decode cX5_put 12 = .ok (.aload_n 0, 1) := by decide +kernel
theorem dX5_put_13 : decode cX5_put 13 = .ok (.iload 4, 2) := by decide +kernel
theorem dX5_put_15 : decode cX5_put 15 = .ok (.invokevirtual 87, 3) := by decide +kernel
theorem dX5_put_18 : decode cX5_put 18 = .ok (.ireturn, 1) := by decide +kernel
theorem dX5_put_19 : decode cX5_put 19 = .ok (.aload_n 0, 1) := by decide +kernel
theorem dX5_put_20 : decode cX5_put 20 = .ok (.getfield 48, 3) := by decide +kernel
theorem dX5_put_23 : decode cX5_put 23 = .ok (.iload_n 1, 1) := by decide +kernel
theorem dX5_put_24 : decode cX5_put 24 = .ok (.aaload, 1) := by decide +kernel
theorem dX5_put_25 : decode cX5_put 25 = .ok (.iload_n 2, 1) := by decide +kernel
theorem dX5_put_26 : decode cX5_put 26 = .ok (.invokevirtual 268, 3) := by decide +kernel
theorem dX5_put_29 : decode cX5_put 29 = .ok (.ifCond .ne 9, 3) := by decide +kernel
theorem dX5_put_32 : decode cX5_put 32 = .ok (.aload_n 0, 1) := by decide +kernel
theorem dX5_put_33 : decode cX5_put 33 = .ok (.iconst 1, 1) := by decide +kernel
theorem dX5_put_34 : decode cX5_put 34 = .ok (.invokevirtual 87, 3) := by decide +kernel
theorem dX5_put_37 : decode cX5_put 37 = .ok (.ireturn, 1) := by decide +kernel
theorem dX5_put_38 : decode cX5_put 38 = .ok (.aload_n 0, 1) := by decide +kernel
theorem dX5_put_39 : decode cX5_put 39 = .ok (.getfield 48, 3) := by decide +kernel
theorem dX5_put_42 : decode cX5_put 42 = .ok (.iload_n 1, 1) := by decide +kernel
theorem dX5_put_43 : decode cX5_put 43 = .ok (.aaload, 1) := by decide +kernel
theorem dX5_put_44 : decode cX5_put 44 = .ok (.iload_n 2, 1) := by decide +kernel
theorem dX5_put_45 : decode cX5_put 45 = .ok (.iload_n 3, 1) := by decide +kernel
theorem dX5_put_46 : decode cX5_put 46 = .ok (.aload_n 0, 1) := by decide +kernel
theorem dX5_put_47 : decode cX5_put 47 = .ok (.getfield 52, 3) := by decide +kernel
theorem dX5_put_50 : decode cX5_put 50 = .ok (.iload_n 1, 1) := by decide +kernel
theorem dX5_put_51 : decode cX5_put 51 = .ok (.iaload, 1) := by decide +kernel
theorem dX5_put_52 : decode cX5_put 52 = .ok (.invokestatic 274, 3) := by decide +kernel
theorem dX5_put_55 : decode cX5_put 55 = .ok (.invokevirtual 277, 3) := by decide +kernel
theorem dX5_put_58 : decode cX5_put 58 = .ok (.iconst 1, 1) := by decide +kernel
theorem dX5_put_59 : decode cX5_put 59 = .ok (.ireturn, 1) := by decide +kernel
theorem dX5_move_0 : decode cX5_move 0 = .ok (.iload_n 1, 1) := by decide +kernel
theorem dX5_move_1 : decode cX5_move 1 = .ok (.invokestatic 271, 3) := by decide +kernel
theorem dX5_move_4 : decode cX5_move 4 = .ok (.ifCond .eq 10, 3) := by decide +kernel
theorem dX5_move_7 : decode cX5_move 7 = .ok (.iload_n 3, 1) := by decide +kernel
theorem dX5_move_8 : decode cX5_move 8 = .ok (.invokestatic 271, 3) := by decide +kernel
theorem dX5_move_11 : decode cX5_move 11 = .ok (.ifCond .ne 9, 3) := by decide +kernel
theorem dX5_move_14 : decode cX5_move 14 = .ok (.aload_n 0, 1) := by decide +kernel
theorem dX5_move_15 : decode cX5_move 15 = .ok (.iconst 1, 1) := by decide +kernel
theorem dX5_move_16 : decode cX5_move 16 = .ok (.invokevirtual 87, 3) := by decide +kernel
theorem dX5_move_19 : decode cX5_move 19 = .ok (.ireturn, 1) := by decide +kernel
theorem dX5_move_20 : decode cX5_move 20 = .ok (.aload_n 0, 1) := by decide +kernel
theorem dX5_move_21 : decode cX5_move 21 = .ok (.getfield 52, 3) := by decide +kernel
theorem dX5_move_24 : decode cX5_move 24 = .ok (.iload_n 1, 1) := by decide +kernel
theorem dX5_move_25 : decode cX5_move 25 = .ok (.iaload, 1) := by decide +kernel
theorem dX5_move_26 : decode cX5_move 26 = .ok (.ifCond .eq 12, 3) := by decide +kernel
theorem dX5_move_29 : decode cX5_move 29 = .ok (.aload_n 0, 1) := by decide +kernel
theorem dX5_move_30 : decode cX5_move 30 = .ok (.getfield 52, 3) := by decide +kernel
theorem dX5_move_33 : decode cX5_move 33 = .ok (.iload_n 3, 1) := by decide +kernel
theorem dX5_move_34 : decode cX5_move 34 = .ok (.iaload, 1) := by decide +kernel
theorem dX5_move_35 : decode cX5_move 35 = .ok (.ifCond .ne 9, 3) := by decide +kernel
theorem dX5_move_38 : decode cX5_move 38 = .ok (.aload_n 0, 1) := by decide +kernel
theorem dX5_move_39 : decode cX5_move 39 = .ok (.iconst 2, 1) := by decide +kernel
theorem dX5_move_40 : decode cX5_move 40 = .ok (.invokevirtual 87, 3) := by decide +kernel
theorem dX5_move_43 : decode cX5_move 43 = .ok (.ireturn, 1) := by decide +kernel
theorem dX5_move_44 : decode cX5_move 44 = .ok (.aload_n 0, 1) := by decide +kernel
theorem dX5_move_45 : decode cX5_move 45 = .ok (.getfield 52, 3) := by decide +kernel
theorem dX5_move_48 : decode cX5_move 48 = .ok (.iload_n 1, 1) := by decide +kernel
theorem dX5_move_49 : decode cX5_move 49 = .ok (.iaload, 1) := by decide +kernel
theorem dX5_move_50 : decode cX5_move 50 = .ok (.aload_n 0, 1) := by decide +kernel
theorem dX5_move_51 : decode cX5_move 51 = .ok (.getfield 52, 3) := by decide +kernel
theorem dX5_move_54 : decode cX5_move 54 = .ok (.iload_n 3, 1) := by decide +kernel
theorem dX5_move_55 : decode cX5_move 55 = .ok (.iaload, 1) := by decide +kernel
theorem dX5_move_56 : decode cX5_move 56 = .ok (.if_icmp .eq 9, 3) := by decide +kernel
theorem dX5_move_59 : decode cX5_move 59 = .ok (.aload_n 0, 1) := by decide +kernel
theorem dX5_move_60 : decode cX5_move 60 = .ok (.iconst 5, 1) := by decide +kernel
theorem dX5_move_61 : decode cX5_move 61 = .ok (.invokevirtual 87, 3) := by decide +kernel
theorem dX5_move_64 : decode cX5_move 64 = .ok (.ireturn, 1) := by decide +kernel
theorem dX5_move_65 : decode cX5_move 65 = .ok (.aload_n 0, 1) := by decide +kernel
theorem dX5_move_66 : decode cX5_move 66 = .ok (.getfield 48, 3) := by decide +kernel
theorem dX5_move_69 : decode cX5_move 69 = .ok (.iload_n 1, 1) := by decide +kernel
theorem dX5_move_70 : decode cX5_move 70 = .ok (.aaload, 1) := by decide +kernel
theorem dX5_move_71 : decode cX5_move 71 = .ok (.iload_n 2, 1) := by decide +kernel
theorem dX5_move_72 : decode cX5_move 72 = .ok (.iload 5, 2) := by decide +kernel
theorem dX5_move_74 : decode cX5_move 74 = .ok (.invokevirtual 280, 3) := by decide +kernel
theorem dX5_move_77 : decode cX5_move 77 = .ok (.ifCond .eq 19, 3) := by decide +kernel
theorem dX5_move_80 : decode cX5_move 80 = .ok (.aload_n 0, 1) := by decide +kernel
theorem dX5_move_81 : decode cX5_move 81 = .ok (.getfield 48, 3) := by decide +kernel
theorem dX5_move_84 : decode cX5_move 84 = .ok (.iload_n 3, 1) := by decide +kernel
theorem dX5_move_85 : decode cX5_move 85 = .ok (.aaload, 1) := by decide +kernel
theorem dX5_move_86 : decode cX5_move 86 = .ok (.iload 4, 2) := by decide +kernel
theorem dX5_move_88 : decode cX5_move 88 = .ok (.iload 5, 2) := by decide +kernel
theorem dX5_move_90 : decode cX5_move 90 = .ok (.invokevirtual 280, 3) := by decide +kernel
theorem dX5_move_93 : decode cX5_move 93 = .ok (.ifCond .ne 9, 3) := by decide +kernel
theorem dX5_move_96 : decode cX5_move 96 = .ok (.aload_n 0, 1) := by decide +kernel
theorem dX5_move_97 : decode cX5_move 97 = .ok (.iconst 1, 1) := by decide +kernel
theorem dX5_move_98 : decode cX5_move 98 = .ok (.invokevirtual 87, 3) := by decide +kernel
theorem dX5_move_101 : decode cX5_move 101 = .ok (.ireturn, 1) := by decide +kernel
theorem dX5_move_102 : decode cX5_move 102 = .ok (.aload_n 0, 1) := by decide +kernel
theorem dX5_move_103 : decode cX5_move 103 = .ok (.getfield 48, 3) := by decide +kernel
theorem dX5_move_106 : decode cX5_move 106 = .ok (.iload_n 3, 1) := by decide +kernel
theorem dX5_move_107 : decode cX5_move 107 = .ok (.aaload, 1) := by decide +kernel
theorem dX5_move_108 : decode cX5_move 108 = .ok (.iload 4, 2) := by decide +kernel
theorem dX5_move_110 : decode cX5_move 110 = .ok (.aload_n 0, 1) := by decide +kernel
theorem dX5_move_111 : decode cX5_move 111 = .ok (.getfield 48, 3) := by decide +kernel
theorem dX5_move_114 : decode cX5_move 114 = .ok (.iload_n 1, 1) := by decide +kernel
theorem dX5_move_115 : decode cX5_move 115 = .ok (.aaload, 1) := by decide +kernel
theorem dX5_move_116 : decode cX5_move 116 = .ok (.iload_n 2, 1) := by decide +kernel
theorem dX5_move_117 : decode cX5_move 117 = .ok (.iload 5, 2) := by decide +kernel
theorem dX5_move_119 : decode cX5_move 119 = .ok (.invokevirtual 283, 3) := by decide +kernel
theorem dX5_move_122 : decode cX5_move 122 = .ok (.iload 5, 2) := by decide +kernel
theorem dX5_move_124 : decode cX5_move 124 = .ok (.ireturn, 1) := by decide +kernel
theorem dX5_judge_0 : decode cX5_judge 0 = .ok (.iload_n 2, 1) := by decide +kernel
theorem dX5_judge_1 : decode cX5_judge 1 = .ok (.invokestatic 155, 3) := by decide +kernel
theorem dX5_judge_4 : decode cX5_judge 4 = .ok (.ifCond .ne 7, 3) := by decide +kernel
theorem dX5_judge_7 : decode cX5_judge 7 = .ok (.iconst 1, 1) := by decide +kernel
theorem dX5_judge_8 : decode cX5_judge 8 = .ok (.goto 8, 3) := by decide +kernel
theorem dX5_judge_11 : decode cX5_judge 11 = .ok (.aload_n 0, 1) := by decide +kernel
theorem dX5_judge_12 : decode cX5_judge 12 = .ok (.iload_n 1, 1) := by decide +kernel
theorem dX5_judge_13 : decode cX5_judge 13 = .ok (.invokevirtual 203, 3) := by decide +kernel
theorem dX5_judge_16 : decode cX5_judge 16 = .ok (.istore_n 3, 1) := by decide +kernel
theorem dX5_judge_17 : decode cX5_judge 17 = .ok (.iload_n 3, 1) := by decide +kernel
theorem dX5_judge_18 : decode cX5_judge 18 = .ok (.ifCond .eq 9, 3) := by decide +kernel
theorem dX5_judge_21 : decode cX5_judge 21 = .ok (.aload_n 0, 1) := by decide +kernel
theorem dX5_judge_22 : decode cX5_judge 22 = .ok (.iload_n 3, 1) := by decide +kernel
theorem dX5_judge_23 : decode cX5_judge 23 = .ok (.invokevirtual 87, 3) := by decide +kernel
theorem dX5_judge_26 : decode cX5_judge 26 = .ok (.ireturn, 1) := by decide +kernel
theorem dX5_judge_27 : decode cX5_judge 27 = .ok (.aload_n 0, 1) := by decide +kernel
theorem dX5_judge_28 : decode cX5_judge 28 = .ok (.getfield 48, 3) := by decide +kernel
theorem dX5_judge_31 : decode cX5_judge 31 = .ok (.iload_n 1, 1) := by decide +kernel
theorem dX5_judge_32 : decode cX5_judge 32 = .ok (.aaload, 1) := by decide +kernel
theorem dX5_judge_33 : decode cX5_judge 33 = .ok (.astore 4, 2) := by decide +kernel
theorem dX5_judge_35 : decode cX5_judge 35 = .ok (.aload_n 0, 1) := by decide +kernel
theorem dX5_judge_36 : decode cX5_judge 36 = .ok (.getfield 67, 3) := by decide +kernel
theorem dX5_judge_39 : decode cX5_judge 39 = .ok (.iload_n 2, 1) := by decide +kernel
theorem dX5_judge_40 : decode cX5_judge 40 = .ok (.invokevirtual 95, 3) := by decide +kernel
theorem dX5_judge_43 : decode cX5_judge 43 = .ok (.istore 5, 2) := by decide +kernel
theorem dX5_judge_45 : decode cX5_judge 45 = .ok (.aload 4, 2) := by decide +kernel
theorem dX5_judge_47 : decode cX5_judge 47 = .ok (.getfield 168, 3) := by decide +kernel
theorem dX5_judge_50 : decode cX5_judge 50 = .ok (.iload 5, 2) := by decide +kernel
theorem dX5_judge_52 : decode cX5_judge 52 = .ok (.invokestatic 287, 3) := by decide +kernel
theorem dX5_judge_55 : decode cX5_judge 55 = .ok (.istore 6, 2) := by decide +kernel
theorem dX5_judge_57 : decode cX5_judge 57 = .ok (.iconst 0, 1) := by decide +kernel
theorem dX5_judge_58 : decode cX5_judge 58 = .ok (.istore 7, 2) := by decide +kernel
theorem dX5_judge_60 : decode cX5_judge 60 = .ok (.iload 7, 2) := by decide +kernel
theorem dX5_judge_62 : decode cX5_judge 62 = .ok (.iload 6, 2) := by decide +kernel
theorem dX5_judge_64 : decode cX5_judge 64 = .ok (.if_icmp .ge 32, 3) := by decide +kernel
theorem dX5_judge_67 : decode cX5_judge 67 = .ok (.aload 4, 2) := by decide +kernel
theorem dX5_judge_69 : decode cX5_judge 69 = .ok (.iload 7, 2) := by decide +kernel
theorem dX5_judge_71 : decode cX5_judge 71 = .ok (.invokevirtual 210, 3) := by decide +kernel
theorem dX5_judge_74 : decode cX5_judge 74 = .ok (.aload_n 0, 1) := by decide +kernel
theorem dX5_judge_75 : decode cX5_judge 75 = .ok (.getfield 67, 3) := by decide +kernel
theorem dX5_judge_78 : decode cX5_judge 78 = .ok (.iload_n 2, 1) := by decide +kernel
theorem dX5_judge_79 : decode cX5_judge 79 = .ok (.iload 7, 2) := by decide +kernel
theorem dX5_judge_81 : decode cX5_judge 81 = .ok (.invokevirtual 161, 3) := by decide +kernel
theorem dX5_judge_84 : decode cX5_judge 84 = .ok (.if_icmp .eq 6, 3) := by decide +kernel
theorem dX5_judge_87 : decode cX5_judge 87 = .ok (.iload 7, 2) := by decide +kernel
theorem dX5_judge_89 : decode cX5_judge 89 = .ok (.ireturn, 1) := by decide +kernel
theorem dX5_judge_90 : decode cX5_judge 90 = .ok (.iinc 7 1, 3) := by decide +kernel
theorem dX5_judge_93 : decode cX5_judge 93 = .ok (.goto (-33), 3) := by decide +kernel
theorem dX5_judge_96 : decode cX5_judge 96 = .ok (.aload 4, 2) := by decide +kernel
theorem dX5_judge_98 : decode cX5_judge 98 = .ok (.getfield 168, 3) := by decide +kernel
theorem dX5_judge_101 : decode cX5_judge 101 = .ok (.iload 5, 2) := by decide +kernel
theorem dX5_judge_103 : decode cX5_judge 103 = .ok (.if_icmp .ne 7, 3) := by decide +kernel
theorem dX5_judge_106 : decode cX5_judge 106 = .ok (.iconst (-1), 1) := by decide +kernel
theorem dX5_judge_107 : decode cX5_judge 107 = .ok (.goto 5, 3) := by decide +kernel
theorem dX5_judge_110 : decode cX5_judge 110 = .ok (.iload 6, 2) := by decide +kernel
theorem dX5_judge_112 : decode cX5_judge 112 = .ok (.ireturn, 1) := by decide +kernel
theorem dX5_image_0 : decode cX5_image 0 = .ok (.aload_n 0, 1) := by decide +kernel
theorem dX5_image_1 : decode cX5_image 1 = .ok (.getfield 71, 3) := by decide +kernel
theorem dX5_image_4 : decode cX5_image 4 = .ok (.aload_n 0, 1) := by decide +kernel
theorem dX5_image_5 : decode cX5_image 5 = .ok (.getfield 67, 3) := by decide +kernel
theorem dX5_image_8 : decode cX5_image 8 = .ok (.invokevirtual 290, 3) := by decide +kernel
theorem dX5_image_11 : decode cX5_image 11 = .ok (.aload_n 0, 1) := by decide +kernel
theorem dX5_image_12 : decode cX5_image 12 = .ok (.getfield 18, 3) := by decide +kernel
theorem dX5_image_15 : decode cX5_image 15 = .ok (.aload_n 0, 1) := by decide +kernel
theorem dX5_image_16 : decode cX5_image 16 = .ok (.getfield 14, 3) := by decide +kernel
theorem dX5_image_19 : decode cX5_image 19 = .ok (.invokevirtual 293, 3) := by decide +kernel
theorem dX5_image_22 : decode cX5_image 22 = .ok (.aload_n 0, 1) := by decide +kernel
theorem dX5_image_23 : decode cX5_image 23 = .ok (.getfield 24, 3) := by decide +kernel
theorem dX5_image_26 : decode cX5_image 26 = .ok (.aload_n 0, 1) := by decide +kernel
theorem dX5_image_27 : decode cX5_image 27 = .ok (.getfield 21, 3) := by decide +kernel
theorem dX5_image_30 : decode cX5_image 30 = .ok (.invokevirtual 293, 3) := by decide +kernel
theorem dX5_image_33 : decode cX5_image 33 = .ok (.aload_n 0, 1) := by decide +kernel
theorem dX5_image_34 : decode cX5_image 34 = .ok (.dup, 1) := by decide +kernel
theorem dX5_image_35 : decode cX5_image 35 = .ok (.getfield 296, 3) := by decide +kernel
theorem dX5_image_38 : decode cX5_image 38 = .ok (.iconst 1, 1) := by decide +kernel
theorem dX5_image_39 : decode cX5_image 39 = .ok (.iadd, 1) := by decide +kernel
theorem dX5_image_40 : decode cX5_image 40 = .ok (.putfield 296, 3) := by decide +kernel
theorem dX5_image_43 : decode cX5_image 43 = .ok (.aload_n 0, 1) := by decide +kernel
theorem dX5_image_44 : decode cX5_image 44 = .ok (.getfield 296, 3) := by decide +kernel
theorem dX5_image_47 : decode cX5_image 47 = .ok (.ireturn, 1) := by decide +kernel
theorem dX5_restore_0 : decode cX5_restore 0 = .ok (.aload_n 0, 1) := by decide +kernel
theorem dX5_restore_1 : decode cX5_restore 1 = .ok (.getfield 296, 3) := by decide +kernel
theorem dX5_restore_4 : decode cX5_restore 4 = .ok (.ifCond .ne 9, 3) := by decide +kernel
theorem dX5_restore_7 : decode cX5_restore 7 = .ok (.aload_n 0, 1) := by decide +kernel
theorem dX5_restore_8 : decode cX5_restore 8 = .ok (.iconst 2, 1) := by decide +kernel
theorem dX5_restore_9 : decode cX5_restore 9 = .ok (.invokevirtual 87, 3) := by decide +kernel
theorem dX5_restore_12 : decode cX5_restore 12 = .ok (.ireturn, 1) := by decide +kernel
theorem dX5_restore_13 : decode cX5_restore 13 = .ok (.aload_n 0, 1) := by decide +kernel
theorem dX5_restore_14 : decode cX5_restore 14 = .ok (.getfield 67, 3) := by decide +kernel
theorem dX5_restore_17 : decode cX5_restore 17 = .ok (.aload_n 0, 1) := by decide +kernel
theorem dX5_restore_18 : decode cX5_restore 18 = .ok (.getfield 71, 3) := by decide +kernel
theorem dX5_restore_21 : decode cX5_restore 21 = .ok (.invokevirtual 290, 3) := by decide +kernel
theorem dX5_restore_24 : decode cX5_restore 24 = .ok (.aload_n 0, 1) := by decide +kernel
theorem dX5_restore_25 : decode cX5_restore 25 = .ok (.getfield 14, 3) := by decide +kernel
theorem dX5_restore_28 : decode cX5_restore 28 = .ok (.aload_n 0, 1) := by decide +kernel
theorem dX5_restore_29 : decode cX5_restore 29 = .ok (.getfield 18, 3) := by decide +kernel
theorem dX5_restore_32 : decode cX5_restore 32 = .ok (.invokevirtual 293, 3) := by decide +kernel
theorem dX5_restore_35 : decode cX5_restore 35 = .ok (.aload_n 0, 1) := by decide +kernel
theorem dX5_restore_36 : decode cX5_restore 36 = .ok (.getfield 21, 3) := by decide +kernel
theorem dX5_restore_39 : decode cX5_restore 39 = .ok (.aload_n 0, 1) := by decide +kernel
theorem dX5_restore_40 : decode cX5_restore 40 = .ok (.getfield 24, 3) := by decide +kernel
theorem dX5_restore_43 : decode cX5_restore 43 = .ok (.invokevirtual 293, 3) := by decide +kernel
theorem dX5_restore_46 : decode cX5_restore 46 = .ok (.aload_n 0, 1) := by decide +kernel
theorem dX5_restore_47 : decode cX5_restore 47 = .ok (.getfield 67, 3) := by decide +kernel
theorem dX5_restore_50 : decode cX5_restore 50 = .ok (.getfield 299, 3) := by decide +kernel
theorem dX5_restore_53 : decode cX5_restore 53 = .ok (.ireturn, 1) := by decide +kernel
theorem dX5_tell_0 : decode cX5_tell 0 = .ok (.aload_n 0, 1) := by decide +kernel
theorem dX5_tell_1 : decode cX5_tell 1 = .ok (.getfield 21, 3) := by decide +kernel
theorem dX5_tell_4 : decode cX5_tell 4 = .ok (.getfield 168, 3) := by decide +kernel
theorem dX5_tell_7 : decode cX5_tell 7 = .ok (.bipush 24, 2) := by decide +kernel
theorem dX5_tell_9 : decode cX5_tell 9 = .ok (.if_icmp .lt 9, 3) := by decide +kernel
theorem dX5_tell_12 : decode cX5_tell 12 = .ok (.aload_n 0, 1) := by decide +kernel
theorem dX5_tell_13 : decode cX5_tell 13 = .ok (.iconst 4, 1) := by decide +kernel
theorem dX5_tell_14 : decode cX5_tell 14 = .ok (.invokevirtual 87, 3) := by decide +kernel
theorem dX5_tell_17 : decode cX5_tell 17 = .ok (.ireturn, 1) := by decide +kernel
theorem dX5_tell_18 : decode cX5_tell 18 = .ok (.aload_n 0, 1) := by decide +kernel
theorem dX5_tell_19 : decode cX5_tell 19 = .ok (.getfield 21, 3) := by decide +kernel
theorem dX5_tell_22 : decode cX5_tell 22 = .ok (.iload_n 1, 1) := by decide +kernel
theorem dX5_tell_23 : decode cX5_tell 23 = .ok (.invokevirtual 171, 3) := by decide +kernel
theorem dX5_tell_26 : decode cX5_tell 26 = .ok (.aload_n 0, 1) := by decide +kernel
theorem dX5_tell_27 : decode cX5_tell 27 = .ok (.getfield 21, 3) := by decide +kernel
theorem dX5_tell_30 : decode cX5_tell 30 = .ok (.getfield 168, 3) := by decide +kernel
theorem dX5_tell_33 : decode cX5_tell 33 = .ok (.ireturn, 1) := by decide +kernel
theorem dX5_check_0 : decode cX5_check 0 = .ok (.iload_n 1, 1) := by decide +kernel
theorem dX5_check_1 : decode cX5_check 1 = .ok (.invokestatic 83, 3) := by decide +kernel
theorem dX5_check_4 : decode cX5_check 4 = .ok (.ifCond .eq 11, 3) := by decide +kernel
theorem dX5_check_7 : decode cX5_check 7 = .ok (.aload_n 0, 1) := by decide +kernel
theorem dX5_check_8 : decode cX5_check 8 = .ok (.iload_n 1, 1) := by decide +kernel
theorem dX5_check_9 : decode cX5_check 9 = .ok (.invokevirtual 302, 3) := by decide +kernel
theorem dX5_check_12 : decode cX5_check 12 = .ok (.goto 8, 3) := by decide +kernel
theorem dX5_check_15 : decode cX5_check 15 = .ok (.aload_n 0, 1) := by decide +kernel
theorem dX5_check_16 : decode cX5_check 16 = .ok (.iconst 1, 1) := by decide +kernel
theorem dX5_check_17 : decode cX5_check 17 = .ok (.invokevirtual 87, 3) := by decide +kernel
theorem dX5_check_20 : decode cX5_check 20 = .ok (.istore_n 2, 1) := by decide +kernel
theorem dX5_check_21 : decode cX5_check 21 = .ok (.aload_n 0, 1) := by decide +kernel
theorem dX5_check_22 : decode cX5_check 22 = .ok (.getfield 21, 3) := by decide +kernel
theorem dX5_check_25 : decode cX5_check 25 = .ok (.invokevirtual 181, 3) := by decide +kernel
theorem dX5_check_28 : decode cX5_check 28 = .ok (.iload_n 2, 1) := by decide +kernel
theorem dX5_check_29 : decode cX5_check 29 = .ok (.ireturn, 1) := by decide +kernel
theorem dX5_count_0 : decode cX5_count 0 = .ok (.iload_n 1, 1) := by decide +kernel
theorem dX5_count_1 : decode cX5_count 1 = .ok (.tableswitch 162 0 11 #[63, 71, 79, 87, 95, 103, 111, 119, 127, 135, 143, 154], 63) := by decide +kernel
theorem dX5_count_64 : decode cX5_count 64 = .ok (.aload_n 0, 1) := by decide +kernel
theorem dX5_count_65 : decode cX5_count 65 = .ok (.getfield 67, 3) := by decide +kernel
theorem dX5_count_68 : decode cX5_count 68 = .ok (.getfield 91, 3) := by decide +kernel
theorem dX5_count_71 : decode cX5_count 71 = .ok (.ireturn, 1) := by decide +kernel
theorem dX5_count_72 : decode cX5_count 72 = .ok (.aload_n 0, 1) := by decide +kernel
theorem dX5_count_73 : decode cX5_count 73 = .ok (.getfield 67, 3) := by decide +kernel
theorem dX5_count_76 : decode cX5_count 76 = .ok (.getfield 299, 3) := by decide +kernel
theorem dX5_count_79 : decode cX5_count 79 = .ok (.ireturn, 1) := by decide +kernel
theorem dX5_count_80 : decode cX5_count 80 = .ok (.aload_n 0, 1) := by decide +kernel
theorem dX5_count_81 : decode cX5_count 81 = .ok (.getfield 67, 3) := by decide +kernel
theorem dX5_count_84 : decode cX5_count 84 = .ok (.getfield 152, 3) := by decide +kernel
theorem dX5_count_87 : decode cX5_count 87 = .ok (.ireturn, 1) := by decide +kernel
theorem dX5_count_88 : decode cX5_count 88 = .ok (.aload_n 0, 1) := by decide +kernel
theorem dX5_count_89 : decode cX5_count 89 = .ok (.getfield 67, 3) := by decide +kernel
theorem dX5_count_92 : decode cX5_count 92 = .ok (.invokevirtual 305, 3) := by decide +kernel
theorem dX5_count_95 : decode cX5_count 95 = .ok (.ireturn, 1) := by decide +kernel
theorem dX5_count_96 : decode cX5_count 96 = .ok (.aload_n 0, 1) := by decide +kernel
theorem dX5_count_97 : decode cX5_count 97 = .ok (.getfield 67, 3) := by decide +kernel
theorem dX5_count_100 : decode cX5_count 100 = .ok (.getfield 146, 3) := by decide +kernel
theorem dX5_count_103 : decode cX5_count 103 = .ok (.ireturn, 1) := by decide +kernel
theorem dX5_count_104 : decode cX5_count 104 = .ok (.aload_n 0, 1) := by decide +kernel
theorem dX5_count_105 : decode cX5_count 105 = .ok (.getfield 67, 3) := by decide +kernel
theorem dX5_count_108 : decode cX5_count 108 = .ok (.getfield 149, 3) := by decide +kernel
theorem dX5_count_111 : decode cX5_count 111 = .ok (.ireturn, 1) := by decide +kernel
theorem dX5_count_112 : decode cX5_count 112 = .ok (.aload_n 0, 1) := by decide +kernel
theorem dX5_count_113 : decode cX5_count 113 = .ok (.getfield 67, 3) := by decide +kernel
theorem dX5_count_116 : decode cX5_count 116 = .ok (.invokevirtual 308, 3) := by decide +kernel
theorem dX5_count_119 : decode cX5_count 119 = .ok (.ireturn, 1) := by decide +kernel
theorem dX5_count_120 : decode cX5_count 120 = .ok (.aload_n 0, 1) := by decide +kernel
theorem dX5_count_121 : decode cX5_count 121 = .ok (.getfield 67, 3) := by decide +kernel
theorem dX5_count_124 : decode cX5_count 124 = .ok (.invokevirtual 311, 3) := by decide +kernel
theorem dX5_count_127 : decode cX5_count 127 = .ok (.ireturn, 1) := by decide +kernel
theorem dX5_count_128 : decode cX5_count 128 = .ok (.aload_n 0, 1) := by decide +kernel
theorem dX5_count_129 : decode cX5_count 129 = .ok (.getfield 14, 3) := by decide +kernel
theorem dX5_count_132 : decode cX5_count 132 = .ok (.getfield 168, 3) := by decide +kernel
theorem dX5_count_135 : decode cX5_count 135 = .ok (.ireturn, 1) := by decide +kernel
theorem dX5_count_136 : decode cX5_count 136 = .ok (.aload_n 0, 1) := by decide +kernel
theorem dX5_count_137 : decode cX5_count 137 = .ok (.getfield 21, 3) := by decide +kernel
theorem dX5_count_140 : decode cX5_count 140 = .ok (.getfield 168, 3) := by decide +kernel
theorem dX5_count_143 : decode cX5_count 143 = .ok (.ireturn, 1) := by decide +kernel
theorem dX5_count_144 : decode cX5_count 144 = .ok (.aload_n 0, 1) := by decide +kernel
theorem dX5_count_145 : decode cX5_count 145 = .ok (.getfield 44, 3) := by decide +kernel
theorem dX5_count_148 : decode cX5_count 148 = .ok (.getfield 265, 3) := by decide +kernel
theorem dX5_count_151 : decode cX5_count 151 = .ok (.getfield 168, 3) := by decide +kernel
theorem dX5_count_154 : decode cX5_count 154 = .ok (.ireturn, 1) := by decide +kernel
theorem dX5_count_155 : decode cX5_count 155 = .ok (.aload_n 0, 1) := by decide +kernel
theorem dX5_count_156 : decode cX5_count 156 = .ok (.getfield 67, 3) := by decide +kernel
theorem dX5_count_159 : decode cX5_count 159 = .ok (.getfield 217, 3) := by decide +kernel
theorem dX5_count_162 : decode cX5_count 162 = .ok (.ireturn, 1) := by decide +kernel
theorem dX5_count_163 : decode cX5_count 163 = .ok (.aload_n 0, 1) := by decide +kernel
theorem dX5_count_164 : decode cX5_count 164 = .ok (.iconst 1, 1) := by decide +kernel
theorem dX5_count_165 : decode cX5_count 165 = .ok (.invokevirtual 87, 3) := by decide +kernel
theorem dX5_count_168 : decode cX5_count 168 = .ok (.ireturn, 1) := by decide +kernel
theorem dX5_told_0 : decode cX5_told 0 = .ok (.iload_n 1, 1) := by decide +kernel
theorem dX5_told_1 : decode cX5_told 1 = .ok (.iconst 1, 1) := by decide +kernel
theorem dX5_told_2 : decode cX5_told 2 = .ok (.if_icmp .lt 18, 3) := by decide +kernel
theorem dX5_told_5 : decode cX5_told 5 = .ok (.iload_n 1, 1) := by decide +kernel
theorem dX5_told_6 : decode cX5_told 6 = .ok (.bipush 6, 2) := by decide +kernel
theorem dX5_told_8 : decode cX5_told 8 = .ok (.if_icmp .gt 12, 3) := by decide +kernel
theorem dX5_told_11 : decode cX5_told 11 = .ok (.aload_n 0, 1) := by decide +kernel
theorem dX5_told_12 : decode cX5_told 12 = .ok (.getfield 59, 3) := by decide +kernel
theorem dX5_told_15 : decode cX5_told 15 = .ok (.iload_n 1, 1) := by decide +kernel
theorem dX5_told_16 : decode cX5_told 16 = .ok (.iaload, 1) := by decide +kernel
theorem dX5_told_17 : decode cX5_told 17 = .ok (.goto 8, 3) := by decide +kernel
theorem dX5_told_20 : decode cX5_told 20 = .ok (.aload_n 0, 1) := by decide +kernel
theorem dX5_told_21 : decode cX5_told 21 = .ok (.iconst 1, 1) := by decide +kernel
theorem dX5_told_22 : decode cX5_told 22 = .ok (.invokevirtual 87, 3) := by decide +kernel
theorem dX5_told_25 : decode cX5_told 25 = .ok (.ireturn, 1) := by decide +kernel
theorem dX5_refuse_0 : decode cX5_refuse 0 = .ok (.iload_n 1, 1) := by decide +kernel
theorem dX5_refuse_1 : decode cX5_refuse 1 = .ok (.ifCond .lt 22, 3) := by decide +kernel
theorem dX5_refuse_4 : decode cX5_refuse 4 = .ok (.iload_n 1, 1) := by decide +kernel
theorem dX5_refuse_5 : decode cX5_refuse 5 = .ok (.aload_n 0, 1) := by decide +kernel
theorem dX5_refuse_6 : decode cX5_refuse 6 = .ok (.getfield 59, 3) := by decide +kernel
theorem dX5_refuse_9 : decode cX5_refuse 9 = .ok (.arraylength, 1) := by decide +kernel
theorem dX5_refuse_10 : decode cX5_refuse 10 = .ok (.if_icmp .ge 13, 3) := by decide +kernel
theorem dX5_refuse_13 : decode cX5_refuse 13 = .ok (.aload_n 0, 1) := by decide +kernel
theorem dX5_refuse_14 : decode cX5_refuse 14 = .ok (.getfield 59, 3) := by decide +kernel
theorem dX5_refuse_17 : decode cX5_refuse 17 = .ok (.iload_n 1, 1) := by decide +kernel
theorem dX5_refuse_18 : decode cX5_refuse 18 = .ok (.dup2, 1) := by decide +kernel
theorem dX5_refuse_19 : decode cX5_refuse 19 = .ok (.iaload, 1) := by decide +kernel
theorem dX5_refuse_20 : decode cX5_refuse 20 = .ok (.iconst 1, 1) := by decide +kernel
theorem dX5_refuse_21 : decode cX5_refuse 21 = .ok (.iadd, 1) := by decide +kernel
theorem dX5_refuse_22 : decode cX5_refuse 22 = .ok (.iastore, 1) := by decide +kernel
theorem dX5_refuse_23 : decode cX5_refuse 23 = .ok (.ldc_w 314, 3) := by decide +kernel
theorem dX5_refuse_26 : decode cX5_refuse 26 = .ok (.iload_n 1, 1) := by decide +kernel
theorem dX5_refuse_27 : decode cX5_refuse 27 = .ok (.isub, 1) := by decide +kernel
theorem dX5_refuse_28 : decode cX5_refuse 28 = .ok (.ireturn, 1) := by decide +kernel
theorem dX5_isCell_0 : decode cX5_isCell 0 = .ok (.iload_n 0, 1) := by decide +kernel
theorem dX5_isCell_1 : decode cX5_isCell 1 = .ok (.ifCond .lt 13, 3) := by decide +kernel
theorem dX5_isCell_4 : decode cX5_isCell 4 = .ok (.iload_n 0, 1) := by decide +kernel
theorem dX5_isCell_5 : decode cX5_isCell 5 = .ok (.bipush 16, 2) := by decide +kernel
theorem dX5_isCell_7 : decode cX5_isCell 7 = .ok (.if_icmp .ge 7, 3) := by decide +kernel
theorem dX5_isCell_10 : decode cX5_isCell 10 = .ok (.iconst 1, 1) := by decide +kernel
theorem dX5_isCell_11 : decode cX5_isCell 11 = .ok (.goto 4, 3) := by decide +kernel
theorem dX5_isCell_14 : decode cX5_isCell 14 = .ok (.iconst 0, 1) := by decide +kernel
theorem dX5_isCell_15 : decode cX5_isCell 15 = .ok (.ireturn, 1) := by decide +kernel
theorem dX5_isPile_0 : decode cX5_isPile 0 = .ok (.iload_n 0, 1) := by decide +kernel
theorem dX5_isPile_1 : decode cX5_isPile 1 = .ok (.invokestatic 155, 3) := by decide +kernel
theorem dX5_isPile_4 : decode cX5_isPile 4 = .ok (.ifCond .eq 11, 3) := by decide +kernel
theorem dX5_isPile_7 : decode cX5_isPile 7 = .ok (.iload_n 0, 1) := by decide +kernel
theorem dX5_isPile_8 : decode cX5_isPile 8 = .ok (.ifCond .eq 7, 3) := by decide +kernel
theorem dX5_isPile_11 : decode cX5_isPile 11 = .ok (.iconst 1, 1) := by decide +kernel
theorem dX5_isPile_12 : decode cX5_isPile 12 = .ok (.goto 4, 3) := by decide +kernel
theorem dX5_isPile_15 : decode cX5_isPile 15 = .ok (.iconst 0, 1) := by decide +kernel
theorem dX5_isPile_16 : decode cX5_isPile 16 = .ok (.ireturn, 1) := by decide +kernel
theorem dX5_isAhead_0 : decode cX5_isAhead 0 = .ok (.iload_n 0, 1) := by decide +kernel
theorem dX5_isAhead_1 : decode cX5_isAhead 1 = .ok (.iconst 1, 1) := by decide +kernel
theorem dX5_isAhead_2 : decode cX5_isAhead 2 = .ok (.if_icmp .lt 12, 3) := by decide +kernel
theorem dX5_isAhead_5 : decode cX5_isAhead 5 = .ok (.iload_n 0, 1) := by decide +kernel
theorem dX5_isAhead_6 : decode cX5_isAhead 6 = .ok (.iconst 3, 1) := by decide +kernel
theorem dX5_isAhead_7 : decode cX5_isAhead 7 = .ok (.if_icmp .gt 7, 3) := by decide +kernel
theorem dX5_isAhead_10 : decode cX5_isAhead 10 = .ok (.iconst 1, 1) := by decide +kernel
theorem dX5_isAhead_11 : decode cX5_isAhead 11 = .ok (.goto 4, 3) := by decide +kernel
theorem dX5_isAhead_14 : decode cX5_isAhead 14 = .ok (.iconst 0, 1) := by decide +kernel
theorem dX5_isAhead_15 : decode cX5_isAhead 15 = .ok (.ireturn, 1) := by decide +kernel
theorem dX5_isSheet_0 : decode cX5_isSheet 0 = .ok (.iload_n 0, 1) := by decide +kernel
theorem dX5_isSheet_1 : decode cX5_isSheet 1 = .ok (.ifCond .lt 12, 3) := by decide +kernel
theorem dX5_isSheet_4 : decode cX5_isSheet 4 = .ok (.iload_n 0, 1) := by decide +kernel
theorem dX5_isSheet_5 : decode cX5_isSheet 5 = .ok (.iconst 4, 1) := by decide +kernel
theorem dX5_isSheet_6 : decode cX5_isSheet 6 = .ok (.if_icmp .ge 7, 3) := by decide +kernel
theorem dX5_isSheet_9 : decode cX5_isSheet 9 = .ok (.iconst 1, 1) := by decide +kernel
theorem dX5_isSheet_10 : decode cX5_isSheet 10 = .ok (.goto 4, 3) := by decide +kernel
theorem dX5_isSheet_13 : decode cX5_isSheet 13 = .ok (.iconst 0, 1) := by decide +kernel
theorem dX5_isSheet_14 : decode cX5_isSheet 14 = .ok (.ireturn, 1) := by decide +kernel
theorem dX5_lackOf_0 : decode cX5_lackOf 0 = .ok (.iload_n 1, 1) := by decide +kernel
theorem dX5_lackOf_1 : decode cX5_lackOf 1 = .ok (.invokestatic 271, 3) := by decide +kernel
theorem dX5_lackOf_4 : decode cX5_lackOf 4 = .ok (.ifCond .ne 5, 3) := by decide +kernel
theorem dX5_lackOf_7 : decode cX5_lackOf 7 = .ok (.iconst 1, 1) := by decide +kernel
theorem dX5_lackOf_8 : decode cX5_lackOf 8 = .ok (.ireturn, 1) := by decide +kernel
theorem dX5_lackOf_9 : decode cX5_lackOf 9 = .ok (.aload_n 0, 1) := by decide +kernel
theorem dX5_lackOf_10 : decode cX5_lackOf 10 = .ok (.getfield 52, 3) := by decide +kernel
theorem dX5_lackOf_13 : decode cX5_lackOf 13 = .ok (.iload_n 1, 1) := by decide +kernel
theorem dX5_lackOf_14 : decode cX5_lackOf 14 = .ok (.iaload, 1) := by decide +kernel
theorem dX5_lackOf_15 : decode cX5_lackOf 15 = .ok (.ifCond .ne 7, 3) := by decide +kernel
theorem dX5_lackOf_18 : decode cX5_lackOf 18 = .ok (.iconst 2, 1) := by decide +kernel
theorem dX5_lackOf_19 : decode cX5_lackOf 19 = .ok (.goto 4, 3) := by decide +kernel
theorem dX5_lackOf_22 : decode cX5_lackOf 22 = .ok (.iconst 0, 1) := by decide +kernel
theorem dX5_lackOf_23 : decode cX5_lackOf 23 = .ok (.ireturn, 1) := by decide +kernel
theorem dX5_lowestBits_0 : decode cX5_lowestBits 0 = .ok (.iload_n 1, 1) := by decide +kernel
theorem dX5_lowestBits_1 : decode cX5_lowestBits 1 = .ok (.bipush 8, 2) := by decide +kernel
theorem dX5_lowestBits_3 : decode cX5_lowestBits 3 = .ok (.if_icmp .ne 6, 3) := by decide +kernel
theorem dX5_lowestBits_6 : decode cX5_lowestBits 6 = .ok (.iload_n 0, 1) := by decide +kernel
theorem dX5_lowestBits_7 : decode cX5_lowestBits 7 = .ok (.i2b, 1) := by decide +kernel
theorem dX5_lowestBits_8 : decode cX5_lowestBits 8 = .ok (.ireturn, 1) := by decide +kernel
theorem dX5_lowestBits_9 : decode cX5_lowestBits 9 = .ok (.iload_n 1, 1) := by decide +kernel
theorem dX5_lowestBits_10 : decode cX5_lowestBits 10 = .ok (.bipush 16, 2) := by decide +kernel
theorem dX5_lowestBits_12 : decode cX5_lowestBits 12 = .ok (.if_icmp .ne 8, 3) := by decide +kernel
theorem dX5_lowestBits_15 : decode cX5_lowestBits 15 = .ok (.iload_n 0, 1) := by decide +kernel
theorem dX5_lowestBits_16 : decode cX5_lowestBits 16 = .ok (.i2s, 1) := by decide +kernel
theorem dX5_lowestBits_17 : decode cX5_lowestBits 17 = .ok (.goto 4, 3) := by decide +kernel
theorem dX5_lowestBits_20 : decode cX5_lowestBits 20 = .ok (.iload_n 0, 1) := by decide +kernel
theorem dX5_lowestBits_21 : decode cX5_lowestBits 21 = .ok (.ireturn, 1) := by decide +kernel
theorem dX5_mostOf_0 : decode cX5_mostOf 0 = .ok (.iload_n 0, 1) := by decide +kernel
theorem dX5_mostOf_1 : decode cX5_mostOf 1 = .ok (.ifCond .ne 6, 3) := by decide +kernel
theorem dX5_mostOf_4 : decode cX5_mostOf 4 = .ok (.bipush 6, 2) := by decide +kernel
theorem dX5_mostOf_6 : decode cX5_mostOf 6 = .ok (.ireturn, 1) := by decide +kernel
theorem dX5_mostOf_7 : decode cX5_mostOf 7 = .ok (.iload_n 0, 1) := by decide +kernel
theorem dX5_mostOf_8 : decode cX5_mostOf 8 = .ok (.iconst 1, 1) := by decide +kernel
theorem dX5_mostOf_9 : decode cX5_mostOf 9 = .ok (.if_icmp .ne 8, 3) := by decide +kernel
theorem dX5_mostOf_12 : decode cX5_mostOf 12 = .ok (.bipush 9, 2) := by decide +kernel
theorem dX5_mostOf_14 : decode cX5_mostOf 14 = .ok (.goto 5, 3) := by decide +kernel
theorem dX5_mostOf_17 : decode cX5_mostOf 17 = .ok (.bipush 99, 2) := by decide +kernel
theorem dX5_mostOf_19 : decode cX5_mostOf 19 = .ok (.ireturn, 1) := by decide +kernel
theorem dX5_within_0 : decode cX5_within 0 = .ok (.iload_n 1, 1) := by decide +kernel
theorem dX5_within_1 : decode cX5_within 1 = .ok (.iload_n 2, 1) := by decide +kernel
theorem dX5_within_2 : decode cX5_within 2 = .ok (.iload_n 0, 1) := by decide +kernel
theorem dX5_within_3 : decode cX5_within 3 = .ok (.invokestatic 287, 3) := by decide +kernel
theorem dX5_within_6 : decode cX5_within 6 = .ok (.invokestatic 253, 3) := by decide +kernel
theorem dX5_within_9 : decode cX5_within 9 = .ok (.ireturn, 1) := by decide +kernel
theorem dX5_kindAbove_0 : decode cX5_kindAbove 0 = .ok (.iload_n 0, 1) := by decide +kernel
theorem dX5_kindAbove_1 : decode cX5_kindAbove 1 = .ok (.ifCond .lt 19, 3) := by decide +kernel
theorem dX5_kindAbove_4 : decode cX5_kindAbove 4 = .ok (.iload_n 0, 1) := by decide +kernel
theorem dX5_kindAbove_5 : decode cX5_kindAbove 5 = .ok (.getstatic 315, 3) := by decide +kernel
theorem dX5_kindAbove_8 : decode cX5_kindAbove 8 = .ok (.arraylength, 1) := by decide +kernel
theorem dX5_kindAbove_9 : decode cX5_kindAbove 9 = .ok (.if_icmp .ge 11, 3) := by decide +kernel
theorem dX5_kindAbove_12 : decode cX5_kindAbove 12 = .ok (.getstatic 315, 3) := by decide +kernel
theorem dX5_kindAbove_15 : decode cX5_kindAbove 15 = .ok (.iload_n 0, 1) := by decide +kernel
theorem dX5_kindAbove_16 : decode cX5_kindAbove 16 = .ok (.iaload, 1) := by decide +kernel
theorem dX5_kindAbove_17 : decode cX5_kindAbove 17 = .ok (.goto 4, 3) := by decide +kernel
theorem dX5_kindAbove_20 : decode cX5_kindAbove 20 = .ok (.iconst (-1), 1) := by decide +kernel
theorem dX5_kindAbove_21 : decode cX5_kindAbove 21 = .ok (.ireturn, 1) := by decide +kernel
theorem dX5_isUnder_0 : decode cX5_isUnder 0 = .ok (.iload_n 0, 1) := by decide +kernel
theorem dX5_isUnder_1 : decode cX5_isUnder 1 = .ok (.istore_n 2, 1) := by decide +kernel
theorem dX5_isUnder_2 : decode cX5_isUnder 2 = .ok (.iconst 0, 1) := by decide +kernel
theorem dX5_isUnder_3 : decode cX5_isUnder 3 = .ok (.istore_n 3, 1) := by decide +kernel
theorem dX5_isUnder_4 : decode cX5_isUnder 4 = .ok (.iload_n 3, 1) := by decide +kernel
theorem dX5_isUnder_5 : decode cX5_isUnder 5 = .ok (.bipush 7, 2) := by decide +kernel
theorem dX5_isUnder_7 : decode cX5_isUnder 7 = .ok (.if_icmp .ge 25, 3) := by decide +kernel
theorem dX5_isUnder_10 : decode cX5_isUnder 10 = .ok (.iload_n 2, 1) := by decide +kernel
theorem dX5_isUnder_11 : decode cX5_isUnder 11 = .ok (.ifCond .lt 21, 3) := by decide +kernel
theorem dX5_isUnder_14 : decode cX5_isUnder 14 = .ok (.iload_n 2, 1) := by decide +kernel
theorem dX5_isUnder_15 : decode cX5_isUnder 15 = .ok (.iload_n 1, 1) := by decide +kernel
theorem dX5_isUnder_16 : decode cX5_isUnder 16 = .ok (.if_icmp .ne 5, 3) := by decide +kernel
theorem dX5_isUnder_19 : decode cX5_isUnder 19 = .ok (.iconst 1, 1) := by decide +kernel
theorem dX5_isUnder_20 : decode cX5_isUnder 20 = .ok (.ireturn, 1) := by decide +kernel
theorem dX5_isUnder_21 : decode cX5_isUnder 21 = .ok (.iload_n 2, 1) := by decide +kernel
theorem dX5_isUnder_22 : decode cX5_isUnder 22 = .ok (.invokestatic 318, 3) := by decide +kernel
theorem dX5_isUnder_25 : decode cX5_isUnder 25 = .ok (.istore_n 2, 1) := by decide +kernel
theorem dX5_isUnder_26 : decode cX5_isUnder 26 = .ok (.iinc 3 1, 3) := by decide +kernel
theorem dX5_isUnder_29 : decode cX5_isUnder 29 = .ok (.goto (-25), 3) := by decide +kernel
theorem dX5_isUnder_32 : decode cX5_isUnder 32 = .ok (.iconst 0, 1) := by decide +kernel
theorem dX5_isUnder_33 : decode cX5_isUnder 33 = .ok (.ireturn, 1) := by decide +kernel
theorem dX5_pullsIn_0 : decode cX5_pullsIn 0 = .ok (.iconst 0, 1) := by decide +kernel
theorem dX5_pullsIn_1 : decode cX5_pullsIn 1 = .ok (.istore_n 1, 1) := by decide +kernel
theorem dX5_pullsIn_2 : decode cX5_pullsIn 2 = .ok (.iload_n 1, 1) := by decide +kernel
theorem dX5_pullsIn_3 : decode cX5_pullsIn 3 = .ok (.aload_n 0, 1) := by decide +kernel
theorem dX5_pullsIn_4 : decode cX5_pullsIn 4 = .ok (.getfield 168, 3) := by decide +kernel
theorem dX5_pullsIn_7 : decode cX5_pullsIn 7 = .ok (.if_icmp .ge 20, 3) := by decide +kernel
theorem dX5_pullsIn_10 : decode cX5_pullsIn 10 = .ok (.aload_n 0, 1) := by decide +kernel
theorem dX5_pullsIn_11 : decode cX5_pullsIn 11 = .ok (.iload_n 1, 1) := by decide +kernel
theorem dX5_pullsIn_12 : decode cX5_pullsIn 12 = .ok (.invokevirtual 210, 3) := by decide +kernel
theorem dX5_pullsIn_15 : decode cX5_pullsIn 15 = .ok (.invokestatic 83, 3) := by decide +kernel
theorem dX5_pullsIn_18 : decode cX5_pullsIn 18 = .ok (.ifCond .eq 9, 3) := by decide +kernel
theorem dX5_pullsIn_21 : decode cX5_pullsIn 21 = .ok (.iinc 1 1, 3) := by decide +kernel
theorem dX5_pullsIn_24 : decode cX5_pullsIn 24 = .ok (.goto (-22), 3) := by decide +kernel
theorem dX5_pullsIn_27 : decode cX5_pullsIn 27 = .ok (.iload_n 1, 1) := by decide +kernel
theorem dX5_pullsIn_28 : decode cX5_pullsIn 28 = .ok (.ireturn, 1) := by decide +kernel
theorem dX5_checked_0 : decode cX5_checked 0 = .ok (.aload_n 0, 1) := by decide +kernel
theorem dX5_checked_1 : decode cX5_checked 1 = .ok (.getfield 80, 3) := by decide +kernel
theorem dX5_checked_4 : decode cX5_checked 4 = .ok (.aload_n 0, 1) := by decide +kernel
theorem dX5_checked_5 : decode cX5_checked 5 = .ok (.getfield 67, 3) := by decide +kernel
theorem dX5_checked_8 : decode cX5_checked 8 = .ok (.invokevirtual 223, 3) := by decide +kernel
theorem dX5_checked_11 : decode cX5_checked 11 = .ok (.iconst 0, 1) := by decide +kernel
theorem dX5_checked_12 : decode cX5_checked 12 = .ok (.istore_n 2, 1) := by decide +kernel
theorem dX5_checked_13 : decode cX5_checked 13 = .ok (.iload_n 2, 1) := by decide +kernel
theorem dX5_checked_14 : decode cX5_checked 14 = .ok (.aload_n 0, 1) := by decide +kernel
theorem dX5_checked_15 : decode cX5_checked 15 = .ok (.getfield 21, 3) := by decide +kernel
theorem dX5_checked_18 : decode cX5_checked 18 = .ok (.getfield 168, 3) := by decide +kernel
theorem dX5_checked_21 : decode cX5_checked 21 = .ok (.if_icmp .ge 32, 3) := by decide +kernel
theorem dX5_checked_24 : decode cX5_checked 24 = .ok (.aload_n 0, 1) := by decide +kernel
theorem dX5_checked_25 : decode cX5_checked 25 = .ok (.getfield 80, 3) := by decide +kernel
theorem dX5_checked_28 : decode cX5_checked 28 = .ok (.iload_n 1, 1) := by decide +kernel
theorem dX5_checked_29 : decode cX5_checked 29 = .ok (.invokevirtual 197, 3) := by decide +kernel
theorem dX5_checked_32 : decode cX5_checked 32 = .ok (.aload_n 0, 1) := by decide +kernel
theorem dX5_checked_33 : decode cX5_checked 33 = .ok (.getfield 21, 3) := by decide +kernel
theorem dX5_checked_36 : decode cX5_checked 36 = .ok (.iload_n 2, 1) := by decide +kernel
theorem dX5_checked_37 : decode cX5_checked 37 = .ok (.invokevirtual 210, 3) := by decide +kernel
theorem dX5_checked_40 : decode cX5_checked 40 = .ok (.if_icmp .eq 7, 3) := by decide +kernel
theorem dX5_checked_43 : decode cX5_checked 43 = .ok (.iconst 1, 1) := by decide +kernel
theorem dX5_checked_44 : decode cX5_checked 44 = .ok (.iload_n 2, 1) := by decide +kernel
theorem dX5_checked_45 : decode cX5_checked 45 = .ok (.iadd, 1) := by decide +kernel
theorem dX5_checked_46 : decode cX5_checked 46 = .ok (.ireturn, 1) := by decide +kernel
theorem dX5_checked_47 : decode cX5_checked 47 = .ok (.iinc 2 1, 3) := by decide +kernel
theorem dX5_checked_50 : decode cX5_checked 50 = .ok (.goto (-37), 3) := by decide +kernel
theorem dX5_checked_53 : decode cX5_checked 53 = .ok (.iconst 0, 1) := by decide +kernel
theorem dX5_checked_54 : decode cX5_checked 54 = .ok (.ireturn, 1) := by decide +kernel
theorem dX5_leadsToWin_0 : decode cX5_leadsToWin 0 = .ok (.iload_n 3, 1) := by decide +kernel
theorem dX5_leadsToWin_1 : decode cX5_leadsToWin 1 = .ok (.ifCond .lt 16, 3) := by decide +kernel
theorem dX5_leadsToWin_4 : decode cX5_leadsToWin 4 = .ok (.iload_n 3, 1) := by decide +kernel
theorem dX5_leadsToWin_5 : decode cX5_leadsToWin 5 = .ok (.iload 4, 2) := by decide +kernel
theorem dX5_leadsToWin_7 : decode cX5_leadsToWin 7 = .ok (.if_icmp .ge 10, 3) := by decide +kernel
theorem dX5_leadsToWin_10 : decode cX5_leadsToWin 10 = .ok (.iload 4, 2) := by decide +kernel
theorem dX5_leadsToWin_12 : decode cX5_leadsToWin 12 = .ok (.aload_n 2, 1) := by decide +kernel
theorem dX5_leadsToWin_13 : decode cX5_leadsToWin 13 = .ok (.arraylength, 1) := by decide +kernel
theorem dX5_leadsToWin_14 : decode cX5_leadsToWin 14 = .ok (.if_icmp .le 5, 3) := by decide +kernel
theorem dX5_leadsToWin_17 : decode cX5_leadsToWin 17 = .ok (.iconst 0, 1) := by decide +kernel
theorem dX5_leadsToWin_18 : decode cX5_leadsToWin 18 = .ok (.ireturn, 1) := by decide +kernel
theorem dX5_leadsToWin_19 : decode cX5_leadsToWin 19 = .ok (.iload_n 3, 1) := by decide +kernel
theorem dX5_leadsToWin_20 : decode cX5_leadsToWin 20 = .ok (.iload 4, 2) := by decide +kernel
theorem dX5_leadsToWin_22 : decode cX5_leadsToWin 22 = .ok (.iconst 1, 1) := by decide +kernel
theorem dX5_leadsToWin_23 : decode cX5_leadsToWin 23 = .ok (.isub, 1) := by decide +kernel
theorem dX5_leadsToWin_24 : decode cX5_leadsToWin 24 = .ok (.if_icmp .ne 45, 3) := by decide +kernel
theorem dX5_leadsToWin_27 : decode cX5_leadsToWin 27 = .ok (.aload_n 2, 1) := by decide +kernel
theorem dX5_leadsToWin_28 : decode cX5_leadsToWin 28 = .ok (.iload_n 3, 1) := by decide +kernel
theorem dX5_leadsToWin_29 : decode cX5_leadsToWin 29 = .ok (.aload_n 0, 1) := by decide +kernel
theorem dX5_leadsToWin_30 : decode cX5_leadsToWin 30 = .ok (.iload_n 1, 1) := by decide +kernel
theorem dX5_leadsToWin_31 : decode cX5_leadsToWin 31 = .ok (.invokevirtual 114, 3) := by decide +kernel
theorem dX5_leadsToWin_34 : decode cX5_leadsToWin 34 = .ok (.iastore, 1) := by decide +kernel
theorem dX5_leadsToWin_35 : decode cX5_leadsToWin 35 = .ok (.aload_n 2, 1) := by decide +kernel
theorem dX5_leadsToWin_36 : decode cX5_leadsToWin 36 = .ok (.iload_n 3, 1) := by decide +kernel
theorem dX5_leadsToWin_37 : decode cX5_leadsToWin 37 = .ok (.iaload, 1) := by decide +kernel
theorem dX5_leadsToWin_38 : decode cX5_leadsToWin 38 = .ok (.ifCond .lt 29, 3) := by decide +kernel
theorem dX5_leadsToWin_41 : decode cX5_leadsToWin 41 = .ok (.aload_n 0, 1) := by decide +kernel
theorem dX5_leadsToWin_42 : decode cX5_leadsToWin 42 = .ok (.aload_n 2, 1) := by decide +kernel
theorem dX5_leadsToWin_43 : decode cX5_leadsToWin 43 = .ok (.iload_n 3, 1) := by decide +kernel
theorem dX5_leadsToWin_44 : decode cX5_leadsToWin 44 = .ok (.iaload, 1) := by decide +kernel
theorem dX5_leadsToWin_45 : decode cX5_leadsToWin 45 = .ok (.invokevirtual 158, 3) := by decide +kernel
theorem dX5_leadsToWin_48 : decode cX5_leadsToWin 48 = .ok (.iload_n 1, 1) := by decide +kernel
theorem dX5_leadsToWin_49 : decode cX5_leadsToWin 49 = .ok (.if_icmp .ne 18, 3) := by decide +kernel
theorem dX5_leadsToWin_52 : decode cX5_leadsToWin 52 = .ok (.aload_n 0, 1) := by decide +kernel
theorem dX5_leadsToWin_53 : decode cX5_leadsToWin 53 = .ok (.aload_n 2, 1) := by decide +kernel
theorem dX5_leadsToWin_54 : decode cX5_leadsToWin 54 = .ok (.iload_n 3, 1) := by decide +kernel
theorem dX5_leadsToWin_55 : decode cX5_leadsToWin 55 = .ok (.iaload, 1) := by decide +kernel
theorem dX5_leadsToWin_56 : decode cX5_leadsToWin 56 = .ok (.invokevirtual 165, 3) := by decide +kernel
theorem dX5_leadsToWin_59 : decode cX5_leadsToWin 59 = .ok (.iconst 2, 1) := by decide +kernel
theorem dX5_leadsToWin_60 : decode cX5_leadsToWin 60 = .ok (.if_icmp .ne 7, 3) := by decide +kernel
theorem dX5_leadsToWin_63 : decode cX5_leadsToWin 63 = .ok (.iconst 1, 1) := by decide +kernel
theorem dX5_leadsToWin_64 : decode cX5_leadsToWin 64 = .ok (.goto 4, 3) := by decide +kernel
theorem dX5_leadsToWin_67 : decode cX5_leadsToWin 67 = .ok (.iconst 0, 1) := by decide +kernel
theorem dX5_leadsToWin_68 : decode cX5_leadsToWin 68 = .ok (.ireturn, 1) := by decide +kernel
theorem dX5_leadsToWin_69 : decode cX5_leadsToWin 69 = .ok (.iconst 1, 1) := by decide +kernel
theorem dX5_leadsToWin_70 : decode cX5_leadsToWin 70 = .ok (.istore 5, 2) := by decide +kernel
theorem dX5_leadsToWin_72 : decode cX5_leadsToWin 72 = .ok (.iload 5, 2) := by decide +kernel
theorem dX5_leadsToWin_74 : decode cX5_leadsToWin 74 = .ok (.bipush 16, 2) := by decide +kernel
theorem dX5_leadsToWin_76 : decode cX5_leadsToWin 76 = .ok (.if_icmp .ge 78, 3) := by decide +kernel
theorem dX5_leadsToWin_79 : decode cX5_leadsToWin 79 = .ok (.aload_n 0, 1) := by decide +kernel
theorem dX5_leadsToWin_80 : decode cX5_leadsToWin 80 = .ok (.iload 5, 2) := by decide +kernel
theorem dX5_leadsToWin_82 : decode cX5_leadsToWin 82 = .ok (.invokestatic 230, 3) := by decide +kernel
theorem dX5_leadsToWin_85 : decode cX5_leadsToWin 85 = .ok (.ifCond .eq 6, 3) := by decide +kernel
theorem dX5_leadsToWin_88 : decode cX5_leadsToWin 88 = .ok (.goto 60, 3) := by decide +kernel
theorem dX5_leadsToWin_91 : decode cX5_leadsToWin 91 = .ok (.aload_n 0, 1) := by decide +kernel
theorem dX5_leadsToWin_92 : decode cX5_leadsToWin 92 = .ok (.getfield 152, 3) := by decide +kernel
theorem dX5_leadsToWin_95 : decode cX5_leadsToWin 95 = .ok (.istore 6, 2) := by decide +kernel
theorem dX5_leadsToWin_97 : decode cX5_leadsToWin 97 = .ok (.aload_n 0, 1) := by decide +kernel
theorem dX5_leadsToWin_98 : decode cX5_leadsToWin 98 = .ok (.iload 5, 2) := by decide +kernel
theorem dX5_leadsToWin_100 : decode cX5_leadsToWin 100 = .ok (.invokevirtual 197, 3) := by decide +kernel
theorem dX5_leadsToWin_103 : decode cX5_leadsToWin 103 = .ok (.istore 7, 2) := by decide +kernel
theorem dX5_leadsToWin_105 : decode cX5_leadsToWin 105 = .ok (.aload_n 0, 1) := by decide +kernel
theorem dX5_leadsToWin_106 : decode cX5_leadsToWin 106 = .ok (.getfield 200, 3) := by decide +kernel
theorem dX5_leadsToWin_109 : decode cX5_leadsToWin 109 = .ok (.istore 8, 2) := by decide +kernel
theorem dX5_leadsToWin_111 : decode cX5_leadsToWin 111 = .ok (.aload_n 0, 1) := by decide +kernel
theorem dX5_leadsToWin_112 : decode cX5_leadsToWin 112 = .ok (.iload_n 1, 1) := by decide +kernel
theorem dX5_leadsToWin_113 : decode cX5_leadsToWin 113 = .ok (.aload_n 2, 1) := by decide +kernel
theorem dX5_leadsToWin_114 : decode cX5_leadsToWin 114 = .ok (.iload_n 3, 1) := by decide +kernel
theorem dX5_leadsToWin_115 : decode cX5_leadsToWin 115 = .ok (.iconst 1, 1) := by decide +kernel
theorem dX5_leadsToWin_116 : decode cX5_leadsToWin 116 = .ok (.iadd, 1) := by decide +kernel
theorem dX5_leadsToWin_117 : decode cX5_leadsToWin 117 = .ok (.iload 4, 2) := by decide +kernel
theorem dX5_leadsToWin_119 : decode cX5_leadsToWin 119 = .ok (.invokestatic 226, 3) := by decide +kernel
theorem dX5_leadsToWin_122 : decode cX5_leadsToWin 122 = .ok (.istore 9, 2) := by decide +kernel
theorem dX5_leadsToWin_124 : decode cX5_leadsToWin 124 = .ok (.aload_n 0, 1) := by decide +kernel
theorem dX5_leadsToWin_125 : decode cX5_leadsToWin 125 = .ok (.iload 5, 2) := by decide +kernel
theorem dX5_leadsToWin_127 : decode cX5_leadsToWin 127 = .ok (.iload 7, 2) := by decide +kernel
theorem dX5_leadsToWin_129 : decode cX5_leadsToWin 129 = .ok (.iload 8, 2) := by decide +kernel
theorem dX5_leadsToWin_131 : decode cX5_leadsToWin 131 = .ok (.iload 6, 2) := by decide +kernel
theorem dX5_leadsToWin_133 : decode cX5_leadsToWin 133 = .ok (.invokevirtual 321, 3) := by decide +kernel
theorem dX5_leadsToWin_136 : decode cX5_leadsToWin 136 = .ok (.iload 9, 2) := by decide +kernel
theorem dX5_leadsToWin_138 : decode cX5_leadsToWin 138 = .ok (.ifCond .eq 10, 3) := by decide +kernel
theorem dX5_leadsToWin_141 : decode cX5_leadsToWin 141 = .ok (.aload_n 2, 1) := by decide +kernel
theorem dX5_leadsToWin_142 : decode cX5_leadsToWin 142 = .ok (.iload_n 3, 1) := by decide +kernel
theorem dX5_leadsToWin_143 : decode cX5_leadsToWin 143 = .ok (.iload 5, 2) := by decide +kernel
theorem dX5_leadsToWin_145 : decode cX5_leadsToWin 145 = .ok (.iastore, 1) := by decide +kernel
theorem dX5_leadsToWin_146 : decode cX5_leadsToWin 146 = .ok (.iconst 1, 1) := by decide +kernel
theorem dX5_leadsToWin_147 : decode cX5_leadsToWin 147 = .ok (.ireturn, 1) := by decide +kernel
theorem dX5_leadsToWin_148 : decode cX5_leadsToWin 148 = .ok (.iinc 5 1, 3) := by decide +kernel
theorem dX5_leadsToWin_151 : decode cX5_leadsToWin 151 = .ok (.goto (-79), 3) := by decide +kernel
theorem dX5_leadsToWin_154 : decode cX5_leadsToWin 154 = .ok (.iconst 0, 1) := by decide +kernel
theorem dX5_leadsToWin_155 : decode cX5_leadsToWin 155 = .ok (.ireturn, 1) := by decide +kernel
theorem dX5_isLikeOneAhead_0 : decode cX5_isLikeOneAhead 0 = .ok (.aload_n 0, 1) := by decide +kernel
theorem dX5_isLikeOneAhead_1 : decode cX5_isLikeOneAhead 1 = .ok (.iload_n 1, 1) := by decide +kernel
theorem dX5_isLikeOneAhead_2 : decode cX5_isLikeOneAhead 2 = .ok (.invokevirtual 95, 3) := by decide +kernel
theorem dX5_isLikeOneAhead_5 : decode cX5_isLikeOneAhead 5 = .ok (.ifCond .le 5, 3) := by decide +kernel
theorem dX5_isLikeOneAhead_8 : decode cX5_isLikeOneAhead 8 = .ok (.iconst 0, 1) := by decide +kernel
theorem dX5_isLikeOneAhead_9 : decode cX5_isLikeOneAhead 9 = .ok (.ireturn, 1) := by decide +kernel
theorem dX5_isLikeOneAhead_10 : decode cX5_isLikeOneAhead 10 = .ok (.iconst 1, 1) := by decide +kernel
theorem dX5_isLikeOneAhead_11 : decode cX5_isLikeOneAhead 11 = .ok (.istore_n 2, 1) := by decide +kernel
theorem dX5_isLikeOneAhead_12 : decode cX5_isLikeOneAhead 12 = .ok (.iload_n 2, 1) := by decide +kernel
theorem dX5_isLikeOneAhead_13 : decode cX5_isLikeOneAhead 13 = .ok (.iload_n 1, 1) := by decide +kernel
theorem dX5_isLikeOneAhead_14 : decode cX5_isLikeOneAhead 14 = .ok (.if_icmp .ge 19, 3) := by decide +kernel
theorem dX5_isLikeOneAhead_17 : decode cX5_isLikeOneAhead 17 = .ok (.aload_n 0, 1) := by decide +kernel
theorem dX5_isLikeOneAhead_18 : decode cX5_isLikeOneAhead 18 = .ok (.iload_n 2, 1) := by decide +kernel
theorem dX5_isLikeOneAhead_19 : decode cX5_isLikeOneAhead 19 = .ok (.invokevirtual 95, 3) := by decide +kernel
theorem dX5_isLikeOneAhead_22 : decode cX5_isLikeOneAhead 22 = .ok (.ifCond .ne 5, 3) := by decide +kernel
theorem dX5_isLikeOneAhead_25 : decode cX5_isLikeOneAhead 25 = .ok (.iconst 1, 1) := by decide +kernel
theorem dX5_isLikeOneAhead_26 : decode cX5_isLikeOneAhead 26 = .ok (.ireturn, 1) := by decide +kernel
theorem dX5_isLikeOneAhead_27 : decode cX5_isLikeOneAhead 27 = .ok (.iinc 2 1, 3) := by decide +kernel
theorem dX5_isLikeOneAhead_30 : decode cX5_isLikeOneAhead 30 = .ok (.goto (-18), 3) := by decide +kernel
theorem dX5_isLikeOneAhead_33 : decode cX5_isLikeOneAhead 33 = .ok (.iconst 0, 1) := by decide +kernel
theorem dX5_isLikeOneAhead_34 : decode cX5_isLikeOneAhead 34 = .ok (.ireturn, 1) := by decide +kernel
theorem dX5_gainAt_0 : decode cX5_gainAt 0 = .ok (.aload_n 0, 1) := by decide +kernel
theorem dX5_gainAt_1 : decode cX5_gainAt 1 = .ok (.iload_n 1, 1) := by decide +kernel
theorem dX5_gainAt_2 : decode cX5_gainAt 2 = .ok (.invokevirtual 165, 3) := by decide +kernel
theorem dX5_gainAt_5 : decode cX5_gainAt 5 = .ok (.iconst 2, 1) := by decide +kernel
theorem dX5_gainAt_6 : decode cX5_gainAt 6 = .ok (.if_icmp .ne 15, 3) := by decide +kernel
theorem dX5_gainAt_9 : decode cX5_gainAt 9 = .ok (.aload_n 0, 1) := by decide +kernel
theorem dX5_gainAt_10 : decode cX5_gainAt 10 = .ok (.aload_n 0, 1) := by decide +kernel
theorem dX5_gainAt_11 : decode cX5_gainAt 11 = .ok (.iload_n 1, 1) := by decide +kernel
theorem dX5_gainAt_12 : decode cX5_gainAt 12 = .ok (.invokevirtual 158, 3) := by decide +kernel
theorem dX5_gainAt_15 : decode cX5_gainAt 15 = .ok (.invokevirtual 126, 3) := by decide +kernel
theorem dX5_gainAt_18 : decode cX5_gainAt 18 = .ok (.goto 4, 3) := by decide +kernel
theorem dX5_gainAt_21 : decode cX5_gainAt 21 = .ok (.iconst 0, 1) := by decide +kernel
theorem dX5_gainAt_22 : decode cX5_gainAt 22 = .ok (.istore_n 3, 1) := by decide +kernel
theorem dX5_gainAt_23 : decode cX5_gainAt 23 = .ok (.iload_n 2, 1) := by decide +kernel
theorem dX5_gainAt_24 : decode cX5_gainAt 24 = .ok (.iconst 1, 1) := by decide +kernel
theorem dX5_gainAt_25 : decode cX5_gainAt 25 = .ok (.if_icmp .gt 5, 3) := by decide +kernel
theorem dX5_gainAt_28 : decode cX5_gainAt 28 = .ok (.iload_n 3, 1) := by decide +kernel
theorem dX5_gainAt_29 : decode cX5_gainAt 29 = .ok (.ireturn, 1) := by decide +kernel
theorem dX5_gainAt_30 : decode cX5_gainAt 30 = .ok (.aload_n 0, 1) := by decide +kernel
theorem dX5_gainAt_31 : decode cX5_gainAt 31 = .ok (.getfield 152, 3) := by decide +kernel
theorem dX5_gainAt_34 : decode cX5_gainAt 34 = .ok (.istore 4, 2) := by decide +kernel
theorem dX5_gainAt_36 : decode cX5_gainAt 36 = .ok (.aload_n 0, 1) := by decide +kernel
theorem dX5_gainAt_37 : decode cX5_gainAt 37 = .ok (.iload_n 1, 1) := by decide +kernel
theorem dX5_gainAt_38 : decode cX5_gainAt 38 = .ok (.invokevirtual 197, 3) := by decide +kernel
theorem dX5_gainAt_41 : decode cX5_gainAt 41 = .ok (.istore 5, 2) := by decide +kernel
theorem dX5_gainAt_43 : decode cX5_gainAt 43 = .ok (.aload_n 0, 1) := by decide +kernel
theorem dX5_gainAt_44 : decode cX5_gainAt 44 = .ok (.getfield 200, 3) := by decide +kernel
theorem dX5_gainAt_47 : decode cX5_gainAt 47 = .ok (.istore 6, 2) := by decide +kernel
theorem dX5_gainAt_49 : decode cX5_gainAt 49 = .ok (.iload_n 3, 1) := by decide +kernel
theorem dX5_gainAt_50 : decode cX5_gainAt 50 = .ok (.aload_n 0, 1) := by decide +kernel
theorem dX5_gainAt_51 : decode cX5_gainAt 51 = .ok (.iload_n 2, 1) := by decide +kernel
theorem dX5_gainAt_52 : decode cX5_gainAt 52 = .ok (.iconst 1, 1) := by decide +kernel
theorem dX5_gainAt_53 : decode cX5_gainAt 53 = .ok (.isub, 1) := by decide +kernel
theorem dX5_gainAt_54 : decode cX5_gainAt 54 = .ok (.invokestatic 325, 3) := by decide +kernel
theorem dX5_gainAt_57 : decode cX5_gainAt 57 = .ok (.isub, 1) := by decide +kernel
theorem dX5_gainAt_58 : decode cX5_gainAt 58 = .ok (.istore_n 3, 1) := by decide +kernel
theorem dX5_gainAt_59 : decode cX5_gainAt 59 = .ok (.aload_n 0, 1) := by decide +kernel
theorem dX5_gainAt_60 : decode cX5_gainAt 60 = .ok (.iload_n 1, 1) := by decide +kernel
theorem dX5_gainAt_61 : decode cX5_gainAt 61 = .ok (.iload 5, 2) := by decide +kernel
theorem dX5_gainAt_63 : decode cX5_gainAt 63 = .ok (.iload 6, 2) := by decide +kernel
theorem dX5_gainAt_65 : decode cX5_gainAt 65 = .ok (.iload 4, 2) := by decide +kernel
theorem dX5_gainAt_67 : decode cX5_gainAt 67 = .ok (.invokevirtual 321, 3) := by decide +kernel
theorem dX5_gainAt_70 : decode cX5_gainAt 70 = .ok (.iload_n 3, 1) := by decide +kernel
theorem dX5_gainAt_71 : decode cX5_gainAt 71 = .ok (.ireturn, 1) := by decide +kernel
theorem dX5_bestGain_0 : decode cX5_bestGain 0 = .ok (.aload_n 0, 1) := by decide +kernel
theorem dX5_bestGain_1 : decode cX5_bestGain 1 = .ok (.iconst 1, 1) := by decide +kernel
theorem dX5_bestGain_2 : decode cX5_bestGain 2 = .ok (.iload_n 1, 1) := by decide +kernel
theorem dX5_bestGain_3 : decode cX5_bestGain 3 = .ok (.invokestatic 234, 3) := by decide +kernel
theorem dX5_bestGain_6 : decode cX5_bestGain 6 = .ok (.istore_n 2, 1) := by decide +kernel
theorem dX5_bestGain_7 : decode cX5_bestGain 7 = .ok (.iconst 2, 1) := by decide +kernel
theorem dX5_bestGain_8 : decode cX5_bestGain 8 = .ok (.istore_n 3, 1) := by decide +kernel
theorem dX5_bestGain_9 : decode cX5_bestGain 9 = .ok (.iload_n 3, 1) := by decide +kernel
theorem dX5_bestGain_10 : decode cX5_bestGain 10 = .ok (.bipush 16, 2) := by decide +kernel
theorem dX5_bestGain_12 : decode cX5_bestGain 12 = .ok (.if_icmp .ge 28, 3) := by decide +kernel
theorem dX5_bestGain_15 : decode cX5_bestGain 15 = .ok (.aload_n 0, 1) := by decide +kernel
theorem dX5_bestGain_16 : decode cX5_bestGain 16 = .ok (.iload_n 3, 1) := by decide +kernel
theorem dX5_bestGain_17 : decode cX5_bestGain 17 = .ok (.invokestatic 230, 3) := by decide +kernel
theorem dX5_bestGain_20 : decode cX5_bestGain 20 = .ok (.ifCond .ne 14, 3) := by decide +kernel
theorem dX5_bestGain_23 : decode cX5_bestGain 23 = .ok (.iload_n 2, 1) := by decide +kernel
theorem dX5_bestGain_24 : decode cX5_bestGain 24 = .ok (.aload_n 0, 1) := by decide +kernel
theorem dX5_bestGain_25 : decode cX5_bestGain 25 = .ok (.iload_n 3, 1) := by decide +kernel
theorem dX5_bestGain_26 : decode cX5_bestGain 26 = .ok (.iload_n 1, 1) := by decide +kernel
theorem dX5_bestGain_27 : decode cX5_bestGain 27 = .ok (.invokestatic 234, 3) := by decide +kernel
theorem dX5_bestGain_30 : decode cX5_bestGain 30 = .ok (.invokestatic 253, 3) := by decide +kernel
theorem dX5_bestGain_33 : decode cX5_bestGain 33 = .ok (.istore_n 2, 1) := by decide +kernel
theorem dX5_bestGain_34 : decode cX5_bestGain 34 = .ok (.iinc 3 1, 3) := by decide +kernel
theorem dX5_bestGain_37 : decode cX5_bestGain 37 = .ok (.goto (-28), 3) := by decide +kernel
theorem dX5_bestGain_40 : decode cX5_bestGain 40 = .ok (.iload_n 2, 1) := by decide +kernel
theorem dX5_bestGain_41 : decode cX5_bestGain 41 = .ok (.ireturn, 1) := by decide +kernel
theorem dX5_haulOf_0 : decode cX5_haulOf 0 = .ok (.aload_n 1, 1) := by decide +kernel
theorem dX5_haulOf_1 : decode cX5_haulOf 1 = .ok (.invokestatic 206, 3) := by decide +kernel
theorem dX5_haulOf_4 : decode cX5_haulOf 4 = .ok (.istore_n 2, 1) := by decide +kernel
theorem dX5_haulOf_5 : decode cX5_haulOf 5 = .ok (.iconst 0, 1) := by decide +kernel
theorem dX5_haulOf_6 : decode cX5_haulOf 6 = .ok (.istore_n 3, 1) := by decide +kernel
theorem dX5_haulOf_7 : decode cX5_haulOf 7 = .ok (.iconst 0, 1) := by decide +kernel
theorem dX5_haulOf_8 : decode cX5_haulOf 8 = .ok (.istore 4, 2) := by decide +kernel
theorem dX5_haulOf_10 : decode cX5_haulOf 10 = .ok (.iload 4, 2) := by decide +kernel
theorem dX5_haulOf_12 : decode cX5_haulOf 12 = .ok (.iload_n 2, 1) := by decide +kernel
theorem dX5_haulOf_13 : decode cX5_haulOf 13 = .ok (.if_icmp .ge 34, 3) := by decide +kernel
theorem dX5_haulOf_16 : decode cX5_haulOf 16 = .ok (.aload_n 0, 1) := by decide +kernel
theorem dX5_haulOf_17 : decode cX5_haulOf 17 = .ok (.aload_n 1, 1) := by decide +kernel
theorem dX5_haulOf_18 : decode cX5_haulOf 18 = .ok (.iload 4, 2) := by decide +kernel
theorem dX5_haulOf_20 : decode cX5_haulOf 20 = .ok (.invokevirtual 210, 3) := by decide +kernel
theorem dX5_haulOf_23 : decode cX5_haulOf 23 = .ok (.invokevirtual 197, 3) := by decide +kernel
theorem dX5_haulOf_26 : decode cX5_haulOf 26 = .ok (.iconst 2, 1) := by decide +kernel
theorem dX5_haulOf_27 : decode cX5_haulOf 27 = .ok (.if_icmp .ne 14, 3) := by decide +kernel
theorem dX5_haulOf_30 : decode cX5_haulOf 30 = .ok (.iload_n 3, 1) := by decide +kernel
theorem dX5_haulOf_31 : decode cX5_haulOf 31 = .ok (.aload_n 0, 1) := by decide +kernel
theorem dX5_haulOf_32 : decode cX5_haulOf 32 = .ok (.aload_n 0, 1) := by decide +kernel
theorem dX5_haulOf_33 : decode cX5_haulOf 33 = .ok (.getfield 200, 3) := by decide +kernel
theorem dX5_haulOf_36 : decode cX5_haulOf 36 = .ok (.invokevirtual 126, 3) := by decide +kernel
theorem dX5_haulOf_39 : decode cX5_haulOf 39 = .ok (.iadd, 1) := by decide +kernel
theorem dX5_haulOf_40 : decode cX5_haulOf 40 = .ok (.istore_n 3, 1) := by decide +kernel
theorem dX5_haulOf_41 : decode cX5_haulOf 41 = .ok (.iinc 4 1, 3) := by decide +kernel
theorem dX5_haulOf_44 : decode cX5_haulOf 44 = .ok (.goto (-34), 3) := by decide +kernel
theorem dX5_haulOf_47 : decode cX5_haulOf 47 = .ok (.iload_n 3, 1) := by decide +kernel
theorem dX5_haulOf_48 : decode cX5_haulOf 48 = .ok (.ireturn, 1) := by decide +kernel
theorem dX5_fits_0 : decode cX5_fits 0 = .ok (.iconst 0, 1) := by decide +kernel
theorem dX5_fits_1 : decode cX5_fits 1 = .ok (.istore_n 3, 1) := by decide +kernel
theorem dX5_fits_2 : decode cX5_fits 2 = .ok (.iload_n 3, 1) := by decide +kernel
theorem dX5_fits_3 : decode cX5_fits 3 = .ok (.iconst 1, 1) := by decide +kernel
theorem dX5_fits_4 : decode cX5_fits 4 = .ok (.iadd, 1) := by decide +kernel
theorem dX5_fits_5 : decode cX5_fits 5 = .ok (.aload_n 0, 1) := by decide +kernel
theorem dX5_fits_6 : decode cX5_fits 6 = .ok (.getfield 168, 3) := by decide +kernel
theorem dX5_fits_9 : decode cX5_fits 9 = .ok (.if_icmp .ge 41, 3) := by decide +kernel
theorem dX5_fits_12 : decode cX5_fits 12 = .ok (.iload_n 1, 1) := by decide +kernel
theorem dX5_fits_13 : decode cX5_fits 13 = .ok (.iload_n 2, 1) := by decide +kernel
theorem dX5_fits_14 : decode cX5_fits 14 = .ok (.iload_n 3, 1) := by decide +kernel
theorem dX5_fits_15 : decode cX5_fits 15 = .ok (.iconst 2, 1) := by decide +kernel
theorem dX5_fits_16 : decode cX5_fits 16 = .ok (.idiv, 1) := by decide +kernel
theorem dX5_fits_17 : decode cX5_fits 17 = .ok (.invokestatic 329, 3) := by decide +kernel
theorem dX5_fits_20 : decode cX5_fits 20 = .ok (.istore 4, 2) := by decide +kernel
theorem dX5_fits_22 : decode cX5_fits 22 = .ok (.aload_n 0, 1) := by decide +kernel
theorem dX5_fits_23 : decode cX5_fits 23 = .ok (.iload_n 3, 1) := by decide +kernel
theorem dX5_fits_24 : decode cX5_fits 24 = .ok (.iconst 1, 1) := by decide +kernel
theorem dX5_fits_25 : decode cX5_fits 25 = .ok (.iadd, 1) := by decide +kernel
theorem dX5_fits_26 : decode cX5_fits 26 = .ok (.invokevirtual 210, 3) := by decide +kernel
theorem dX5_fits_29 : decode cX5_fits 29 = .ok (.iload 4, 2) := by decide +kernel
theorem dX5_fits_31 : decode cX5_fits 31 = .ok (.aload_n 0, 1) := by decide +kernel
theorem dX5_fits_32 : decode cX5_fits 32 = .ok (.iload_n 3, 1) := by decide +kernel
theorem dX5_fits_33 : decode cX5_fits 33 = .ok (.invokevirtual 210, 3) := by decide +kernel
theorem dX5_fits_36 : decode cX5_fits 36 = .ok (.invokestatic 332, 3) := by decide +kernel
theorem dX5_fits_39 : decode cX5_fits 39 = .ok (.if_icmp .eq 5, 3) := by decide +kernel
theorem dX5_fits_42 : decode cX5_fits 42 = .ok (.iconst 0, 1) := by decide +kernel
theorem dX5_fits_43 : decode cX5_fits 43 = .ok (.ireturn, 1) := by decide +kernel
theorem dX5_fits_44 : decode cX5_fits 44 = .ok (.iinc 3 2, 3) := by decide +kernel
theorem dX5_fits_47 : decode cX5_fits 47 = .ok (.goto (-45), 3) := by decide +kernel
theorem dX5_fits_50 : decode cX5_fits 50 = .ok (.iconst 1, 1) := by decide +kernel
theorem dX5_fits_51 : decode cX5_fits 51 = .ok (.ireturn, 1) := by decide +kernel
theorem dX5_strengthAt_0 : decode cX5_strengthAt 0 = .ok (.iconst 0, 1) := by decide +kernel
theorem dX5_strengthAt_1 : decode cX5_strengthAt 1 = .ok (.iload_n 0, 1) := by decide +kernel
theorem dX5_strengthAt_2 : decode cX5_strengthAt 2 = .ok (.iload_n 2, 1) := by decide +kernel
theorem dX5_strengthAt_3 : decode cX5_strengthAt 3 = .ok (.iload_n 1, 1) := by decide +kernel
theorem dX5_strengthAt_4 : decode cX5_strengthAt 4 = .ok (.imul, 1) := by decide +kernel
theorem dX5_strengthAt_5 : decode cX5_strengthAt 5 = .ok (.isub, 1) := by decide +kernel
theorem dX5_strengthAt_6 : decode cX5_strengthAt 6 = .ok (.invokestatic 253, 3) := by decide +kernel
theorem dX5_strengthAt_9 : decode cX5_strengthAt 9 = .ok (.ireturn, 1) := by decide +kernel
theorem dX5_holdBy_0 : decode cX5_holdBy 0 = .ok (.iload_n 0, 1) := by decide +kernel
theorem dX5_holdBy_1 : decode cX5_holdBy 1 = .ok (.iload_n 1, 1) := by decide +kernel
theorem dX5_holdBy_2 : decode cX5_holdBy 2 = .ok (.if_icmp .lt 5, 3) := by decide +kernel
theorem dX5_holdBy_5 : decode cX5_holdBy 5 = .ok (.iconst 2, 1) := by decide +kernel
theorem dX5_holdBy_6 : decode cX5_holdBy 6 = .ok (.ireturn, 1) := by decide +kernel
theorem dX5_holdBy_7 : decode cX5_holdBy 7 = .ok (.iconst 2, 1) := by decide +kernel
theorem dX5_holdBy_8 : decode cX5_holdBy 8 = .ok (.iload_n 0, 1) := by decide +kernel
theorem dX5_holdBy_9 : decode cX5_holdBy 9 = .ok (.imul, 1) := by decide +kernel
theorem dX5_holdBy_10 : decode cX5_holdBy 10 = .ok (.iload_n 1, 1) := by decide +kernel
theorem dX5_holdBy_11 : decode cX5_holdBy 11 = .ok (.if_icmp .lt 7, 3) := by decide +kernel
theorem dX5_holdBy_14 : decode cX5_holdBy 14 = .ok (.iconst 1, 1) := by decide +kernel
theorem dX5_holdBy_15 : decode cX5_holdBy 15 = .ok (.goto 4, 3) := by decide +kernel
theorem dX5_holdBy_18 : decode cX5_holdBy 18 = .ok (.iconst 0, 1) := by decide +kernel
theorem dX5_holdBy_19 : decode cX5_holdBy 19 = .ok (.ireturn, 1) := by decide +kernel
theorem dX5_casesOf_0 : decode cX5_casesOf 0 = .ok (.aload_n 1, 1) := by decide +kernel
theorem dX5_casesOf_1 : decode cX5_casesOf 1 = .ok (.iload_n 2, 1) := by decide +kernel
theorem dX5_casesOf_2 : decode cX5_casesOf 2 = .ok (.invokevirtual 210, 3) := by decide +kernel
theorem dX5_casesOf_5 : decode cX5_casesOf 5 = .ok (.istore_n 3, 1) := by decide +kernel
theorem dX5_casesOf_6 : decode cX5_casesOf 6 = .ok (.iconst 0, 1) := by decide +kernel
theorem dX5_casesOf_7 : decode cX5_casesOf 7 = .ok (.istore 4, 2) := by decide +kernel
theorem dX5_casesOf_9 : decode cX5_casesOf 9 = .ok (.iconst 0, 1) := by decide +kernel
theorem dX5_casesOf_10 : decode cX5_casesOf 10 = .ok (.istore 5, 2) := by decide +kernel
theorem dX5_casesOf_12 : decode cX5_casesOf 12 = .ok (.iload 5, 2) := by decide +kernel
theorem dX5_casesOf_14 : decode cX5_casesOf 14 = .ok (.iload_n 2, 1) := by decide +kernel
theorem dX5_casesOf_15 : decode cX5_casesOf 15 = .ok (.if_icmp .ge 22, 3) := by decide +kernel
theorem dX5_casesOf_18 : decode cX5_casesOf 18 = .ok (.aload_n 1, 1) := by decide +kernel
theorem dX5_casesOf_19 : decode cX5_casesOf 19 = .ok (.iload 5, 2) := by decide +kernel
theorem dX5_casesOf_21 : decode cX5_casesOf 21 = .ok (.invokevirtual 210, 3) := by decide +kernel
theorem dX5_casesOf_24 : decode cX5_casesOf 24 = .ok (.iload_n 3, 1) := by decide +kernel
theorem dX5_casesOf_25 : decode cX5_casesOf 25 = .ok (.if_icmp .ne 6, 3) := by decide +kernel
theorem dX5_casesOf_28 : decode cX5_casesOf 28 = .ok (.iinc 4 1, 3) := by decide +kernel
theorem dX5_casesOf_31 : decode cX5_casesOf 31 = .ok (.iinc 5 1, 3) := by decide +kernel
theorem dX5_casesOf_34 : decode cX5_casesOf 34 = .ok (.goto (-22), 3) := by decide +kernel
theorem dX5_casesOf_37 : decode cX5_casesOf 37 = .ok (.aload_n 0, 1) := by decide +kernel
theorem dX5_casesOf_38 : decode cX5_casesOf 38 = .ok (.getfield 67, 3) := by decide +kernel
theorem dX5_casesOf_41 : decode cX5_casesOf 41 = .ok (.iload_n 3, 1) := by decide +kernel
theorem dX5_casesOf_42 : decode cX5_casesOf 42 = .ok (.aload_n 0, 1) := by decide +kernel
theorem dX5_casesOf_43 : decode cX5_casesOf 43 = .ok (.getfield 67, 3) := by decide +kernel
theorem dX5_casesOf_46 : decode cX5_casesOf 46 = .ok (.iload_n 3, 1) := by decide +kernel
theorem dX5_casesOf_47 : decode cX5_casesOf 47 = .ok (.invokevirtual 95, 3) := by decide +kernel
theorem dX5_casesOf_50 : decode cX5_casesOf 50 = .ok (.iconst 1, 1) := by decide +kernel
theorem dX5_casesOf_51 : decode cX5_casesOf 51 = .ok (.isub, 1) := by decide +kernel
theorem dX5_casesOf_52 : decode cX5_casesOf 52 = .ok (.iload 4, 2) := by decide +kernel
theorem dX5_casesOf_54 : decode cX5_casesOf 54 = .ok (.isub, 1) := by decide +kernel
theorem dX5_casesOf_55 : decode cX5_casesOf 55 = .ok (.invokevirtual 161, 3) := by decide +kernel
theorem dX5_casesOf_58 : decode cX5_casesOf 58 = .ok (.istore 5, 2) := by decide +kernel
theorem dX5_casesOf_60 : decode cX5_casesOf 60 = .ok (.iload 5, 2) := by decide +kernel
theorem dX5_casesOf_62 : decode cX5_casesOf 62 = .ok (.ifCond .ge 5, 3) := by decide +kernel
theorem dX5_casesOf_65 : decode cX5_casesOf 65 = .ok (.iconst 0, 1) := by decide +kernel
theorem dX5_casesOf_66 : decode cX5_casesOf 66 = .ok (.ireturn, 1) := by decide +kernel
theorem dX5_casesOf_67 : decode cX5_casesOf 67 = .ok (.aload_n 0, 1) := by decide +kernel
theorem dX5_casesOf_68 : decode cX5_casesOf 68 = .ok (.getfield 67, 3) := by decide +kernel
theorem dX5_casesOf_71 : decode cX5_casesOf 71 = .ok (.getfield 146, 3) := by decide +kernel
theorem dX5_casesOf_74 : decode cX5_casesOf 74 = .ok (.aload_n 0, 1) := by decide +kernel
theorem dX5_casesOf_75 : decode cX5_casesOf 75 = .ok (.getfield 67, 3) := by decide +kernel
theorem dX5_casesOf_78 : decode cX5_casesOf 78 = .ok (.getfield 149, 3) := by decide +kernel
theorem dX5_casesOf_81 : decode cX5_casesOf 81 = .ok (.sipush 9999, 3) := by decide +kernel
theorem dX5_casesOf_84 : decode cX5_casesOf 84 = .ok (.aload_n 0, 1) := by decide +kernel
theorem dX5_casesOf_85 : decode cX5_casesOf 85 = .ok (.getfield 67, 3) := by decide +kernel
theorem dX5_casesOf_88 : decode cX5_casesOf 88 = .ok (.getfield 152, 3) := by decide +kernel
theorem dX5_casesOf_91 : decode cX5_casesOf 91 = .ok (.iload_n 2, 1) := by decide +kernel
theorem dX5_casesOf_92 : decode cX5_casesOf 92 = .ok (.iadd, 1) := by decide +kernel
theorem dX5_casesOf_93 : decode cX5_casesOf 93 = .ok (.invokestatic 287, 3) := by decide +kernel
theorem dX5_casesOf_96 : decode cX5_casesOf 96 = .ok (.invokestatic 329, 3) := by decide +kernel
theorem dX5_casesOf_99 : decode cX5_casesOf 99 = .ok (.istore 6, 2) := by decide +kernel
theorem dX5_casesOf_101 : decode cX5_casesOf 101 = .ok (.aload_n 0, 1) := by decide +kernel
theorem dX5_casesOf_102 : decode cX5_casesOf 102 = .ok (.getfield 67, 3) := by decide +kernel
theorem dX5_casesOf_105 : decode cX5_casesOf 105 = .ok (.iload 5, 2) := by decide +kernel
theorem dX5_casesOf_107 : decode cX5_casesOf 107 = .ok (.invokevirtual 123, 3) := by decide +kernel
theorem dX5_casesOf_110 : decode cX5_casesOf 110 = .ok (.istore 7, 2) := by decide +kernel
theorem dX5_casesOf_112 : decode cX5_casesOf 112 = .ok (.iload 7, 2) := by decide +kernel
theorem dX5_casesOf_114 : decode cX5_casesOf 114 = .ok (.ifCond .le 19, 3) := by decide +kernel
theorem dX5_casesOf_117 : decode cX5_casesOf 117 = .ok (.bipush 16, 2) := by decide +kernel
theorem dX5_casesOf_119 : decode cX5_casesOf 119 = .ok (.iload 6, 2) := by decide +kernel
theorem dX5_casesOf_121 : decode cX5_casesOf 121 = .ok (.bipush 16, 2) := by decide +kernel
theorem dX5_casesOf_123 : decode cX5_casesOf 123 = .ok (.imul, 1) := by decide +kernel
theorem dX5_casesOf_124 : decode cX5_casesOf 124 = .ok (.iload 7, 2) := by decide +kernel
theorem dX5_casesOf_126 : decode cX5_casesOf 126 = .ok (.idiv, 1) := by decide +kernel
theorem dX5_casesOf_127 : decode cX5_casesOf 127 = .ok (.invokestatic 287, 3) := by decide +kernel
theorem dX5_casesOf_130 : decode cX5_casesOf 130 = .ok (.goto 5, 3) := by decide +kernel
theorem dX5_casesOf_133 : decode cX5_casesOf 133 = .ok (.bipush 16, 2) := by decide +kernel
theorem dX5_casesOf_135 : decode cX5_casesOf 135 = .ok (.ireturn, 1) := by decide +kernel
theorem dX6_init_0 : decode cX6_init 0 = .ok (.aload_n 0, 1) := by decide +kernel
theorem dX6_init_1 : decode cX6_init 1 = .ok (.invokespecial 1, 3) := by decide +kernel
theorem dX6_init_4 : decode cX6_init 4 = .ok (.aload_n 0, 1) := by decide +kernel
theorem dX6_init_5 : decode cX6_init 5 = .ok (.sipush 502, 3) := by decide +kernel
theorem dX6_init_8 : decode cX6_init 8 = .ok (.newarray .int, 2) := by decide +kernel
theorem dX6_init_10 : decode cX6_init 10 = .ok (.putfield 7, 3) := by decide +kernel
theorem dX6_init_13 : decode cX6_init 13 = .ok (.aload_n 0, 1) := by decide +kernel
theorem dX6_init_14 : decode cX6_init 14 = .ok (.sipush 502, 3) := by decide +kernel
theorem dX6_init_17 : decode cX6_init 17 = .ok (.newarray .int, 2) := by decide +kernel
theorem dX6_init_19 : decode cX6_init 19 = .ok (.putfield 13, 3) := by decide +kernel
theorem dX6_init_22 : decode cX6_init 22 = .ok (.aload_n 0, 1) := by decide +kernel
theorem dX6_init_23 : decode cX6_init 23 = .ok (.sipush 672, 3) := by decide +kernel
theorem dX6_init_26 : decode cX6_init 26 = .ok (.newarray .int, 2) := by decide +kernel
theorem dX6_init_28 : decode cX6_init 28 = .ok (.putfield 16, 3) := by decide +kernel
theorem dX6_init_31 : decode cX6_init 31 = .ok (.aload_n 0, 1) := by decide +kernel
theorem dX6_init_32 : decode cX6_init 32 = .ok (.bipush 7, 2) := by decide +kernel
theorem dX6_init_34 : decode cX6_init 34 = .ok (.newarray .int, 2) := by decide +kernel
theorem dX6_init_36 : decode cX6_init 36 = .ok (.putfield 19, 3) := by decide +kernel
theorem dX6_init_39 : decode cX6_init 39 = .ok (.aload_n 0, 1) := by decide +kernel
theorem dX6_init_40 : decode cX6_init 40 = .ok (.bipush 124, 2) := by decide +kernel
theorem dX6_init_42 : decode cX6_init 42 = .ok (.newarray .int, 2) := by decide +kernel
theorem dX6_init_44 : decode cX6_init 44 = .ok (.putfield 22, 3) := by decide +kernel
theorem dX6_init_47 : decode cX6_init 47 = .ok (.aload_n 0, 1) := by decide +kernel
theorem dX6_init_48 : decode cX6_init 48 = .ok (.sipush 128, 3) := by decide +kernel
theorem dX6_init_51 : decode cX6_init 51 = .ok (.newarray .int, 2) := by decide +kernel
theorem dX6_init_53 : decode cX6_init 53 = .ok (.putfield 25, 3) := by decide +kernel
theorem dX6_init_56 : decode cX6_init 56 = .ok (.aload_n 0, 1) := by decide +kernel
theorem dX6_init_57 : decode cX6_init 57 = .ok (.bipush 64, 2) := by decide +kernel
theorem dX6_init_59 : decode cX6_init 59 = .ok (.newarray .int, 2) := by decide +kernel
theorem dX6_init_61 : decode cX6_init 61 = .ok (.putfield 28, 3) := by decide +kernel
theorem dX6_init_64 : decode cX6_init 64 = .ok (.aload_n 0, 1) := by decide +kernel
theorem dX6_init_65 : decode cX6_init 65 = .ok (.iconst 3, 1) := by decide +kernel
theorem dX6_init_66 : decode cX6_init 66 = .ok (.newarray .int, 2) := by decide +kernel
theorem dX6_init_68 : decode cX6_init 68 = .ok (.putfield 31, 3) := by decide +kernel
theorem dX6_init_71 : decode cX6_init 71 = .ok (.aload_n 0, 1) := by decide +kernel
theorem dX6_init_72 : decode cX6_init 72 = .ok (.bipush 30, 2) := by decide +kernel
theorem dX6_init_74 : decode cX6_init 74 = .ok (.newarray .int, 2) := by decide +kernel
theorem dX6_init_76 : decode cX6_init 76 = .ok (.putfield 34, 3) := by decide +kernel
theorem dX6_init_79 : decode cX6_init 79 = .ok (.aload_n 0, 1) := by decide +kernel
theorem dX6_init_80 : decode cX6_init 80 = .ok (.iconst 4, 1) := by decide +kernel
theorem dX6_init_81 : decode cX6_init 81 = .ok (.newarray .int, 2) := by decide +kernel
theorem dX6_init_83 : decode cX6_init 83 = .ok (.putfield 37, 3) := by decide +kernel
theorem dX6_init_86 : decode cX6_init 86 = .ok (.aload_n 0, 1) := by decide +kernel
theorem dX6_init_87 : decode cX6_init 87 = .ok (.iconst 4, 1) := by decide +kernel
theorem dX6_init_88 : decode cX6_init 88 = .ok (.newarray .int, 2) := by decide +kernel
theorem dX6_init_90 : decode cX6_init 90 = .ok (.putfield 40, 3) := by decide +kernel
theorem dX6_init_93 : decode cX6_init 93 = .ok (.aload_n 0, 1) := by decide +kernel
theorem dX6_init_94 : decode cX6_init 94 = .ok (.bipush 96, 2) := by decide +kernel
theorem dX6_init_96 : decode cX6_init 96 = .ok (.newarray .int, 2) := by decide +kernel
theorem dX6_init_98 : decode cX6_init 98 = .ok (.putfield 43, 3) := by decide +kernel
theorem dX6_init_101 : decode cX6_init 101 = .ok (.aload_n 0, 1) := by decide +kernel
theorem dX6_init_102 : decode cX6_init 102 = .ok (.bipush 24, 2) := by decide +kernel
theorem dX6_init_104 : decode cX6_init 104 = .ok (.newarray .int, 2) := by decide +kernel
theorem dX6_init_106 : decode cX6_init 106 = .ok (.putfield 46, 3) := by decide +kernel
theorem dX6_init_109 : decode cX6_init 109 = .ok (.aload_n 0, 1) := by decide +kernel
theorem dX6_init_110 : decode cX6_init 110 = .ok (.getfield 7, 3) := by decide +kernel
theorem dX6_init_113 : decode cX6_init 113 = .ok (.bipush 7, 2) := by decide +kernel
theorem dX6_init_115 : decode cX6_init 115 = .ok (.iconst 1, 1) := by decide +kernel
theorem dX6_init_116 : decode cX6_init 116 = .ok (.iastore, 1) := by decide +kernel
theorem dX6_init_117 : decode cX6_init 117 = .ok (.aload_n 0, 1) := by decide +kernel
theorem dX6_init_118 : decode cX6_init 118 = .ok (.getfield 7, 3) := by decide +kernel
theorem dX6_init_121 : decode cX6_init 121 = .ok (.iconst 3, 1) := by decide +kernel
theorem dX6_init_122 : decode cX6_init 122 = .ok (.bipush 60, 2) := by decide +kernel
theorem dX6_init_124 : decode cX6_init 124 = .ok (.iastore, 1) := by decide +kernel
theorem dX6_init_125 : decode cX6_init 125 = .ok (.aload_n 0, 1) := by decide +kernel
theorem dX6_init_126 : decode cX6_init 126 = .ok (.getfield 7, 3) := by decide +kernel
theorem dX6_init_129 : decode cX6_init 129 = .ok (.iconst 4, 1) := by decide +kernel
theorem dX6_init_130 : decode cX6_init 130 = .ok (.iconst 1, 1) := by decide +kernel
theorem dX6_init_131 : decode cX6_init 131 = .ok (.iastore, 1) := by decide +kernel
theorem dX6_init_132 : decode cX6_init 132 = .ok (.return_, 1) := by decide +kernel
theorem dX6_error_0 : decode cX6_error 0 = .ok (.aload_n 0, 1) := by decide +kernel
theorem dX6_error_1 : decode cX6_error 1 = .ok (.getfield 19, 3) := by decide +kernel
theorem dX6_error_4 : decode cX6_error 4 = .ok (.iload_n 1, 1) := by decide +kernel
theorem dX6_error_5 : decode cX6_error 5 = .ok (.dup2, 1) := by decide +kernel
theorem dX6_error_6 : decode cX6_error 6 = .ok (.iaload, 1) := by decide +kernel
theorem dX6_error_7 : decode cX6_error 7 = .ok (.iconst 1, 1) := by decide +kernel
theorem dX6_error_8 : decode cX6_error 8 = .ok (.iadd, 1) := by decide +kernel
theorem dX6_error_9 : decode cX6_error 9 = .ok (.iastore, 1) := by decide +kernel
theorem dX6_error_10 : decode cX6_error 10 = .ok (.ldc 49, 2) := by decide +kernel
theorem dX6_error_12 : decode cX6_error 12 = .ok (.iload_n 1, 1) := by decide +kernel
theorem dX6_error_13 : decode cX6_error 13 = .ok (.isub, 1) := by decide +kernel
theorem dX6_error_14 : decode cX6_error 14 = .ok (.ireturn, 1) := by decide +kernel
theorem dX6_in_0 : decode cX6_in 0 = .ok (.iload_n 0, 1) := by decide +kernel
theorem dX6_in_1 : decode cX6_in 1 = .ok (.iload_n 1, 1) := by decide +kernel
theorem dX6_in_2 : decode cX6_in 2 = .ok (.if_icmp .lt 12, 3) := by decide +kernel
theorem dX6_in_5 : decode cX6_in 5 = .ok (.iload_n 0, 1) := by decide +kernel
theorem dX6_in_6 : decode cX6_in 6 = .ok (.iload_n 2, 1) := by decide +kernel
theorem dX6_in_7 : decode cX6_in 7 = .ok (.if_icmp .gt 7, 3) := by decide +kernel
theorem dX6_in_10 : decode cX6_in 10 = .ok (.iconst 1, 1) := by decide +kernel
theorem dX6_in_11 : decode cX6_in 11 = .ok (.goto 4, 3) := by decide +kernel
theorem dX6_in_14 : decode cX6_in 14 = .ok (.iconst 0, 1) := by decide +kernel
theorem dX6_in_15 : decode cX6_in 15 = .ok (.ireturn, 1) := by decide +kernel
theorem dX6_held_0 : decode cX6_held 0 = .ok (.iload_n 0, 1) := by decide +kernel
theorem dX6_held_1 : decode cX6_held 1 = .ok (.iload_n 1, 1) := by decide +kernel
theorem dX6_held_2 : decode cX6_held 2 = .ok (.if_icmp .ge 7, 3) := by decide +kernel
theorem dX6_held_5 : decode cX6_held 5 = .ok (.iload_n 1, 1) := by decide +kernel
theorem dX6_held_6 : decode cX6_held 6 = .ok (.goto 13, 3) := by decide +kernel
theorem dX6_held_9 : decode cX6_held 9 = .ok (.iload_n 0, 1) := by decide +kernel
theorem dX6_held_10 : decode cX6_held 10 = .ok (.iload_n 2, 1) := by decide +kernel
theorem dX6_held_11 : decode cX6_held 11 = .ok (.if_icmp .le 7, 3) := by decide +kernel
theorem dX6_held_14 : decode cX6_held 14 = .ok (.iload_n 2, 1) := by decide +kernel
theorem dX6_held_15 : decode cX6_held 15 = .ok (.goto 4, 3) := by decide +kernel
theorem dX6_held_18 : decode cX6_held 18 = .ok (.iload_n 0, 1) := by decide +kernel
theorem dX6_held_19 : decode cX6_held 19 = .ok (.ireturn, 1) := by decide +kernel
theorem dX6_carry_0 : decode cX6_carry 0 = .ok (.iconst 0, 1) := by decide +kernel
theorem dX6_carry_1 : decode cX6_carry 1 = .ok (.istore_n 2, 1) := by decide +kernel
theorem dX6_carry_2 : decode cX6_carry 2 = .ok (.iload_n 2, 1) := by decide +kernel
theorem dX6_carry_3 : decode cX6_carry 3 = .ok (.sipush 502, 3) := by decide +kernel
theorem dX6_carry_6 : decode cX6_carry 6 = .ok (.if_icmp .ge 15, 3) := by decide +kernel
theorem dX6_carry_9 : decode cX6_carry 9 = .ok (.aload_n 1, 1) := by decide +kernel
theorem dX6_carry_10 : decode cX6_carry 10 = .ok (.iload_n 2, 1) := by decide +kernel
theorem dX6_carry_11 : decode cX6_carry 11 = .ok (.aload_n 0, 1) := by decide +kernel
theorem dX6_carry_12 : decode cX6_carry 12 = .ok (.iload_n 2, 1) := by decide +kernel
theorem dX6_carry_13 : decode cX6_carry 13 = .ok (.iaload, 1) := by decide +kernel
theorem dX6_carry_14 : decode cX6_carry 14 = .ok (.iastore, 1) := by decide +kernel
theorem dX6_carry_15 : decode cX6_carry 15 = .ok (.iinc 2 1, 3) := by decide +kernel
theorem dX6_carry_18 : decode cX6_carry 18 = .ok (.goto (-16), 3) := by decide +kernel
theorem dX6_carry_21 : decode cX6_carry 21 = .ok (.return_, 1) := by decide +kernel
theorem dX6_layDown_0 : decode cX6_layDown 0 = .ok (.iconst 0, 1) := by decide +kernel
theorem dX6_layDown_1 : decode cX6_layDown 1 = .ok (.istore_n 2, 1) := by decide +kernel
theorem dX6_layDown_2 : decode cX6_layDown 2 = .ok (.iload_n 2, 1) := by decide +kernel
theorem dX6_layDown_3 : decode cX6_layDown 3 = .ok (.sipush 168, 3) := by decide +kernel
theorem dX6_layDown_6 : decode cX6_layDown 6 = .ok (.if_icmp .ge 27, 3) := by decide +kernel
theorem dX6_layDown_9 : decode cX6_layDown 9 = .ok (.aload_n 0, 1) := by decide +kernel
theorem dX6_layDown_10 : decode cX6_layDown 10 = .ok (.getfield 16, 3) := by decide +kernel
theorem dX6_layDown_13 : decode cX6_layDown 13 = .ok (.sipush 168, 3) := by decide +kernel
theorem dX6_layDown_16 : decode cX6_layDown 16 = .ok (.iload_n 1, 1) := by decide +kernel
theorem dX6_layDown_17 : decode cX6_layDown 17 = .ok (.imul, 1) := by decide +kernel
theorem dX6_layDown_18 : decode cX6_layDown 18 = .ok (.iload_n 2, 1) := by decide +kernel
theorem dX6_layDown_19 : decode cX6_layDown 19 = .ok (.iadd, 1) := by decide +kernel
theorem dX6_layDown_20 : decode cX6_layDown 20 = .ok (.aload_n 0, 1) := by decide +kernel
theorem dX6_layDown_21 : decode cX6_layDown 21 = .ok (.getfield 7, 3) := by decide +kernel
theorem dX6_layDown_24 : decode cX6_layDown 24 = .ok (.iload_n 2, 1) := by decide +kernel
theorem dX6_layDown_25 : decode cX6_layDown 25 = .ok (.iaload, 1) := by decide +kernel
theorem dX6_layDown_26 : decode cX6_layDown 26 = .ok (.iastore, 1) := by decide +kernel
theorem dX6_layDown_27 : decode cX6_layDown 27 = .ok (.iinc 2 1, 3) := by decide +kernel
theorem dX6_layDown_30 : decode cX6_layDown 30 = .ok (.goto (-28), 3) := by decide +kernel
theorem dX6_layDown_33 : decode cX6_layDown 33 = .ok (.return_, 1) := by decide +kernel
theorem dX6_layBack_0 : decode cX6_layBack 0 = .ok (.iconst 0, 1) := by decide +kernel
theorem dX6_layBack_1 : decode cX6_layBack 1 = .ok (.istore_n 2, 1) := by decide +kernel
theorem dX6_layBack_2 : decode cX6_layBack 2 = .ok (.iload_n 2, 1) := by decide +kernel
theorem dX6_layBack_3 : decode cX6_layBack 3 = .ok (.sipush 168, 3) := by decide +kernel
theorem dX6_layBack_6 : decode cX6_layBack 6 = .ok (.if_icmp .ge 27, 3) := by decide +kernel
theorem dX6_layBack_9 : decode cX6_layBack 9 = .ok (.aload_n 0, 1) := by decide +kernel
theorem dX6_layBack_10 : decode cX6_layBack 10 = .ok (.getfield 7, 3) := by decide +kernel
theorem dX6_layBack_13 : decode cX6_layBack 13 = .ok (.iload_n 2, 1) := by decide +kernel
theorem dX6_layBack_14 : decode cX6_layBack 14 = .ok (.aload_n 0, 1) := by decide +kernel
theorem dX6_layBack_15 : decode cX6_layBack 15 = .ok (.getfield 16, 3) := by decide +kernel
theorem dX6_layBack_18 : decode cX6_layBack 18 = .ok (.sipush 168, 3) := by decide +kernel
theorem dX6_layBack_21 : decode cX6_layBack 21 = .ok (.iload_n 1, 1) := by decide +kernel
theorem dX6_layBack_22 : decode cX6_layBack 22 = .ok (.imul, 1) := by decide +kernel
theorem dX6_layBack_23 : decode cX6_layBack 23 = .ok (.iload_n 2, 1) := by decide +kernel
theorem dX6_layBack_24 : decode cX6_layBack 24 = .ok (.iadd, 1) := by decide +kernel
theorem dX6_layBack_25 : decode cX6_layBack 25 = .ok (.iaload, 1) := by decide +kernel
theorem dX6_layBack_26 : decode cX6_layBack 26 = .ok (.iastore, 1) := by decide +kernel
theorem dX6_layBack_27 : decode cX6_layBack 27 = .ok (.iinc 2 1, 3) := by decide +kernel
theorem dX6_layBack_30 : decode cX6_layBack 30 = .ok (.goto (-28), 3) := by decide +kernel
theorem dX6_layBack_33 : decode cX6_layBack 33 = .ok (.return_, 1) := by decide +kernel
theorem dX6_isCell_0 : decode cX6_isCell 0 = .ok (.iload_n 0, 1) := by decide +kernel
theorem dX6_isCell_1 : decode cX6_isCell 1 = .ok (.iconst 0, 1) := by decide +kernel
theorem dX6_isCell_2 : decode cX6_isCell 2 = .ok (.bipush 15, 2) := by decide +kernel
theorem dX6_isCell_4 : decode cX6_isCell 4 = .ok (.invokestatic 50, 3) := by decide +kernel
theorem dX6_isCell_7 : decode cX6_isCell 7 = .ok (.ireturn, 1) := by decide +kernel
theorem dX6_isOpen_0 : decode cX6_isOpen 0 = .ok (.iload_n 0, 1) := by decide +kernel
theorem dX6_isOpen_1 : decode cX6_isOpen 1 = .ok (.iconst 1, 1) := by decide +kernel
theorem dX6_isOpen_2 : decode cX6_isOpen 2 = .ok (.bipush 15, 2) := by decide +kernel
theorem dX6_isOpen_4 : decode cX6_isOpen 4 = .ok (.invokestatic 50, 3) := by decide +kernel
theorem dX6_isOpen_7 : decode cX6_isOpen 7 = .ok (.ireturn, 1) := by decide +kernel
theorem dX6_isThing_0 : decode cX6_isThing 0 = .ok (.iload_n 1, 1) := by decide +kernel
theorem dX6_isThing_1 : decode cX6_isThing 1 = .ok (.iconst 0, 1) := by decide +kernel
theorem dX6_isThing_2 : decode cX6_isThing 2 = .ok (.aload_n 0, 1) := by decide +kernel
theorem dX6_isThing_3 : decode cX6_isThing 3 = .ok (.getfield 7, 3) := by decide +kernel
theorem dX6_isThing_6 : decode cX6_isThing 6 = .ok (.iconst 0, 1) := by decide +kernel
theorem dX6_isThing_7 : decode cX6_isThing 7 = .ok (.iaload, 1) := by decide +kernel
theorem dX6_isThing_8 : decode cX6_isThing 8 = .ok (.iconst 1, 1) := by decide +kernel
theorem dX6_isThing_9 : decode cX6_isThing 9 = .ok (.isub, 1) := by decide +kernel
theorem dX6_isThing_10 : decode cX6_isThing 10 = .ok (.invokestatic 50, 3) := by decide +kernel
theorem dX6_isThing_13 : decode cX6_isThing 13 = .ok (.ireturn, 1) := by decide +kernel
theorem dX6_its_0 : decode cX6_its 0 = .ok (.aload_n 0, 1) := by decide +kernel
theorem dX6_its_1 : decode cX6_its 1 = .ok (.getfield 7, 3) := by decide +kernel
theorem dX6_its_4 : decode cX6_its 4 = .ok (.bipush 8, 2) := by decide +kernel
theorem dX6_its_6 : decode cX6_its 6 = .ok (.iconst 4, 1) := by decide +kernel
theorem dX6_its_7 : decode cX6_its 7 = .ok (.iload_n 1, 1) := by decide +kernel
theorem dX6_its_8 : decode cX6_its 8 = .ok (.imul, 1) := by decide +kernel
theorem dX6_its_9 : decode cX6_its 9 = .ok (.iadd, 1) := by decide +kernel
theorem dX6_its_10 : decode cX6_its 10 = .ok (.iload_n 2, 1) := by decide +kernel
theorem dX6_its_11 : decode cX6_its 11 = .ok (.iadd, 1) := by decide +kernel
theorem dX6_its_12 : decode cX6_its 12 = .ok (.iaload, 1) := by decide +kernel
theorem dX6_its_13 : decode cX6_its 13 = .ok (.ireturn, 1) := by decide +kernel
theorem dX6_size_0 : decode cX6_size 0 = .ok (.aload_n 0, 1) := by decide +kernel
theorem dX6_size_1 : decode cX6_size 1 = .ok (.getfield 7, 3) := by decide +kernel
theorem dX6_size_4 : decode cX6_size 4 = .ok (.bipush 72, 2) := by decide +kernel
theorem dX6_size_6 : decode cX6_size 6 = .ok (.bipush 6, 2) := by decide +kernel
theorem dX6_size_8 : decode cX6_size 8 = .ok (.iload_n 1, 1) := by decide +kernel
theorem dX6_size_9 : decode cX6_size 9 = .ok (.imul, 1) := by decide +kernel
theorem dX6_size_10 : decode cX6_size 10 = .ok (.iadd, 1) := by decide +kernel
theorem dX6_size_11 : decode cX6_size 11 = .ok (.iaload, 1) := by decide +kernel
theorem dX6_size_12 : decode cX6_size 12 = .ok (.ireturn, 1) := by decide +kernel
theorem dX6_at1_0 : decode cX6_at1 0 = .ok (.aload_n 0, 1) := by decide +kernel
theorem dX6_at1_1 : decode cX6_at1 1 = .ok (.getfield 7, 3) := by decide +kernel
theorem dX6_at1_4 : decode cX6_at1 4 = .ok (.bipush 72, 2) := by decide +kernel
theorem dX6_at1_6 : decode cX6_at1 6 = .ok (.bipush 6, 2) := by decide +kernel
theorem dX6_at1_8 : decode cX6_at1 8 = .ok (.iload_n 1, 1) := by decide +kernel
theorem dX6_at1_9 : decode cX6_at1 9 = .ok (.imul, 1) := by decide +kernel
theorem dX6_at1_10 : decode cX6_at1 10 = .ok (.iadd, 1) := by decide +kernel
theorem dX6_at1_11 : decode cX6_at1 11 = .ok (.iconst 1, 1) := by decide +kernel
theorem dX6_at1_12 : decode cX6_at1 12 = .ok (.iadd, 1) := by decide +kernel
theorem dX6_at1_13 : decode cX6_at1 13 = .ok (.iload_n 2, 1) := by decide +kernel
theorem dX6_at1_14 : decode cX6_at1 14 = .ok (.iadd, 1) := by decide +kernel
theorem dX6_at1_15 : decode cX6_at1 15 = .ok (.iaload, 1) := by decide +kernel
theorem dX6_at1_16 : decode cX6_at1 16 = .ok (.ireturn, 1) := by decide +kernel
theorem dX6_uppermost_0 : decode cX6_uppermost 0 = .ok (.aload_n 0, 1) := by decide +kernel
theorem dX6_uppermost_1 : decode cX6_uppermost 1 = .ok (.iload_n 1, 1) := by decide +kernel
theorem dX6_uppermost_2 : decode cX6_uppermost 2 = .ok (.invokevirtual 54, 3) := by decide +kernel
theorem dX6_uppermost_5 : decode cX6_uppermost 5 = .ok (.ifCond .ne 7, 3) := by decide +kernel
theorem dX6_uppermost_8 : decode cX6_uppermost 8 = .ok (.iconst (-1), 1) := by decide +kernel
theorem dX6_uppermost_9 : decode cX6_uppermost 9 = .ok (.goto 15, 3) := by decide +kernel
theorem dX6_uppermost_12 : decode cX6_uppermost 12 = .ok (.aload_n 0, 1) := by decide +kernel
theorem dX6_uppermost_13 : decode cX6_uppermost 13 = .ok (.iload_n 1, 1) := by decide +kernel
theorem dX6_uppermost_14 : decode cX6_uppermost 14 = .ok (.aload_n 0, 1) := by decide +kernel
theorem dX6_uppermost_15 : decode cX6_uppermost 15 = .ok (.iload_n 1, 1) := by decide +kernel
theorem dX6_uppermost_16 : decode cX6_uppermost 16 = .ok (.invokevirtual 54, 3) := by decide +kernel
theorem dX6_uppermost_19 : decode cX6_uppermost 19 = .ok (.iconst 1, 1) := by decide +kernel
theorem dX6_uppermost_20 : decode cX6_uppermost 20 = .ok (.isub, 1) := by decide +kernel
theorem dX6_uppermost_21 : decode cX6_uppermost 21 = .ok (.invokevirtual 58, 3) := by decide +kernel
theorem dX6_uppermost_24 : decode cX6_uppermost 24 = .ok (.ireturn, 1) := by decide +kernel
theorem dX6_change1_0 : decode cX6_change1 0 = .ok (.aload_n 0, 1) := by decide +kernel
theorem dX6_change1_1 : decode cX6_change1 1 = .ok (.getfield 7, 3) := by decide +kernel
theorem dX6_change1_4 : decode cX6_change1 4 = .ok (.iload_n 1, 1) := by decide +kernel
theorem dX6_change1_5 : decode cX6_change1 5 = .ok (.iaload, 1) := by decide +kernel
theorem dX6_change1_6 : decode cX6_change1 6 = .ok (.istore_n 3, 1) := by decide +kernel
theorem dX6_change1_7 : decode cX6_change1 7 = .ok (.aload_n 0, 1) := by decide +kernel
theorem dX6_change1_8 : decode cX6_change1 8 = .ok (.getfield 7, 3) := by decide +kernel
theorem dX6_change1_11 : decode cX6_change1 11 = .ok (.iload_n 1, 1) := by decide +kernel
theorem dX6_change1_12 : decode cX6_change1 12 = .ok (.iload_n 2, 1) := by decide +kernel
theorem dX6_change1_13 : decode cX6_change1 13 = .ok (.iastore, 1) := by decide +kernel
theorem dX6_change1_14 : decode cX6_change1 14 = .ok (.iload_n 3, 1) := by decide +kernel
theorem dX6_change1_15 : decode cX6_change1 15 = .ok (.ireturn, 1) := by decide +kernel
theorem dX6_heightOf_0 : decode cX6_heightOf 0 = .ok (.aload_n 0, 1) := by decide +kernel
theorem dX6_heightOf_1 : decode cX6_heightOf 1 = .ok (.iload_n 1, 1) := by decide +kernel
theorem dX6_heightOf_2 : decode cX6_heightOf 2 = .ok (.iconst 3, 1) := by decide +kernel
theorem dX6_heightOf_3 : decode cX6_heightOf 3 = .ok (.invokevirtual 62, 3) := by decide +kernel
theorem dX6_heightOf_6 : decode cX6_heightOf 6 = .ok (.istore_n 2, 1) := by decide +kernel
theorem dX6_heightOf_7 : decode cX6_heightOf 7 = .ok (.iconst 0, 1) := by decide +kernel
theorem dX6_heightOf_8 : decode cX6_heightOf 8 = .ok (.istore_n 3, 1) := by decide +kernel
theorem dX6_heightOf_9 : decode cX6_heightOf 9 = .ok (.aload_n 0, 1) := by decide +kernel
theorem dX6_heightOf_10 : decode cX6_heightOf 10 = .ok (.iload_n 2, 1) := by decide +kernel
theorem dX6_heightOf_11 : decode cX6_heightOf 11 = .ok (.iload_n 3, 1) := by decide +kernel
theorem dX6_heightOf_12 : decode cX6_heightOf 12 = .ok (.invokevirtual 58, 3) := by decide +kernel
theorem dX6_heightOf_15 : decode cX6_heightOf 15 = .ok (.iload_n 1, 1) := by decide +kernel
theorem dX6_heightOf_16 : decode cX6_heightOf 16 = .ok (.if_icmp .eq 9, 3) := by decide +kernel
theorem dX6_heightOf_19 : decode cX6_heightOf 19 = .ok (.iinc 3 1, 3) := by decide +kernel
theorem dX6_heightOf_22 : decode cX6_heightOf 22 = .ok (.goto (-13), 3) := by decide +kernel
theorem dX6_heightOf_25 : decode cX6_heightOf 25 = .ok (.iload_n 3, 1) := by decide +kernel
theorem dX6_heightOf_26 : decode cX6_heightOf 26 = .ok (.ireturn, 1) := by decide +kernel
theorem dX6_under_0 : decode cX6_under 0 = .ok (.aload_n 0, 1) := by decide +kernel
theorem dX6_under_1 : decode cX6_under 1 = .ok (.iload_n 1, 1) := by decide +kernel
theorem dX6_under_2 : decode cX6_under 2 = .ok (.iconst 3, 1) := by decide +kernel
theorem dX6_under_3 : decode cX6_under 3 = .ok (.invokevirtual 62, 3) := by decide +kernel
theorem dX6_under_6 : decode cX6_under 6 = .ok (.ifCond .ge 7, 3) := by decide +kernel
theorem dX6_under_9 : decode cX6_under 9 = .ok (.iconst (-1), 1) := by decide +kernel
theorem dX6_under_10 : decode cX6_under 10 = .ok (.goto 8, 3) := by decide +kernel
theorem dX6_under_13 : decode cX6_under 13 = .ok (.aload_n 0, 1) := by decide +kernel
theorem dX6_under_14 : decode cX6_under 14 = .ok (.iload_n 1, 1) := by decide +kernel
theorem dX6_under_15 : decode cX6_under 15 = .ok (.invokevirtual 65, 3) := by decide +kernel
theorem dX6_under_18 : decode cX6_under 18 = .ok (.ireturn, 1) := by decide +kernel
theorem dX6_upon_0 : decode cX6_upon 0 = .ok (.aload_n 0, 1) := by decide +kernel
theorem dX6_upon_1 : decode cX6_upon 1 = .ok (.iload_n 1, 1) := by decide +kernel
theorem dX6_upon_2 : decode cX6_upon 2 = .ok (.iconst 3, 1) := by decide +kernel
theorem dX6_upon_3 : decode cX6_upon 3 = .ok (.invokevirtual 62, 3) := by decide +kernel
theorem dX6_upon_6 : decode cX6_upon 6 = .ok (.ifCond .ge 7, 3) := by decide +kernel
theorem dX6_upon_9 : decode cX6_upon 9 = .ok (.iconst (-1), 1) := by decide +kernel
theorem dX6_upon_10 : decode cX6_upon 10 = .ok (.goto 21, 3) := by decide +kernel
theorem dX6_upon_13 : decode cX6_upon 13 = .ok (.aload_n 0, 1) := by decide +kernel
theorem dX6_upon_14 : decode cX6_upon 14 = .ok (.aload_n 0, 1) := by decide +kernel
theorem dX6_upon_15 : decode cX6_upon 15 = .ok (.iload_n 1, 1) := by decide +kernel
theorem dX6_upon_16 : decode cX6_upon 16 = .ok (.iconst 3, 1) := by decide +kernel
theorem dX6_upon_17 : decode cX6_upon 17 = .ok (.invokevirtual 62, 3) := by decide +kernel
theorem dX6_upon_20 : decode cX6_upon 20 = .ok (.invokevirtual 54, 3) := by decide +kernel
theorem dX6_upon_23 : decode cX6_upon 23 = .ok (.iconst 1, 1) := by decide +kernel
theorem dX6_upon_24 : decode cX6_upon 24 = .ok (.isub, 1) := by decide +kernel
theorem dX6_upon_25 : decode cX6_upon 25 = .ok (.aload_n 0, 1) := by decide +kernel
theorem dX6_upon_26 : decode cX6_upon 26 = .ok (.iload_n 1, 1) := by decide +kernel
theorem dX6_upon_27 : decode cX6_upon 27 = .ok (.invokevirtual 65, 3) := by decide +kernel
theorem dX6_upon_30 : decode cX6_upon 30 = .ok (.isub, 1) := by decide +kernel
theorem dX6_upon_31 : decode cX6_upon 31 = .ok (.ireturn, 1) := by decide +kernel
theorem dX6_feed_0 : decode cX6_feed 0 = .ok (.iload_n 3, 1) := by decide +kernel
theorem dX6_feed_1 : decode cX6_feed 1 = .ok (.iconst 1, 1) := by decide +kernel
theorem dX6_feed_2 : decode cX6_feed 2 = .ok (.bipush 8, 2) := by decide +kernel
theorem dX6_feed_4 : decode cX6_feed 4 = .ok (.invokestatic 50, 3) := by decide +kernel
theorem dX6_feed_7 : decode cX6_feed 7 = .ok (.ifCond .ne 9, 3) := by decide +kernel
theorem dX6_feed_10 : decode cX6_feed 10 = .ok (.aload_n 0, 1) := by decide +kernel
theorem dX6_feed_11 : decode cX6_feed 11 = .ok (.iconst 1, 1) := by decide +kernel
theorem dX6_feed_12 : decode cX6_feed 12 = .ok (.invokevirtual 68, 3) := by decide +kernel
theorem dX6_feed_15 : decode cX6_feed 15 = .ok (.ireturn, 1) := by decide +kernel
theorem dX6_feed_16 : decode cX6_feed 16 = .ok (.aload_n 0, 1) := by decide +kernel
theorem dX6_feed_17 : decode cX6_feed 17 = .ok (.getfield 7, 3) := by decide +kernel
theorem dX6_feed_20 : decode cX6_feed 20 = .ok (.iconst 5, 1) := by decide +kernel
theorem dX6_feed_21 : decode cX6_feed 21 = .ok (.iaload, 1) := by decide +kernel
theorem dX6_feed_22 : decode cX6_feed 22 = .ok (.iload_n 3, 1) := by decide +kernel
theorem dX6_feed_23 : decode cX6_feed 23 = .ok (.iadd, 1) := by decide +kernel
theorem dX6_feed_24 : decode cX6_feed 24 = .ok (.bipush 60, 2) := by decide +kernel
theorem dX6_feed_26 : decode cX6_feed 26 = .ok (.if_icmp .le 9, 3) := by decide +kernel
theorem dX6_feed_29 : decode cX6_feed 29 = .ok (.aload_n 0, 1) := by decide +kernel
theorem dX6_feed_30 : decode cX6_feed 30 = .ok (.iconst 4, 1) := by decide +kernel
theorem dX6_feed_31 : decode cX6_feed 31 = .ok (.invokevirtual 68, 3) := by decide +kernel
theorem dX6_feed_34 : decode cX6_feed 34 = .ok (.ireturn, 1) := by decide +kernel
theorem dX6_feed_35 : decode cX6_feed 35 = .ok (.iconst 0, 1) := by decide +kernel
theorem dX6_feed_36 : decode cX6_feed 36 = .ok (.istore 4, 2) := by decide +kernel
theorem dX6_feed_38 : decode cX6_feed 38 = .ok (.iload 4, 2) := by decide +kernel
theorem dX6_feed_40 : decode cX6_feed 40 = .ok (.iload_n 3, 1) := by decide +kernel
theorem dX6_feed_41 : decode cX6_feed 41 = .ok (.if_icmp .ge 46, 3) := by decide +kernel
theorem dX6_feed_44 : decode cX6_feed 44 = .ok (.aload_n 0, 1) := by decide +kernel
theorem dX6_feed_45 : decode cX6_feed 45 = .ok (.getfield 7, 3) := by decide +kernel
theorem dX6_feed_48 : decode cX6_feed 48 = .ok (.sipush 418, 3) := by decide +kernel
theorem dX6_feed_51 : decode cX6_feed 51 = .ok (.aload_n 0, 1) := by decide +kernel
theorem dX6_feed_52 : decode cX6_feed 52 = .ok (.getfield 7, 3) := by decide +kernel
theorem dX6_feed_55 : decode cX6_feed 55 = .ok (.iconst 5, 1) := by decide +kernel
theorem dX6_feed_56 : decode cX6_feed 56 = .ok (.iaload, 1) := by decide +kernel
theorem dX6_feed_57 : decode cX6_feed 57 = .ok (.iadd, 1) := by decide +kernel
theorem dX6_feed_58 : decode cX6_feed 58 = .ok (.lload_n 1, 1) := by decide +kernel
theorem dX6_feed_59 : decode cX6_feed 59 = .ok (.bipush 8, 2) := by decide +kernel
theorem dX6_feed_61 : decode cX6_feed 61 = .ok (.iload 4, 2) := by decide +kernel
theorem dX6_feed_63 : decode cX6_feed 63 = .ok (.imul, 1) := by decide +kernel
theorem dX6_feed_64 : decode cX6_feed 64 = .ok (.lshr, 1) := by decide +kernel
theorem dX6_feed_65 : decode cX6_feed 65 = .ok (.ldc2_w 71, 3) := by decide +kernel
theorem dX6_feed_68 : decode cX6_feed 68 = .ok (.land, 1) := by decide +kernel
theorem dX6_feed_69 : decode cX6_feed 69 = .ok (.l2i, 1) := by decide +kernel
theorem dX6_feed_70 : decode cX6_feed 70 = .ok (.iastore, 1) := by decide +kernel
theorem dX6_feed_71 : decode cX6_feed 71 = .ok (.aload_n 0, 1) := by decide +kernel
theorem dX6_feed_72 : decode cX6_feed 72 = .ok (.getfield 7, 3) := by decide +kernel
theorem dX6_feed_75 : decode cX6_feed 75 = .ok (.iconst 5, 1) := by decide +kernel
theorem dX6_feed_76 : decode cX6_feed 76 = .ok (.dup2, 1) := by decide +kernel
theorem dX6_feed_77 : decode cX6_feed 77 = .ok (.iaload, 1) := by decide +kernel
theorem dX6_feed_78 : decode cX6_feed 78 = .ok (.iconst 1, 1) := by decide +kernel
theorem dX6_feed_79 : decode cX6_feed 79 = .ok (.iadd, 1) := by decide +kernel
theorem dX6_feed_80 : decode cX6_feed 80 = .ok (.iastore, 1) := by decide +kernel
theorem dX6_feed_81 : decode cX6_feed 81 = .ok (.iinc 4 1, 3) := by decide +kernel
theorem dX6_feed_84 : decode cX6_feed 84 = .ok (.goto (-46), 3) := by decide +kernel
theorem dX6_feed_87 : decode cX6_feed 87 = .ok (.aload_n 0, 1) := by decide +kernel
theorem dX6_feed_88 : decode cX6_feed 88 = .ok (.getfield 7, 3) := by decide +kernel
theorem dX6_feed_91 : decode cX6_feed 91 = .ok (.iconst 5, 1) := by decide +kernel
theorem dX6_feed_92 : decode cX6_feed 92 = .ok (.iaload, 1) := by decide +kernel
theorem dX6_feed_93 : decode cX6_feed 93 = .ok (.ireturn, 1) := by decide +kernel
theorem dX6_look_0 : decode cX6_look 0 = .ok (.aload_n 0, 1) := by decide +kernel
theorem dX6_look_1 : decode cX6_look 1 = .ok (.getfield 73, 3) := by decide +kernel
theorem dX6_look_4 : decode cX6_look 4 = .ok (.aload_n 0, 1) := by decide +kernel
theorem dX6_look_5 : decode cX6_look 5 = .ok (.getfield 7, 3) := by decide +kernel
theorem dX6_look_8 : decode cX6_look 8 = .ok (.iconst 5, 1) := by decide +kernel
theorem dX6_look_9 : decode cX6_look 9 = .ok (.iaload, 1) := by decide +kernel
theorem dX6_look_10 : decode cX6_look 10 = .ok (.if_icmp .ge 19, 3) := by decide +kernel
theorem dX6_look_13 : decode cX6_look 13 = .ok (.aload_n 0, 1) := by decide +kernel
theorem dX6_look_14 : decode cX6_look 14 = .ok (.getfield 7, 3) := by decide +kernel
theorem dX6_look_17 : decode cX6_look 17 = .ok (.sipush 418, 3) := by decide +kernel
theorem dX6_look_20 : decode cX6_look 20 = .ok (.aload_n 0, 1) := by decide +kernel
theorem dX6_look_21 : decode cX6_look 21 = .ok (.getfield 73, 3) := by decide +kernel
theorem dX6_look_24 : decode cX6_look 24 = .ok (.iadd, 1) := by decide +kernel
theorem dX6_look_25 : decode cX6_look 25 = .ok (.iaload, 1) := by decide +kernel
theorem dX6_look_26 : decode cX6_look 26 = .ok (.goto 4, 3) := by decide +kernel
theorem dX6_look_29 : decode cX6_look 29 = .ok (.iconst (-1), 1) := by decide +kernel
theorem dX6_look_30 : decode cX6_look 30 = .ok (.ireturn, 1) := by decide +kernel
theorem dX6_isName_0 : decode cX6_isName 0 = .ok (.iload_n 1, 1) := by decide +kernel
theorem dX6_isName_1 : decode cX6_isName 1 = .ok (.bipush 109, 2) := by decide +kernel
theorem dX6_isName_3 : decode cX6_isName 3 = .ok (.if_icmp .ne 5, 3) := by decide +kernel
theorem dX6_isName_6 : decode cX6_isName 6 = .ok (.iconst 1, 1) := by decide +kernel
theorem dX6_isName_7 : decode cX6_isName 7 = .ok (.ireturn, 1) := by decide +kernel
theorem dX6_isName_8 : decode cX6_isName 8 = .ok (.aload_n 0, 1) := by decide +kernel
theorem dX6_isName_9 : decode cX6_isName 9 = .ok (.getfield 77, 3) := by decide +kernel
theorem dX6_isName_12 : decode cX6_isName 12 = .ok (.ifCond .ne 29, 3) := by decide +kernel
theorem dX6_isName_15 : decode cX6_isName 15 = .ok (.iload_n 1, 1) := by decide +kernel
theorem dX6_isName_16 : decode cX6_isName 16 = .ok (.bipush 111, 2) := by decide +kernel
theorem dX6_isName_18 : decode cX6_isName 18 = .ok (.if_icmp .eq 15, 3) := by decide +kernel
theorem dX6_isName_21 : decode cX6_isName 21 = .ok (.iload_n 1, 1) := by decide +kernel
theorem dX6_isName_22 : decode cX6_isName 22 = .ok (.bipush 117, 2) := by decide +kernel
theorem dX6_isName_24 : decode cX6_isName 24 = .ok (.if_icmp .eq 9, 3) := by decide +kernel
theorem dX6_isName_27 : decode cX6_isName 27 = .ok (.iload_n 1, 1) := by decide +kernel
theorem dX6_isName_28 : decode cX6_isName 28 = .ok (.bipush 99, 2) := by decide +kernel
theorem dX6_isName_30 : decode cX6_isName 30 = .ok (.if_icmp .ne 7, 3) := by decide +kernel
theorem dX6_isName_33 : decode cX6_isName 33 = .ok (.iconst 1, 1) := by decide +kernel
theorem dX6_isName_34 : decode cX6_isName 34 = .ok (.goto 24, 3) := by decide +kernel
theorem dX6_isName_37 : decode cX6_isName 37 = .ok (.iconst 0, 1) := by decide +kernel
theorem dX6_isName_38 : decode cX6_isName 38 = .ok (.goto 20, 3) := by decide +kernel
theorem dX6_isName_41 : decode cX6_isName 41 = .ok (.iload_n 1, 1) := by decide +kernel
theorem dX6_isName_42 : decode cX6_isName 42 = .ok (.bipush 119, 2) := by decide +kernel
theorem dX6_isName_44 : decode cX6_isName 44 = .ok (.if_icmp .eq 9, 3) := by decide +kernel
theorem dX6_isName_47 : decode cX6_isName 47 = .ok (.iload_n 1, 1) := by decide +kernel
theorem dX6_isName_48 : decode cX6_isName 48 = .ok (.bipush 107, 2) := by decide +kernel
theorem dX6_isName_50 : decode cX6_isName 50 = .ok (.if_icmp .ne 7, 3) := by decide +kernel
theorem dX6_isName_53 : decode cX6_isName 53 = .ok (.iconst 1, 1) := by decide +kernel
theorem dX6_isName_54 : decode cX6_isName 54 = .ok (.goto 4, 3) := by decide +kernel
theorem dX6_isName_57 : decode cX6_isName 57 = .ok (.iconst 0, 1) := by decide +kernel
theorem dX6_isName_58 : decode cX6_isName 58 = .ok (.ireturn, 1) := by decide +kernel
theorem dX6_step1_0 : decode cX6_step1 0 = .ok (.aload_n 0, 1) := by decide +kernel
theorem dX6_step1_1 : decode cX6_step1 1 = .ok (.getfield 22, 3) := by decide +kernel
theorem dX6_step1_4 : decode cX6_step1 4 = .ok (.iconst 2, 1) := by decide +kernel
theorem dX6_step1_5 : decode cX6_step1 5 = .ok (.aload_n 0, 1) := by decide +kernel
theorem dX6_step1_6 : decode cX6_step1 6 = .ok (.getfield 80, 3) := by decide +kernel
theorem dX6_step1_9 : decode cX6_step1 9 = .ok (.imul, 1) := by decide +kernel
theorem dX6_step1_10 : decode cX6_step1 10 = .ok (.iload_n 1, 1) := by decide +kernel
theorem dX6_step1_11 : decode cX6_step1 11 = .ok (.iastore, 1) := by decide +kernel
theorem dX6_step1_12 : decode cX6_step1 12 = .ok (.aload_n 0, 1) := by decide +kernel
theorem dX6_step1_13 : decode cX6_step1 13 = .ok (.getfield 22, 3) := by decide +kernel
theorem dX6_step1_16 : decode cX6_step1 16 = .ok (.iconst 2, 1) := by decide +kernel
theorem dX6_step1_17 : decode cX6_step1 17 = .ok (.aload_n 0, 1) := by decide +kernel
theorem dX6_step1_18 : decode cX6_step1 18 = .ok (.getfield 80, 3) := by decide +kernel
theorem dX6_step1_21 : decode cX6_step1 21 = .ok (.imul, 1) := by decide +kernel
theorem dX6_step1_22 : decode cX6_step1 22 = .ok (.iconst 1, 1) := by decide +kernel
theorem dX6_step1_23 : decode cX6_step1 23 = .ok (.iadd, 1) := by decide +kernel
theorem dX6_step1_24 : decode cX6_step1 24 = .ok (.iload_n 2, 1) := by decide +kernel
theorem dX6_step1_25 : decode cX6_step1 25 = .ok (.iastore, 1) := by decide +kernel
theorem dX6_step1_26 : decode cX6_step1 26 = .ok (.aload_n 0, 1) := by decide +kernel
theorem dX6_step1_27 : decode cX6_step1 27 = .ok (.dup, 1) := by decide +kernel
theorem dX6_step1_28 : decode cX6_step1 28 = .ok (.getfield 80, 3) := by decide +kernel
theorem dX6_step1_31 : decode cX6_step1 31 = .ok (.iconst 1, 1) := by decide +kernel
theorem dX6_step1_32 : decode cX6_step1 32 = .ok (.iadd, 1) := by decide +kernel
theorem dX6_step1_33 : decode cX6_step1 33 = .ok (.putfield 80, 3) := by decide +kernel
theorem dX6_step1_36 : decode cX6_step1 36 = .ok (.return_, 1) := by decide +kernel
theorem dX6_whole_0 : decode cX6_whole 0 = .ok (.aload_n 0, 1) := by decide +kernel
theorem dX6_whole_1 : decode cX6_whole 1 = .ok (.invokevirtual 83, 3) := by decide +kernel
theorem dX6_whole_4 : decode cX6_whole 4 = .ok (.ifCond .ne 5, 3) := by decide +kernel
theorem dX6_whole_7 : decode cX6_whole 7 = .ok (.iconst 0, 1) := by decide +kernel
theorem dX6_whole_8 : decode cX6_whole 8 = .ok (.ireturn, 1) := by decide +kernel
theorem dX6_whole_9 : decode cX6_whole 9 = .ok (.aload_n 0, 1) := by decide +kernel
theorem dX6_whole_10 : decode cX6_whole 10 = .ok (.invokevirtual 87, 3) := by decide +kernel
theorem dX6_whole_13 : decode cX6_whole 13 = .ok (.bipush 124, 2) := by decide +kernel
theorem dX6_whole_15 : decode cX6_whole 15 = .ok (.if_icmp .ne 32, 3) := by decide +kernel
theorem dX6_whole_18 : decode cX6_whole 18 = .ok (.aload_n 0, 1) := by decide +kernel
theorem dX6_whole_19 : decode cX6_whole 19 = .ok (.dup, 1) := by decide +kernel
theorem dX6_whole_20 : decode cX6_whole 20 = .ok (.getfield 73, 3) := by decide +kernel
theorem dX6_whole_23 : decode cX6_whole 23 = .ok (.iconst 1, 1) := by decide +kernel
theorem dX6_whole_24 : decode cX6_whole 24 = .ok (.iadd, 1) := by decide +kernel
theorem dX6_whole_25 : decode cX6_whole 25 = .ok (.putfield 73, 3) := by decide +kernel
theorem dX6_whole_28 : decode cX6_whole 28 = .ok (.aload_n 0, 1) := by decide +kernel
theorem dX6_whole_29 : decode cX6_whole 29 = .ok (.invokevirtual 83, 3) := by decide +kernel
theorem dX6_whole_32 : decode cX6_whole 32 = .ok (.ifCond .ne 5, 3) := by decide +kernel
theorem dX6_whole_35 : decode cX6_whole 35 = .ok (.iconst 0, 1) := by decide +kernel
theorem dX6_whole_36 : decode cX6_whole 36 = .ok (.ireturn, 1) := by decide +kernel
theorem dX6_whole_37 : decode cX6_whole 37 = .ok (.aload_n 0, 1) := by decide +kernel
theorem dX6_whole_38 : decode cX6_whole 38 = .ok (.iconst 3, 1) := by decide +kernel
theorem dX6_whole_39 : decode cX6_whole 39 = .ok (.bipush 124, 2) := by decide +kernel
theorem dX6_whole_41 : decode cX6_whole 41 = .ok (.invokevirtual 91, 3) := by decide +kernel
theorem dX6_whole_44 : decode cX6_whole 44 = .ok (.goto (-35), 3) := by decide +kernel
theorem dX6_whole_47 : decode cX6_whole 47 = .ok (.iconst 1, 1) := by decide +kernel
theorem dX6_whole_48 : decode cX6_whole 48 = .ok (.ireturn, 1) := by decide +kernel
theorem dX6_both_0 : decode cX6_both 0 = .ok (.aload_n 0, 1) := by decide +kernel
theorem dX6_both_1 : decode cX6_both 1 = .ok (.invokevirtual 95, 3) := by decide +kernel
theorem dX6_both_4 : decode cX6_both 4 = .ok (.ifCond .ne 5, 3) := by decide +kernel
theorem dX6_both_7 : decode cX6_both 7 = .ok (.iconst 0, 1) := by decide +kernel
theorem dX6_both_8 : decode cX6_both 8 = .ok (.ireturn, 1) := by decide +kernel
theorem dX6_both_9 : decode cX6_both 9 = .ok (.aload_n 0, 1) := by decide +kernel
theorem dX6_both_10 : decode cX6_both 10 = .ok (.invokevirtual 87, 3) := by decide +kernel
theorem dX6_both_13 : decode cX6_both 13 = .ok (.bipush 38, 2) := by decide +kernel
theorem dX6_both_15 : decode cX6_both 15 = .ok (.if_icmp .ne 32, 3) := by decide +kernel
theorem dX6_both_18 : decode cX6_both 18 = .ok (.aload_n 0, 1) := by decide +kernel
theorem dX6_both_19 : decode cX6_both 19 = .ok (.dup, 1) := by decide +kernel
theorem dX6_both_20 : decode cX6_both 20 = .ok (.getfield 73, 3) := by decide +kernel
theorem dX6_both_23 : decode cX6_both 23 = .ok (.iconst 1, 1) := by decide +kernel
theorem dX6_both_24 : decode cX6_both 24 = .ok (.iadd, 1) := by decide +kernel
theorem dX6_both_25 : decode cX6_both 25 = .ok (.putfield 73, 3) := by decide +kernel
theorem dX6_both_28 : decode cX6_both 28 = .ok (.aload_n 0, 1) := by decide +kernel
theorem dX6_both_29 : decode cX6_both 29 = .ok (.invokevirtual 95, 3) := by decide +kernel
theorem dX6_both_32 : decode cX6_both 32 = .ok (.ifCond .ne 5, 3) := by decide +kernel
theorem dX6_both_35 : decode cX6_both 35 = .ok (.iconst 0, 1) := by decide +kernel
theorem dX6_both_36 : decode cX6_both 36 = .ok (.ireturn, 1) := by decide +kernel
theorem dX6_both_37 : decode cX6_both 37 = .ok (.aload_n 0, 1) := by decide +kernel
theorem dX6_both_38 : decode cX6_both 38 = .ok (.iconst 3, 1) := by decide +kernel
theorem dX6_both_39 : decode cX6_both 39 = .ok (.bipush 38, 2) := by decide +kernel
theorem dX6_both_41 : decode cX6_both 41 = .ok (.invokevirtual 91, 3) := by decide +kernel
theorem dX6_both_44 : decode cX6_both 44 = .ok (.goto (-35), 3) := by decide +kernel
theorem dX6_both_47 : decode cX6_both 47 = .ok (.iconst 1, 1) := by decide +kernel
theorem dX6_both_48 : decode cX6_both 48 = .ok (.ireturn, 1) := by decide +kernel
theorem dX6_compared_0 : decode cX6_compared 0 = .ok (.aload_n 0, 1) := by decide +kernel
theorem dX6_compared_1 : decode cX6_compared 1 = .ok (.invokevirtual 98, 3) := by decide +kernel
theorem dX6_compared_4 : decode cX6_compared 4 = .ok (.ifCond .ne 5, 3) := by decide +kernel
theorem dX6_compared_7 : decode cX6_compared 7 = .ok (.iconst 0, 1) := by decide +kernel
theorem dX6_compared_8 : decode cX6_compared 8 = .ok (.ireturn, 1) := by decide +kernel
theorem dX6_compared_9 : decode cX6_compared 9 = .ok (.aload_n 0, 1) := by decide +kernel
theorem dX6_compared_10 : decode cX6_compared 10 = .ok (.invokevirtual 87, 3) := by decide +kernel
theorem dX6_compared_13 : decode cX6_compared 13 = .ok (.istore_n 1, 1) := by decide +kernel
theorem dX6_compared_14 : decode cX6_compared 14 = .ok (.iload_n 1, 1) := by decide +kernel
theorem dX6_compared_15 : decode cX6_compared 15 = .ok (.bipush 60, 2) := by decide +kernel
theorem dX6_compared_17 : decode cX6_compared 17 = .ok (.if_icmp .eq 17, 3) := by decide +kernel
theorem dX6_compared_20 : decode cX6_compared 20 = .ok (.iload_n 1, 1) := by decide +kernel
theorem dX6_compared_21 : decode cX6_compared 21 = .ok (.bipush 61, 2) := by decide +kernel
theorem dX6_compared_23 : decode cX6_compared 23 = .ok (.if_icmp .eq 11, 3) := by decide +kernel
theorem dX6_compared_26 : decode cX6_compared 26 = .ok (.iload_n 1, 1) := by decide +kernel
theorem dX6_compared_27 : decode cX6_compared 27 = .ok (.bipush 62, 2) := by decide +kernel
theorem dX6_compared_29 : decode cX6_compared 29 = .ok (.if_icmp .eq 5, 3) := by decide +kernel
theorem dX6_compared_32 : decode cX6_compared 32 = .ok (.iconst 1, 1) := by decide +kernel
theorem dX6_compared_33 : decode cX6_compared 33 = .ok (.ireturn, 1) := by decide +kernel
theorem dX6_compared_34 : decode cX6_compared 34 = .ok (.aload_n 0, 1) := by decide +kernel
theorem dX6_compared_35 : decode cX6_compared 35 = .ok (.dup, 1) := by decide +kernel
theorem dX6_compared_36 : decode cX6_compared 36 = .ok (.getfield 73, 3) := by decide +kernel
theorem dX6_compared_39 : decode cX6_compared 39 = .ok (.iconst 1, 1) := by decide +kernel
theorem dX6_compared_40 : decode cX6_compared 40 = .ok (.iadd, 1) := by decide +kernel
theorem dX6_compared_41 : decode cX6_compared 41 = .ok (.putfield 73, 3) := by decide +kernel
theorem dX6_compared_44 : decode cX6_compared 44 = .ok (.aload_n 0, 1) := by decide +kernel
theorem dX6_compared_45 : decode cX6_compared 45 = .ok (.invokevirtual 98, 3) := by decide +kernel
theorem dX6_compared_48 : decode cX6_compared 48 = .ok (.ifCond .ne 5, 3) := by decide +kernel
theorem dX6_compared_51 : decode cX6_compared 51 = .ok (.iconst 0, 1) := by decide +kernel
theorem dX6_compared_52 : decode cX6_compared 52 = .ok (.ireturn, 1) := by decide +kernel
theorem dX6_compared_53 : decode cX6_compared 53 = .ok (.aload_n 0, 1) := by decide +kernel
theorem dX6_compared_54 : decode cX6_compared 54 = .ok (.iconst 3, 1) := by decide +kernel
theorem dX6_compared_55 : decode cX6_compared 55 = .ok (.iload_n 1, 1) := by decide +kernel
theorem dX6_compared_56 : decode cX6_compared 56 = .ok (.invokevirtual 91, 3) := by decide +kernel
theorem dX6_compared_59 : decode cX6_compared 59 = .ok (.iconst 1, 1) := by decide +kernel
theorem dX6_compared_60 : decode cX6_compared 60 = .ok (.ireturn, 1) := by decide +kernel
theorem dX6_sum_0 : decode cX6_sum 0 = .ok (.aload_n 0, 1) := by decide +kernel
theorem dX6_sum_1 : decode cX6_sum 1 = .ok (.invokevirtual 101, 3) := by decide +kernel
theorem dX6_sum_4 : decode cX6_sum 4 = .ok (.ifCond .ne 5, 3) := by decide +kernel
theorem dX6_sum_7 : decode cX6_sum 7 = .ok (.iconst 0, 1) := by decide +kernel
theorem dX6_sum_8 : decode cX6_sum 8 = .ok (.ireturn, 1) := by decide +kernel
theorem dX6_sum_9 : decode cX6_sum 9 = .ok (.aload_n 0, 1) := by decide +kernel
theorem dX6_sum_10 : decode cX6_sum 10 = .ok (.invokevirtual 87, 3) := by decide +kernel
theorem dX6_sum_13 : decode cX6_sum 13 = .ok (.bipush 43, 2) := by decide +kernel
theorem dX6_sum_15 : decode cX6_sum 15 = .ok (.if_icmp .eq 12, 3) := by decide +kernel
theorem dX6_sum_18 : decode cX6_sum 18 = .ok (.aload_n 0, 1) := by decide +kernel
theorem dX6_sum_19 : decode cX6_sum 19 = .ok (.invokevirtual 87, 3) := by decide +kernel
theorem dX6_sum_22 : decode cX6_sum 22 = .ok (.bipush 45, 2) := by decide +kernel
theorem dX6_sum_24 : decode cX6_sum 24 = .ok (.if_icmp .ne 36, 3) := by decide +kernel
theorem dX6_sum_27 : decode cX6_sum 27 = .ok (.aload_n 0, 1) := by decide +kernel
theorem dX6_sum_28 : decode cX6_sum 28 = .ok (.invokevirtual 87, 3) := by decide +kernel
theorem dX6_sum_31 : decode cX6_sum 31 = .ok (.istore_n 1, 1) := by decide +kernel
theorem dX6_sum_32 : decode cX6_sum 32 = .ok (.aload_n 0, 1) := by decide +kernel
theorem dX6_sum_33 : decode cX6_sum 33 = .ok (.dup, 1) := by decide +kernel
theorem dX6_sum_34 : decode cX6_sum 34 = .ok (.getfield 73, 3) := by decide +kernel
theorem dX6_sum_37 : decode cX6_sum 37 = .ok (.iconst 1, 1) := by decide +kernel
theorem dX6_sum_38 : decode cX6_sum 38 = .ok (.iadd, 1) := by decide +kernel
theorem dX6_sum_39 : decode cX6_sum 39 = .ok (.putfield 73, 3) := by decide +kernel
theorem dX6_sum_42 : decode cX6_sum 42 = .ok (.aload_n 0, 1) := by decide +kernel
theorem dX6_sum_43 : decode cX6_sum 43 = .ok (.invokevirtual 101, 3) := by decide +kernel
theorem dX6_sum_46 : decode cX6_sum 46 = .ok (.ifCond .ne 5, 3) := by decide +kernel
theorem dX6_sum_49 : decode cX6_sum 49 = .ok (.iconst 0, 1) := by decide +kernel
theorem dX6_sum_50 : decode cX6_sum 50 = .ok (.ireturn, 1) := by decide +kernel
theorem dX6_sum_51 : decode cX6_sum 51 = .ok (.aload_n 0, 1) := by decide +kernel
theorem dX6_sum_52 : decode cX6_sum 52 = .ok (.iconst 3, 1) := by decide +kernel
theorem dX6_sum_53 : decode cX6_sum 53 = .ok (.iload_n 1, 1) := by decide +kernel
theorem dX6_sum_54 : decode cX6_sum 54 = .ok (.invokevirtual 91, 3) := by decide +kernel
theorem dX6_sum_57 : decode cX6_sum 57 = .ok (.goto (-48), 3) := by decide +kernel
theorem dX6_sum_60 : decode cX6_sum 60 = .ok (.iconst 1, 1) := by decide +kernel
theorem dX6_sum_61 : decode cX6_sum 61 = .ok (.ireturn, 1) := by decide +kernel
theorem dX6_product_0 : decode cX6_product 0 = .ok (.aload_n 0, 1) := by decide +kernel
theorem dX6_product_1 : decode cX6_product 1 = .ok (.invokevirtual 104, 3) := by decide +kernel
theorem dX6_product_4 : decode cX6_product 4 = .ok (.ifCond .ne 5, 3) := by decide +kernel
theorem dX6_product_7 : decode cX6_product 7 = .ok (.iconst 0, 1) := by decide +kernel
theorem dX6_product_8 : decode cX6_product 8 = .ok (.ireturn, 1) := by decide +kernel
theorem dX6_product_9 : decode cX6_product 9 = .ok (.aload_n 0, 1) := by decide +kernel
theorem dX6_product_10 : decode cX6_product 10 = .ok (.invokevirtual 87, 3) := by decide +kernel
theorem dX6_product_13 : decode cX6_product 13 = .ok (.bipush 42, 2) := by decide +kernel
theorem dX6_product_15 : decode cX6_product 15 = .ok (.if_icmp .eq 21, 3) := by decide +kernel
theorem dX6_product_18 : decode cX6_product 18 = .ok (.aload_n 0, 1) := by decide +kernel
theorem dX6_product_19 : decode cX6_product 19 = .ok (.invokevirtual 87, 3) := by decide +kernel
theorem dX6_product_22 : decode cX6_product 22 = .ok (.bipush 47, 2) := by decide +kernel
theorem dX6_product_24 : decode cX6_product 24 = .ok (.if_icmp .eq 12, 3) := by decide +kernel
theorem dX6_product_27 : decode cX6_product 27 = .ok (.aload_n 0, 1) := by decide +kernel
theorem dX6_product_28 : decode cX6_product 28 = .ok (.invokevirtual 87, 3) := by decide +kernel
theorem dX6_product_31 : decode cX6_product 31 = .ok (.bipush 37, 2) := by decide +kernel
theorem dX6_product_33 : decode cX6_product 33 = .ok (.if_icmp .ne 36, 3) := by decide +kernel
theorem dX6_product_36 : decode cX6_product 36 = .ok (.aload_n 0, 1) := by decide +kernel
theorem dX6_product_37 : decode cX6_product 37 = .ok (.invokevirtual 87, 3) := by decide +kernel
theorem dX6_product_40 : decode cX6_product 40 = .ok (.istore_n 1, 1) := by decide +kernel
theorem dX6_product_41 : decode cX6_product 41 = .ok (.aload_n 0, 1) := by decide +kernel
theorem dX6_product_42 : decode cX6_product 42 = .ok (.dup, 1) := by decide +kernel
theorem dX6_product_43 : decode cX6_product 43 = .ok (.getfield 73, 3) := by decide +kernel
theorem dX6_product_46 : decode cX6_product 46 = .ok (.iconst 1, 1) := by decide +kernel
theorem dX6_product_47 : decode cX6_product 47 = .ok (.iadd, 1) := by decide +kernel
theorem dX6_product_48 : decode cX6_product 48 = .ok (.putfield 73, 3) := by decide +kernel
theorem dX6_product_51 : decode cX6_product 51 = .ok (.aload_n 0, 1) := by decide +kernel
theorem dX6_product_52 : decode cX6_product 52 = .ok (.invokevirtual 104, 3) := by decide +kernel
theorem dX6_product_55 : decode cX6_product 55 = .ok (.ifCond .ne 5, 3) := by decide +kernel
theorem dX6_product_58 : decode cX6_product 58 = .ok (.iconst 0, 1) := by decide +kernel
theorem dX6_product_59 : decode cX6_product 59 = .ok (.ireturn, 1) := by decide +kernel
theorem dX6_product_60 : decode cX6_product 60 = .ok (.aload_n 0, 1) := by decide +kernel
theorem dX6_product_61 : decode cX6_product 61 = .ok (.iconst 3, 1) := by decide +kernel
theorem dX6_product_62 : decode cX6_product 62 = .ok (.iload_n 1, 1) := by decide +kernel
theorem dX6_product_63 : decode cX6_product 63 = .ok (.invokevirtual 91, 3) := by decide +kernel
theorem dX6_product_66 : decode cX6_product 66 = .ok (.goto (-57), 3) := by decide +kernel
theorem dX6_product_69 : decode cX6_product 69 = .ok (.iconst 1, 1) := by decide +kernel
theorem dX6_product_70 : decode cX6_product 70 = .ok (.ireturn, 1) := by decide +kernel
theorem dX6_opens_0 : decode cX6_opens 0 = .ok (.aload_n 0, 1) := by decide +kernel
theorem dX6_opens_1 : decode cX6_opens 1 = .ok (.getfield 107, 3) := by decide +kernel
theorem dX6_opens_4 : decode cX6_opens 4 = .ok (.iconst 5, 1) := by decide +kernel
theorem dX6_opens_5 : decode cX6_opens 5 = .ok (.if_icmp .ne 5, 3) := by decide +kernel
theorem dX6_opens_8 : decode cX6_opens 8 = .ok (.iconst 0, 1) := by decide +kernel
theorem dX6_opens_9 : decode cX6_opens 9 = .ok (.ireturn, 1) := by decide +kernel
theorem dX6_opens_10 : decode cX6_opens 10 = .ok (.aload_n 0, 1) := by decide +kernel
theorem dX6_opens_11 : decode cX6_opens 11 = .ok (.dup, 1) := by decide +kernel
theorem dX6_opens_12 : decode cX6_opens 12 = .ok (.getfield 107, 3) := by decide +kernel
theorem dX6_opens_15 : decode cX6_opens 15 = .ok (.iconst 1, 1) := by decide +kernel
theorem dX6_opens_16 : decode cX6_opens 16 = .ok (.iadd, 1) := by decide +kernel
theorem dX6_opens_17 : decode cX6_opens 17 = .ok (.putfield 107, 3) := by decide +kernel
theorem dX6_opens_20 : decode cX6_opens 20 = .ok (.aload_n 0, 1) := by decide +kernel
theorem dX6_opens_21 : decode cX6_opens 21 = .ok (.dup, 1) := by decide +kernel
theorem dX6_opens_22 : decode cX6_opens 22 = .ok (.getfield 73, 3) := by decide +kernel
theorem dX6_opens_25 : decode cX6_opens 25 = .ok (.iconst 1, 1) := by decide +kernel
theorem dX6_opens_26 : decode cX6_opens 26 = .ok (.iadd, 1) := by decide +kernel
theorem dX6_opens_27 : decode cX6_opens 27 = .ok (.putfield 73, 3) := by decide +kernel
theorem dX6_opens_30 : decode cX6_opens 30 = .ok (.iconst 1, 1) := by decide +kernel
theorem dX6_opens_31 : decode cX6_opens 31 = .ok (.ireturn, 1) := by decide +kernel
theorem dX6_one_0 : decode cX6_one 0 = .ok (.aload_n 0, 1) := by decide +kernel
theorem dX6_one_1 : decode cX6_one 1 = .ok (.invokevirtual 87, 3) := by decide +kernel
theorem dX6_one_4 : decode cX6_one 4 = .ok (.istore_n 1, 1) := by decide +kernel
theorem dX6_one_5 : decode cX6_one 5 = .ok (.aload_n 0, 1) := by decide +kernel
theorem dX6_one_6 : decode cX6_one 6 = .ok (.iload_n 1, 1) := by decide +kernel
theorem dX6_one_7 : decode cX6_one 7 = .ok (.invokevirtual 110, 3) := by decide +kernel
theorem dX6_one_10 : decode cX6_one 10 = .ok (.ifCond .eq 21, 3) := by decide +kernel
theorem dX6_one_13 : decode cX6_one 13 = .ok (.aload_n 0, 1) := by decide +kernel
theorem dX6_one_14 : decode cX6_one 14 = .ok (.dup, 1) := by decide +kernel
theorem dX6_one_15 : decode cX6_one 15 = .ok (.getfield 73, 3) := by decide +kernel
theorem dX6_one_18 : decode cX6_one 18 = .ok (.iconst 1, 1) := by decide +kernel
theorem dX6_one_19 : decode cX6_one 19 = .ok (.iadd, 1) := by decide +kernel
theorem dX6_one_20 : decode cX6_one 20 = .ok (.putfield 73, 3) := by decide +kernel
theorem dX6_one_23 : decode cX6_one 23 = .ok (.aload_n 0, 1) := by decide +kernel
theorem dX6_one_24 : decode cX6_one 24 = .ok (.iconst 1, 1) := by decide +kernel
theorem dX6_one_25 : decode cX6_one 25 = .ok (.iload_n 1, 1) := by decide +kernel
theorem dX6_one_26 : decode cX6_one 26 = .ok (.invokevirtual 91, 3) := by decide +kernel
theorem dX6_one_29 : decode cX6_one 29 = .ok (.iconst 1, 1) := by decide +kernel
theorem dX6_one_30 : decode cX6_one 30 = .ok (.ireturn, 1) := by decide +kernel
theorem dX6_one_31 : decode cX6_one 31 = .ok (.iload_n 1, 1) := by decide +kernel
theorem dX6_one_32 : decode cX6_one 32 = .ok (.bipush 48, 2) := by decide +kernel
theorem dX6_one_34 : decode cX6_one 34 = .ok (.bipush 57, 2) := by decide +kernel
theorem dX6_one_36 : decode cX6_one 36 = .ok (.invokestatic 50, 3) := by decide +kernel
theorem dX6_one_39 : decode cX6_one 39 = .ok (.ifCond .eq 63, 3) := by decide +kernel
theorem dX6_one_42 : decode cX6_one 42 = .ok (.iconst 0, 1) := by decide +kernel
theorem dX6_one_43 : decode cX6_one 43 = .ok (.istore_n 2, 1) := by decide +kernel
theorem dX6_one_44 : decode cX6_one 44 = .ok (.iconst 0, 1) := by decide +kernel
theorem dX6_one_45 : decode cX6_one 45 = .ok (.istore_n 3, 1) := by decide +kernel
theorem dX6_one_46 : decode cX6_one 46 = .ok (.iload_n 3, 1) := by decide +kernel
theorem dX6_one_47 : decode cX6_one 47 = .ok (.iconst 4, 1) := by decide +kernel
theorem dX6_one_48 : decode cX6_one 48 = .ok (.if_icmp .ge 46, 3) := by decide +kernel
theorem dX6_one_51 : decode cX6_one 51 = .ok (.aload_n 0, 1) := by decide +kernel
theorem dX6_one_52 : decode cX6_one 52 = .ok (.invokevirtual 87, 3) := by decide +kernel
theorem dX6_one_55 : decode cX6_one 55 = .ok (.bipush 48, 2) := by decide +kernel
theorem dX6_one_57 : decode cX6_one 57 = .ok (.bipush 57, 2) := by decide +kernel
theorem dX6_one_59 : decode cX6_one 59 = .ok (.invokestatic 50, 3) := by decide +kernel
theorem dX6_one_62 : decode cX6_one 62 = .ok (.ifCond .eq 32, 3) := by decide +kernel
theorem dX6_one_65 : decode cX6_one 65 = .ok (.bipush 10, 2) := by decide +kernel
theorem dX6_one_67 : decode cX6_one 67 = .ok (.iload_n 2, 1) := by decide +kernel
theorem dX6_one_68 : decode cX6_one 68 = .ok (.imul, 1) := by decide +kernel
theorem dX6_one_69 : decode cX6_one 69 = .ok (.aload_n 0, 1) := by decide +kernel
theorem dX6_one_70 : decode cX6_one 70 = .ok (.invokevirtual 87, 3) := by decide +kernel
theorem dX6_one_73 : decode cX6_one 73 = .ok (.iadd, 1) := by decide +kernel
theorem dX6_one_74 : decode cX6_one 74 = .ok (.bipush 48, 2) := by decide +kernel
theorem dX6_one_76 : decode cX6_one 76 = .ok (.isub, 1) := by decide +kernel
theorem dX6_one_77 : decode cX6_one 77 = .ok (.istore_n 2, 1) := by decide +kernel
theorem dX6_one_78 : decode cX6_one 78 = .ok (.aload_n 0, 1) := by decide +kernel
theorem dX6_one_79 : decode cX6_one 79 = .ok (.dup, 1) := by decide +kernel
theorem dX6_one_80 : decode cX6_one 80 = .ok (.getfield 73, 3) := by decide +kernel
theorem dX6_one_83 : decode cX6_one 83 = .ok (.iconst 1, 1) := by decide +kernel
theorem dX6_one_84 : decode cX6_one 84 = .ok (.iadd, 1) := by decide +kernel
theorem dX6_one_85 : decode cX6_one 85 = .ok (.putfield 73, 3) := by decide +kernel
theorem dX6_one_88 : decode cX6_one 88 = .ok (.iinc 3 1, 3) := by decide +kernel
theorem dX6_one_91 : decode cX6_one 91 = .ok (.goto (-45), 3) := by decide +kernel
theorem dX6_one_94 : decode cX6_one 94 = .ok (.aload_n 0, 1) := by decide +kernel
theorem dX6_one_95 : decode cX6_one 95 = .ok (.iconst 0, 1) := by decide +kernel
theorem dX6_one_96 : decode cX6_one 96 = .ok (.iload_n 2, 1) := by decide +kernel
theorem dX6_one_97 : decode cX6_one 97 = .ok (.invokevirtual 91, 3) := by decide +kernel
theorem dX6_one_100 : decode cX6_one 100 = .ok (.iconst 1, 1) := by decide +kernel
theorem dX6_one_101 : decode cX6_one 101 = .ok (.ireturn, 1) := by decide +kernel
theorem dX6_one_102 : decode cX6_one 102 = .ok (.iload_n 1, 1) := by decide +kernel
theorem dX6_one_103 : decode cX6_one 103 = .ok (.bipush 33, 2) := by decide +kernel
theorem dX6_one_105 : decode cX6_one 105 = .ok (.if_icmp .ne 37, 3) := by decide +kernel
theorem dX6_one_108 : decode cX6_one 108 = .ok (.aload_n 0, 1) := by decide +kernel
theorem dX6_one_109 : decode cX6_one 109 = .ok (.invokevirtual 114, 3) := by decide +kernel
theorem dX6_one_112 : decode cX6_one 112 = .ok (.ifCond .eq 10, 3) := by decide +kernel
theorem dX6_one_115 : decode cX6_one 115 = .ok (.aload_n 0, 1) := by decide +kernel
theorem dX6_one_116 : decode cX6_one 116 = .ok (.invokevirtual 104, 3) := by decide +kernel
theorem dX6_one_119 : decode cX6_one 119 = .ok (.ifCond .ne 5, 3) := by decide +kernel
theorem dX6_one_122 : decode cX6_one 122 = .ok (.iconst 0, 1) := by decide +kernel
theorem dX6_one_123 : decode cX6_one 123 = .ok (.ireturn, 1) := by decide +kernel
theorem dX6_one_124 : decode cX6_one 124 = .ok (.aload_n 0, 1) := by decide +kernel
theorem dX6_one_125 : decode cX6_one 125 = .ok (.dup, 1) := by decide +kernel
theorem dX6_one_126 : decode cX6_one 126 = .ok (.getfield 107, 3) := by decide +kernel
theorem dX6_one_129 : decode cX6_one 129 = .ok (.iconst 1, 1) := by decide +kernel
theorem dX6_one_130 : decode cX6_one 130 = .ok (.isub, 1) := by decide +kernel
theorem dX6_one_131 : decode cX6_one 131 = .ok (.putfield 107, 3) := by decide +kernel
theorem dX6_one_134 : decode cX6_one 134 = .ok (.aload_n 0, 1) := by decide +kernel
theorem dX6_one_135 : decode cX6_one 135 = .ok (.iconst 2, 1) := by decide +kernel
theorem dX6_one_136 : decode cX6_one 136 = .ok (.iconst 0, 1) := by decide +kernel
theorem dX6_one_137 : decode cX6_one 137 = .ok (.invokevirtual 91, 3) := by decide +kernel
theorem dX6_one_140 : decode cX6_one 140 = .ok (.iconst 1, 1) := by decide +kernel
theorem dX6_one_141 : decode cX6_one 141 = .ok (.ireturn, 1) := by decide +kernel
theorem dX6_one_142 : decode cX6_one 142 = .ok (.iload_n 1, 1) := by decide +kernel
theorem dX6_one_143 : decode cX6_one 143 = .ok (.bipush 40, 2) := by decide +kernel
theorem dX6_one_145 : decode cX6_one 145 = .ok (.if_icmp .ne 26, 3) := by decide +kernel
theorem dX6_one_148 : decode cX6_one 148 = .ok (.aload_n 0, 1) := by decide +kernel
theorem dX6_one_149 : decode cX6_one 149 = .ok (.invokevirtual 114, 3) := by decide +kernel
theorem dX6_one_152 : decode cX6_one 152 = .ok (.ifCond .eq 19, 3) := by decide +kernel
theorem dX6_one_155 : decode cX6_one 155 = .ok (.aload_n 0, 1) := by decide +kernel
theorem dX6_one_156 : decode cX6_one 156 = .ok (.invokevirtual 117, 3) := by decide +kernel
theorem dX6_one_159 : decode cX6_one 159 = .ok (.ifCond .eq 12, 3) := by decide +kernel
theorem dX6_one_162 : decode cX6_one 162 = .ok (.aload_n 0, 1) := by decide +kernel
theorem dX6_one_163 : decode cX6_one 163 = .ok (.invokevirtual 87, 3) := by decide +kernel
theorem dX6_one_166 : decode cX6_one 166 = .ok (.bipush 41, 2) := by decide +kernel
theorem dX6_one_168 : decode cX6_one 168 = .ok (.if_icmp .eq 5, 3) := by decide +kernel
theorem dX6_one_171 : decode cX6_one 171 = .ok (.iconst 0, 1) := by decide +kernel
theorem dX6_one_172 : decode cX6_one 172 = .ok (.ireturn, 1) := by decide +kernel
theorem dX6_one_173 : decode cX6_one 173 = .ok (.aload_n 0, 1) := by decide +kernel
theorem dX6_one_174 : decode cX6_one 174 = .ok (.dup, 1) := by decide +kernel
theorem dX6_one_175 : decode cX6_one 175 = .ok (.getfield 73, 3) := by decide +kernel
theorem dX6_one_178 : decode cX6_one 178 = .ok (.iconst 1, 1) := by decide +kernel
theorem dX6_one_179 : decode cX6_one 179 = .ok (.iadd, 1) := by decide +kernel
theorem dX6_one_180 : decode cX6_one 180 = .ok (.putfield 73, 3) := by decide +kernel
theorem dX6_one_183 : decode cX6_one 183 = .ok (.aload_n 0, 1) := by decide +kernel
theorem dX6_one_184 : decode cX6_one 184 = .ok (.dup, 1) := by decide +kernel
theorem dX6_one_185 : decode cX6_one 185 = .ok (.getfield 107, 3) := by decide +kernel
theorem dX6_one_188 : decode cX6_one 188 = .ok (.iconst 1, 1) := by decide +kernel
theorem dX6_one_189 : decode cX6_one 189 = .ok (.isub, 1) := by decide +kernel
theorem dX6_one_190 : decode cX6_one 190 = .ok (.putfield 107, 3) := by decide +kernel
theorem dX6_one_193 : decode cX6_one 193 = .ok (.iconst 1, 1) := by decide +kernel
theorem dX6_one_194 : decode cX6_one 194 = .ok (.ireturn, 1) := by decide +kernel
theorem dX6_hasText_0 : decode cX6_hasText 0 = .ok (.aload_n 0, 1) := by decide +kernel
theorem dX6_hasText_1 : decode cX6_hasText 1 = .ok (.getfield 7, 3) := by decide +kernel
theorem dX6_hasText_4 : decode cX6_hasText 4 = .ok (.sipush 168, 3) := by decide +kernel
theorem dX6_hasText_7 : decode cX6_hasText 7 = .ok (.bipush 125, 2) := by decide +kernel
theorem dX6_hasText_9 : decode cX6_hasText 9 = .ok (.iload_n 1, 1) := by decide +kernel
theorem dX6_hasText_10 : decode cX6_hasText 10 = .ok (.imul, 1) := by decide +kernel
theorem dX6_hasText_11 : decode cX6_hasText 11 = .ok (.iadd, 1) := by decide +kernel
theorem dX6_hasText_12 : decode cX6_hasText 12 = .ok (.iaload, 1) := by decide +kernel
theorem dX6_hasText_13 : decode cX6_hasText 13 = .ok (.ifCond .le 7, 3) := by decide +kernel
theorem dX6_hasText_16 : decode cX6_hasText 16 = .ok (.iconst 1, 1) := by decide +kernel
theorem dX6_hasText_17 : decode cX6_hasText 17 = .ok (.goto 4, 3) := by decide +kernel
theorem dX6_hasText_20 : decode cX6_hasText 20 = .ok (.iconst 0, 1) := by decide +kernel
theorem dX6_hasText_21 : decode cX6_hasText 21 = .ok (.ireturn, 1) := by decide +kernel
theorem dX6_text_0 : decode cX6_text 0 = .ok (.iload_n 1, 1) := by decide +kernel
theorem dX6_text_1 : decode cX6_text 1 = .ok (.iconst 0, 1) := by decide +kernel
theorem dX6_text_2 : decode cX6_text 2 = .ok (.iconst 1, 1) := by decide +kernel
theorem dX6_text_3 : decode cX6_text 3 = .ok (.invokestatic 50, 3) := by decide +kernel
theorem dX6_text_6 : decode cX6_text 6 = .ok (.ifCond .ne 9, 3) := by decide +kernel
theorem dX6_text_9 : decode cX6_text 9 = .ok (.aload_n 0, 1) := by decide +kernel
theorem dX6_text_10 : decode cX6_text 10 = .ok (.iconst 1, 1) := by decide +kernel
theorem dX6_text_11 : decode cX6_text 11 = .ok (.invokevirtual 68, 3) := by decide +kernel
theorem dX6_text_14 : decode cX6_text 14 = .ok (.ireturn, 1) := by decide +kernel
theorem dX6_text_15 : decode cX6_text 15 = .ok (.aload_n 0, 1) := by decide +kernel
theorem dX6_text_16 : decode cX6_text 16 = .ok (.iload_n 1, 1) := by decide +kernel
theorem dX6_text_17 : decode cX6_text 17 = .ok (.putfield 77, 3) := by decide +kernel
theorem dX6_text_20 : decode cX6_text 20 = .ok (.aload_n 0, 1) := by decide +kernel
theorem dX6_text_21 : decode cX6_text 21 = .ok (.iconst 0, 1) := by decide +kernel
theorem dX6_text_22 : decode cX6_text 22 = .ok (.putfield 73, 3) := by decide +kernel
theorem dX6_text_25 : decode cX6_text 25 = .ok (.aload_n 0, 1) := by decide +kernel
theorem dX6_text_26 : decode cX6_text 26 = .ok (.iconst 0, 1) := by decide +kernel
theorem dX6_text_27 : decode cX6_text 27 = .ok (.putfield 107, 3) := by decide +kernel
theorem dX6_text_30 : decode cX6_text 30 = .ok (.aload_n 0, 1) := by decide +kernel
theorem dX6_text_31 : decode cX6_text 31 = .ok (.iconst 0, 1) := by decide +kernel
theorem dX6_text_32 : decode cX6_text 32 = .ok (.putfield 80, 3) := by decide +kernel
theorem dX6_text_35 : decode cX6_text 35 = .ok (.aload_n 0, 1) := by decide +kernel
theorem dX6_text_36 : decode cX6_text 36 = .ok (.invokevirtual 117, 3) := by decide +kernel
theorem dX6_text_39 : decode cX6_text 39 = .ok (.ifCond .eq 20, 3) := by decide +kernel
theorem dX6_text_42 : decode cX6_text 42 = .ok (.aload_n 0, 1) := by decide +kernel
theorem dX6_text_43 : decode cX6_text 43 = .ok (.getfield 73, 3) := by decide +kernel
theorem dX6_text_46 : decode cX6_text 46 = .ok (.aload_n 0, 1) := by decide +kernel
theorem dX6_text_47 : decode cX6_text 47 = .ok (.getfield 7, 3) := by decide +kernel
theorem dX6_text_50 : decode cX6_text 50 = .ok (.iconst 5, 1) := by decide +kernel
theorem dX6_text_51 : decode cX6_text 51 = .ok (.iaload, 1) := by decide +kernel
theorem dX6_text_52 : decode cX6_text 52 = .ok (.if_icmp .ne 7, 3) := by decide +kernel
theorem dX6_text_55 : decode cX6_text 55 = .ok (.iconst 1, 1) := by decide +kernel
theorem dX6_text_56 : decode cX6_text 56 = .ok (.goto 4, 3) := by decide +kernel
theorem dX6_text_59 : decode cX6_text 59 = .ok (.iconst 0, 1) := by decide +kernel
theorem dX6_text_60 : decode cX6_text 60 = .ok (.istore_n 2, 1) := by decide +kernel
theorem dX6_text_61 : decode cX6_text 61 = .ok (.aload_n 0, 1) := by decide +kernel
theorem dX6_text_62 : decode cX6_text 62 = .ok (.getfield 7, 3) := by decide +kernel
theorem dX6_text_65 : decode cX6_text 65 = .ok (.iconst 5, 1) := by decide +kernel
theorem dX6_text_66 : decode cX6_text 66 = .ok (.iconst 0, 1) := by decide +kernel
theorem dX6_text_67 : decode cX6_text 67 = .ok (.iastore, 1) := by decide +kernel
theorem dX6_text_68 : decode cX6_text 68 = .ok (.iload_n 2, 1) := by decide +kernel
theorem dX6_text_69 : decode cX6_text 69 = .ok (.ifCond .ne 11, 3) := by decide +kernel
theorem dX6_text_72 : decode cX6_text 72 = .ok (.bipush (-10), 2) := by decide +kernel
theorem dX6_text_74 : decode cX6_text 74 = .ok (.aload_n 0, 1) := by decide +kernel
theorem dX6_text_75 : decode cX6_text 75 = .ok (.getfield 73, 3) := by decide +kernel
theorem dX6_text_78 : decode cX6_text 78 = .ok (.isub, 1) := by decide +kernel
theorem dX6_text_79 : decode cX6_text 79 = .ok (.ireturn, 1) := by decide +kernel
theorem dX6_text_80 : decode cX6_text 80 = .ok (.sipush 168, 3) := by decide +kernel
theorem dX6_text_83 : decode cX6_text 83 = .ok (.bipush 125, 2) := by decide +kernel
theorem dX6_text_85 : decode cX6_text 85 = .ok (.iload_n 1, 1) := by decide +kernel
theorem dX6_text_86 : decode cX6_text 86 = .ok (.imul, 1) := by decide +kernel
theorem dX6_text_87 : decode cX6_text 87 = .ok (.iadd, 1) := by decide +kernel
theorem dX6_text_88 : decode cX6_text 88 = .ok (.istore_n 3, 1) := by decide +kernel
theorem dX6_text_89 : decode cX6_text 89 = .ok (.aload_n 0, 1) := by decide +kernel
theorem dX6_text_90 : decode cX6_text 90 = .ok (.getfield 7, 3) := by decide +kernel
theorem dX6_text_93 : decode cX6_text 93 = .ok (.iload_n 3, 1) := by decide +kernel
theorem dX6_text_94 : decode cX6_text 94 = .ok (.aload_n 0, 1) := by decide +kernel
theorem dX6_text_95 : decode cX6_text 95 = .ok (.getfield 80, 3) := by decide +kernel
theorem dX6_text_98 : decode cX6_text 98 = .ok (.iastore, 1) := by decide +kernel
theorem dX6_text_99 : decode cX6_text 99 = .ok (.iconst 0, 1) := by decide +kernel
theorem dX6_text_100 : decode cX6_text 100 = .ok (.istore 4, 2) := by decide +kernel
theorem dX6_text_102 : decode cX6_text 102 = .ok (.iload 4, 2) := by decide +kernel
theorem dX6_text_104 : decode cX6_text 104 = .ok (.iconst 2, 1) := by decide +kernel
theorem dX6_text_105 : decode cX6_text 105 = .ok (.aload_n 0, 1) := by decide +kernel
theorem dX6_text_106 : decode cX6_text 106 = .ok (.getfield 80, 3) := by decide +kernel
theorem dX6_text_109 : decode cX6_text 109 = .ok (.imul, 1) := by decide +kernel
theorem dX6_text_110 : decode cX6_text 110 = .ok (.if_icmp .ge 27, 3) := by decide +kernel
theorem dX6_text_113 : decode cX6_text 113 = .ok (.aload_n 0, 1) := by decide +kernel
theorem dX6_text_114 : decode cX6_text 114 = .ok (.getfield 7, 3) := by decide +kernel
theorem dX6_text_117 : decode cX6_text 117 = .ok (.iload_n 3, 1) := by decide +kernel
theorem dX6_text_118 : decode cX6_text 118 = .ok (.iconst 1, 1) := by decide +kernel
theorem dX6_text_119 : decode cX6_text 119 = .ok (.iadd, 1) := by decide +kernel
theorem dX6_text_120 : decode cX6_text 120 = .ok (.iload 4, 2) := by decide +kernel
theorem dX6_text_122 : decode cX6_text 122 = .ok (.iadd, 1) := by decide +kernel
theorem dX6_text_123 : decode cX6_text 123 = .ok (.aload_n 0, 1) := by decide +kernel
theorem dX6_text_124 : decode cX6_text 124 = .ok (.getfield 22, 3) := by decide +kernel
theorem dX6_text_127 : decode cX6_text 127 = .ok (.iload 4, 2) := by decide +kernel
theorem dX6_text_129 : decode cX6_text 129 = .ok (.iaload, 1) := by decide +kernel
theorem dX6_text_130 : decode cX6_text 130 = .ok (.iastore, 1) := by decide +kernel
theorem dX6_text_131 : decode cX6_text 131 = .ok (.iinc 4 1, 3) := by decide +kernel
theorem dX6_text_134 : decode cX6_text 134 = .ok (.goto (-32), 3) := by decide +kernel
theorem dX6_text_137 : decode cX6_text 137 = .ok (.iconst 1, 1) := by decide +kernel
theorem dX6_text_138 : decode cX6_text 138 = .ok (.ireturn, 1) := by decide +kernel
theorem dX6_untell_0 : decode cX6_untell 0 = .ok (.iload_n 1, 1) := by decide +kernel
theorem dX6_untell_1 : decode cX6_untell 1 = .ok (.iconst 0, 1) := by decide +kernel
theorem dX6_untell_2 : decode cX6_untell 2 = .ok (.iconst 1, 1) := by decide +kernel
theorem dX6_untell_3 : decode cX6_untell 3 = .ok (.invokestatic 50, 3) := by decide +kernel
theorem dX6_untell_6 : decode cX6_untell 6 = .ok (.ifCond .ne 9, 3) := by decide +kernel
theorem dX6_untell_9 : decode cX6_untell 9 = .ok (.aload_n 0, 1) := by decide +kernel
theorem dX6_untell_10 : decode cX6_untell 10 = .ok (.iconst 1, 1) := by decide +kernel
theorem dX6_untell_11 : decode cX6_untell 11 = .ok (.invokevirtual 68, 3) := by decide +kernel
theorem dX6_untell_14 : decode cX6_untell 14 = .ok (.ireturn, 1) := by decide +kernel
theorem dX6_untell_15 : decode cX6_untell 15 = .ok (.aload_n 0, 1) := by decide +kernel
theorem dX6_untell_16 : decode cX6_untell 16 = .ok (.iload_n 1, 1) := by decide +kernel
theorem dX6_untell_17 : decode cX6_untell 17 = .ok (.invokevirtual 120, 3) := by decide +kernel
theorem dX6_untell_20 : decode cX6_untell 20 = .ok (.ifCond .eq 7, 3) := by decide +kernel
theorem dX6_untell_23 : decode cX6_untell 23 = .ok (.iconst 1, 1) := by decide +kernel
theorem dX6_untell_24 : decode cX6_untell 24 = .ok (.goto 4, 3) := by decide +kernel
theorem dX6_untell_27 : decode cX6_untell 27 = .ok (.iconst 0, 1) := by decide +kernel
theorem dX6_untell_28 : decode cX6_untell 28 = .ok (.istore_n 2, 1) := by decide +kernel
theorem dX6_untell_29 : decode cX6_untell 29 = .ok (.aload_n 0, 1) := by decide +kernel
theorem dX6_untell_30 : decode cX6_untell 30 = .ok (.getfield 7, 3) := by decide +kernel
theorem dX6_untell_33 : decode cX6_untell 33 = .ok (.sipush 168, 3) := by decide +kernel
theorem dX6_untell_36 : decode cX6_untell 36 = .ok (.bipush 125, 2) := by decide +kernel
theorem dX6_untell_38 : decode cX6_untell 38 = .ok (.iload_n 1, 1) := by decide +kernel
theorem dX6_untell_39 : decode cX6_untell 39 = .ok (.imul, 1) := by decide +kernel
theorem dX6_untell_40 : decode cX6_untell 40 = .ok (.iadd, 1) := by decide +kernel
theorem dX6_untell_41 : decode cX6_untell 41 = .ok (.iconst 0, 1) := by decide +kernel
theorem dX6_untell_42 : decode cX6_untell 42 = .ok (.iastore, 1) := by decide +kernel
theorem dX6_untell_43 : decode cX6_untell 43 = .ok (.iload_n 2, 1) := by decide +kernel
theorem dX6_untell_44 : decode cX6_untell 44 = .ok (.ireturn, 1) := by decide +kernel
theorem dX6_joined_0 : decode cX6_joined 0 = .ok (.iload_n 0, 1) := by decide +kernel
theorem dX6_joined_1 : decode cX6_joined 1 = .ok (.tableswitch 217 37 62 #[153, 203, 217, 217, 217, 127, 119, 217, 123, 217, 131, 217, 217, 217, 217, 217, 217, 217, 217, 217, 217, 217, 217, 170, 192, 181], 119) := by decide +kernel
theorem dX6_joined_120 : decode cX6_joined 120 = .ok (.iload_n 1, 1) := by decide +kernel
theorem dX6_joined_121 : decode cX6_joined 121 = .ok (.iload_n 2, 1) := by decide +kernel
theorem dX6_joined_122 : decode cX6_joined 122 = .ok (.iadd, 1) := by decide +kernel
theorem dX6_joined_123 : decode cX6_joined 123 = .ok (.ireturn, 1) := by decide +kernel
theorem dX6_joined_124 : decode cX6_joined 124 = .ok (.iload_n 1, 1) := by decide +kernel
theorem dX6_joined_125 : decode cX6_joined 125 = .ok (.iload_n 2, 1) := by decide +kernel
theorem dX6_joined_126 : decode cX6_joined 126 = .ok (.isub, 1) := by decide +kernel
theorem dX6_joined_127 : decode cX6_joined 127 = .ok (.ireturn, 1) := by decide +kernel
theorem dX6_joined_128 : decode cX6_joined 128 = .ok (.iload_n 1, 1) := by decide +kernel
theorem dX6_joined_129 : decode cX6_joined 129 = .ok (.iload_n 2, 1) := by decide +kernel
theorem dX6_joined_130 : decode cX6_joined 130 = .ok (.imul, 1) := by decide +kernel
theorem dX6_joined_131 : decode cX6_joined 131 = .ok (.ireturn, 1) := by decide +kernel
theorem dX6_joined_132 : decode cX6_joined 132 = .ok (.iload_n 2, 1) := by decide +kernel
theorem dX6_joined_133 : decode cX6_joined 133 = .ok (.ifCond .ne 7, 3) := by decide +kernel
theorem dX6_joined_136 : decode cX6_joined 136 = .ok (.iconst 0, 1) := by decide +kernel
theorem dX6_joined_137 : decode cX6_joined 137 = .ok (.goto 16, 3) := by decide +kernel
theorem dX6_joined_140 : decode cX6_joined 140 = .ok (.iload_n 2, 1) := by decide +kernel
theorem dX6_joined_141 : decode cX6_joined 141 = .ok (.iconst (-1), 1) := by decide +kernel
theorem dX6_joined_142 : decode cX6_joined 142 = .ok (.if_icmp .ne 8, 3) := by decide +kernel
theorem dX6_joined_145 : decode cX6_joined 145 = .ok (.iload_n 1, 1) := by decide +kernel
theorem dX6_joined_146 : decode cX6_joined 146 = .ok (.ineg, 1) := by decide +kernel
theorem dX6_joined_147 : decode cX6_joined 147 = .ok (.goto 6, 3) := by decide +kernel
theorem dX6_joined_150 : decode cX6_joined 150 = .ok (.iload_n 1, 1) := by decide +kernel
theorem dX6_joined_151 : decode cX6_joined 151 = .ok (.iload_n 2, 1) := by decide +kernel
theorem dX6_joined_152 : decode cX6_joined 152 = .ok (.idiv, 1) := by decide +kernel
theorem dX6_joined_153 : decode cX6_joined 153 = .ok (.ireturn, 1) := by decide +kernel
theorem dX6_joined_154 : decode cX6_joined 154 = .ok (.iload_n 2, 1) := by decide +kernel
theorem dX6_joined_155 : decode cX6_joined 155 = .ok (.ifCond .eq 8, 3) := by decide +kernel
theorem dX6_joined_158 : decode cX6_joined 158 = .ok (.iload_n 2, 1) := by decide +kernel
theorem dX6_joined_159 : decode cX6_joined 159 = .ok (.iconst (-1), 1) := by decide +kernel
theorem dX6_joined_160 : decode cX6_joined 160 = .ok (.if_icmp .ne 7, 3) := by decide +kernel
theorem dX6_joined_163 : decode cX6_joined 163 = .ok (.iconst 0, 1) := by decide +kernel
theorem dX6_joined_164 : decode cX6_joined 164 = .ok (.goto 6, 3) := by decide +kernel
theorem dX6_joined_167 : decode cX6_joined 167 = .ok (.iload_n 1, 1) := by decide +kernel
theorem dX6_joined_168 : decode cX6_joined 168 = .ok (.iload_n 2, 1) := by decide +kernel
theorem dX6_joined_169 : decode cX6_joined 169 = .ok (.irem, 1) := by decide +kernel
theorem dX6_joined_170 : decode cX6_joined 170 = .ok (.ireturn, 1) := by decide +kernel
theorem dX6_joined_171 : decode cX6_joined 171 = .ok (.iload_n 1, 1) := by decide +kernel
theorem dX6_joined_172 : decode cX6_joined 172 = .ok (.iload_n 2, 1) := by decide +kernel
theorem dX6_joined_173 : decode cX6_joined 173 = .ok (.if_icmp .ge 7, 3) := by decide +kernel
theorem dX6_joined_176 : decode cX6_joined 176 = .ok (.iconst 1, 1) := by decide +kernel
theorem dX6_joined_177 : decode cX6_joined 177 = .ok (.goto 4, 3) := by decide +kernel
theorem dX6_joined_180 : decode cX6_joined 180 = .ok (.iconst 0, 1) := by decide +kernel
theorem dX6_joined_181 : decode cX6_joined 181 = .ok (.ireturn, 1) := by decide +kernel
theorem dX6_joined_182 : decode cX6_joined 182 = .ok (.iload_n 1, 1) := by decide +kernel
theorem dX6_joined_183 : decode cX6_joined 183 = .ok (.iload_n 2, 1) := by decide +kernel
theorem dX6_joined_184 : decode cX6_joined 184 = .ok (.if_icmp .le 7, 3) := by decide +kernel
theorem dX6_joined_187 : decode cX6_joined 187 = .ok (.iconst 1, 1) := by decide +kernel
theorem dX6_joined_188 : decode cX6_joined 188 = .ok (.goto 4, 3) := by decide +kernel
theorem dX6_joined_191 : decode cX6_joined 191 = .ok (.iconst 0, 1) := by decide +kernel
theorem dX6_joined_192 : decode cX6_joined 192 = .ok (.ireturn, 1) := by decide +kernel
theorem dX6_joined_193 : decode cX6_joined 193 = .ok (.iload_n 1, 1) := by decide +kernel
theorem dX6_joined_194 : decode cX6_joined 194 = .ok (.iload_n 2, 1) := by decide +kernel
theorem dX6_joined_195 : decode cX6_joined 195 = .ok (.if_icmp .ne 7, 3) := by decide +kernel
theorem dX6_joined_198 : decode cX6_joined 198 = .ok (.iconst 1, 1) := by decide +kernel
theorem dX6_joined_199 : decode cX6_joined 199 = .ok (.goto 4, 3) := by decide +kernel
theorem dX6_joined_202 : decode cX6_joined 202 = .ok (.iconst 0, 1) := by decide +kernel
theorem dX6_joined_203 : decode cX6_joined 203 = .ok (.ireturn, 1) := by decide +kernel
theorem dX6_joined_204 : decode cX6_joined 204 = .ok (.iload_n 1, 1) := by decide +kernel
theorem dX6_joined_205 : decode cX6_joined 205 = .ok (.ifCond .eq 11, 3) := by decide +kernel
theorem dX6_joined_208 : decode cX6_joined 208 = .ok (.iload_n 2, 1) := by decide +kernel
theorem dX6_joined_209 : decode cX6_joined 209 = .ok (.ifCond .eq 7, 3) := by decide +kernel
theorem dX6_joined_212 : decode cX6_joined 212 = .ok (.iconst 1, 1) := by decide +kernel
theorem dX6_joined_213 : decode cX6_joined 213 = .ok (.goto 4, 3) := by decide +kernel
theorem dX6_joined_216 : decode cX6_joined 216 = .ok (.iconst 0, 1) := by decide +kernel
theorem dX6_joined_217 : decode cX6_joined 217 = .ok (.ireturn, 1) := by decide +kernel
theorem dX6_joined_218 : decode cX6_joined 218 = .ok (.iload_n 1, 1) := by decide +kernel
theorem dX6_joined_219 : decode cX6_joined 219 = .ok (.ifCond .ne 7, 3) := by decide +kernel
theorem dX6_joined_222 : decode cX6_joined 222 = .ok (.iload_n 2, 1) := by decide +kernel
theorem dX6_joined_223 : decode cX6_joined 223 = .ok (.ifCond .eq 7, 3) := by decide +kernel
theorem dX6_joined_226 : decode cX6_joined 226 = .ok (.iconst 1, 1) := by decide +kernel
theorem dX6_joined_227 : decode cX6_joined 227 = .ok (.goto 4, 3) := by decide +kernel
theorem dX6_joined_230 : decode cX6_joined 230 = .ok (.iconst 0, 1) := by decide +kernel
theorem dX6_joined_231 : decode cX6_joined 231 = .ok (.ireturn, 1) := by decide +kernel
theorem dX6_worked_0 : decode cX6_worked 0 = .ok (.sipush 168, 3) := by decide +kernel
theorem dX6_worked_3 : decode cX6_worked 3 = .ok (.bipush 125, 2) := by decide +kernel
theorem dX6_worked_5 : decode cX6_worked 5 = .ok (.iload_n 1, 1) := by decide +kernel
theorem dX6_worked_6 : decode cX6_worked 6 = .ok (.imul, 1) := by decide +kernel
theorem dX6_worked_7 : decode cX6_worked 7 = .ok (.iadd, 1) := by decide +kernel
theorem dX6_worked_8 : decode cX6_worked 8 = .ok (.istore_n 2, 1) := by decide +kernel
theorem dX6_worked_9 : decode cX6_worked 9 = .ok (.iconst 0, 1) := by decide +kernel
theorem dX6_worked_10 : decode cX6_worked 10 = .ok (.istore_n 3, 1) := by decide +kernel
theorem dX6_worked_11 : decode cX6_worked 11 = .ok (.iconst 0, 1) := by decide +kernel
theorem dX6_worked_12 : decode cX6_worked 12 = .ok (.istore 4, 2) := by decide +kernel
theorem dX6_worked_14 : decode cX6_worked 14 = .ok (.iload 4, 2) := by decide +kernel
theorem dX6_worked_16 : decode cX6_worked 16 = .ok (.aload_n 0, 1) := by decide +kernel
theorem dX6_worked_17 : decode cX6_worked 17 = .ok (.getfield 7, 3) := by decide +kernel
theorem dX6_worked_20 : decode cX6_worked 20 = .ok (.iload_n 2, 1) := by decide +kernel
theorem dX6_worked_21 : decode cX6_worked 21 = .ok (.iaload, 1) := by decide +kernel
theorem dX6_worked_22 : decode cX6_worked 22 = .ok (.if_icmp .ge 142, 3) := by decide +kernel
theorem dX6_worked_25 : decode cX6_worked 25 = .ok (.aload_n 0, 1) := by decide +kernel
theorem dX6_worked_26 : decode cX6_worked 26 = .ok (.getfield 7, 3) := by decide +kernel
theorem dX6_worked_29 : decode cX6_worked 29 = .ok (.iload_n 2, 1) := by decide +kernel
theorem dX6_worked_30 : decode cX6_worked 30 = .ok (.iconst 1, 1) := by decide +kernel
theorem dX6_worked_31 : decode cX6_worked 31 = .ok (.iadd, 1) := by decide +kernel
theorem dX6_worked_32 : decode cX6_worked 32 = .ok (.iconst 2, 1) := by decide +kernel
theorem dX6_worked_33 : decode cX6_worked 33 = .ok (.iload 4, 2) := by decide +kernel
theorem dX6_worked_35 : decode cX6_worked 35 = .ok (.imul, 1) := by decide +kernel
theorem dX6_worked_36 : decode cX6_worked 36 = .ok (.iadd, 1) := by decide +kernel
theorem dX6_worked_37 : decode cX6_worked 37 = .ok (.iaload, 1) := by decide +kernel
theorem dX6_worked_38 : decode cX6_worked 38 = .ok (.istore 5, 2) := by decide +kernel
theorem dX6_worked_40 : decode cX6_worked 40 = .ok (.aload_n 0, 1) := by decide +kernel
theorem dX6_worked_41 : decode cX6_worked 41 = .ok (.getfield 7, 3) := by decide +kernel
theorem dX6_worked_44 : decode cX6_worked 44 = .ok (.iload_n 2, 1) := by decide +kernel
theorem dX6_worked_45 : decode cX6_worked 45 = .ok (.iconst 2, 1) := by decide +kernel
theorem dX6_worked_46 : decode cX6_worked 46 = .ok (.iadd, 1) := by decide +kernel
theorem dX6_worked_47 : decode cX6_worked 47 = .ok (.iconst 2, 1) := by decide +kernel
theorem dX6_worked_48 : decode cX6_worked 48 = .ok (.iload 4, 2) := by decide +kernel
theorem dX6_worked_50 : decode cX6_worked 50 = .ok (.imul, 1) := by decide +kernel
theorem dX6_worked_51 : decode cX6_worked 51 = .ok (.iadd, 1) := by decide +kernel
theorem dX6_worked_52 : decode cX6_worked 52 = .ok (.iaload, 1) := by decide +kernel
theorem dX6_worked_53 : decode cX6_worked 53 = .ok (.istore 6, 2) := by decide +kernel
theorem dX6_worked_55 : decode cX6_worked 55 = .ok (.iload 5, 2) := by decide +kernel
theorem dX6_worked_57 : decode cX6_worked 57 = .ok (.ifCond .eq 9, 3) := by decide +kernel
theorem dX6_worked_60 : decode cX6_worked 60 = .ok (.iload 5, 2) := by decide +kernel
theorem dX6_worked_62 : decode cX6_worked 62 = .ok (.iconst 1, 1) := by decide +kernel
theorem dX6_worked_63 : decode cX6_worked 63 = .ok (.if_icmp .ne 32, 3) := by decide +kernel
theorem dX6_worked_66 : decode cX6_worked 66 = .ok (.aload_n 0, 1) := by decide +kernel
theorem dX6_worked_67 : decode cX6_worked 67 = .ok (.getfield 28, 3) := by decide +kernel
theorem dX6_worked_70 : decode cX6_worked 70 = .ok (.iload_n 3, 1) := by decide +kernel
theorem dX6_worked_71 : decode cX6_worked 71 = .ok (.iload 5, 2) := by decide +kernel
theorem dX6_worked_73 : decode cX6_worked 73 = .ok (.ifCond .ne 8, 3) := by decide +kernel
theorem dX6_worked_76 : decode cX6_worked 76 = .ok (.iload 6, 2) := by decide +kernel
theorem dX6_worked_78 : decode cX6_worked 78 = .ok (.goto 10, 3) := by decide +kernel
theorem dX6_worked_81 : decode cX6_worked 81 = .ok (.aload_n 0, 1) := by decide +kernel
theorem dX6_worked_82 : decode cX6_worked 82 = .ok (.getfield 25, 3) := by decide +kernel
theorem dX6_worked_85 : decode cX6_worked 85 = .ok (.iload 6, 2) := by decide +kernel
theorem dX6_worked_87 : decode cX6_worked 87 = .ok (.iaload, 1) := by decide +kernel
theorem dX6_worked_88 : decode cX6_worked 88 = .ok (.iastore, 1) := by decide +kernel
theorem dX6_worked_89 : decode cX6_worked 89 = .ok (.iinc 3 1, 3) := by decide +kernel
theorem dX6_worked_92 : decode cX6_worked 92 = .ok (.goto 66, 3) := by decide +kernel
theorem dX6_worked_95 : decode cX6_worked 95 = .ok (.iload 5, 2) := by decide +kernel
theorem dX6_worked_97 : decode cX6_worked 97 = .ok (.iconst 2, 1) := by decide +kernel
theorem dX6_worked_98 : decode cX6_worked 98 = .ok (.if_icmp .ne 30, 3) := by decide +kernel
theorem dX6_worked_101 : decode cX6_worked 101 = .ok (.aload_n 0, 1) := by decide +kernel
theorem dX6_worked_102 : decode cX6_worked 102 = .ok (.getfield 28, 3) := by decide +kernel
theorem dX6_worked_105 : decode cX6_worked 105 = .ok (.iload_n 3, 1) := by decide +kernel
theorem dX6_worked_106 : decode cX6_worked 106 = .ok (.iconst 1, 1) := by decide +kernel
theorem dX6_worked_107 : decode cX6_worked 107 = .ok (.isub, 1) := by decide +kernel
theorem dX6_worked_108 : decode cX6_worked 108 = .ok (.aload_n 0, 1) := by decide +kernel
theorem dX6_worked_109 : decode cX6_worked 109 = .ok (.getfield 28, 3) := by decide +kernel
theorem dX6_worked_112 : decode cX6_worked 112 = .ok (.iload_n 3, 1) := by decide +kernel
theorem dX6_worked_113 : decode cX6_worked 113 = .ok (.iconst 1, 1) := by decide +kernel
theorem dX6_worked_114 : decode cX6_worked 114 = .ok (.isub, 1) := by decide +kernel
theorem dX6_worked_115 : decode cX6_worked 115 = .ok (.iaload, 1) := by decide +kernel
theorem dX6_worked_116 : decode cX6_worked 116 = .ok (.ifCond .ne 7, 3) := by decide +kernel
theorem dX6_worked_119 : decode cX6_worked 119 = .ok (.iconst 1, 1) := by decide +kernel
theorem dX6_worked_120 : decode cX6_worked 120 = .ok (.goto 4, 3) := by decide +kernel
theorem dX6_worked_123 : decode cX6_worked 123 = .ok (.iconst 0, 1) := by decide +kernel
theorem dX6_worked_124 : decode cX6_worked 124 = .ok (.iastore, 1) := by decide +kernel
theorem dX6_worked_125 : decode cX6_worked 125 = .ok (.goto 33, 3) := by decide +kernel
theorem dX6_worked_128 : decode cX6_worked 128 = .ok (.iinc 3 (-1), 3) := by decide +kernel
theorem dX6_worked_131 : decode cX6_worked 131 = .ok (.aload_n 0, 1) := by decide +kernel
theorem dX6_worked_132 : decode cX6_worked 132 = .ok (.getfield 28, 3) := by decide +kernel
theorem dX6_worked_135 : decode cX6_worked 135 = .ok (.iload_n 3, 1) := by decide +kernel
theorem dX6_worked_136 : decode cX6_worked 136 = .ok (.iconst 1, 1) := by decide +kernel
theorem dX6_worked_137 : decode cX6_worked 137 = .ok (.isub, 1) := by decide +kernel
theorem dX6_worked_138 : decode cX6_worked 138 = .ok (.iload 6, 2) := by decide +kernel
theorem dX6_worked_140 : decode cX6_worked 140 = .ok (.aload_n 0, 1) := by decide +kernel
theorem dX6_worked_141 : decode cX6_worked 141 = .ok (.getfield 28, 3) := by decide +kernel
theorem dX6_worked_144 : decode cX6_worked 144 = .ok (.iload_n 3, 1) := by decide +kernel
theorem dX6_worked_145 : decode cX6_worked 145 = .ok (.iconst 1, 1) := by decide +kernel
theorem dX6_worked_146 : decode cX6_worked 146 = .ok (.isub, 1) := by decide +kernel
theorem dX6_worked_147 : decode cX6_worked 147 = .ok (.iaload, 1) := by decide +kernel
theorem dX6_worked_148 : decode cX6_worked 148 = .ok (.aload_n 0, 1) := by decide +kernel
theorem dX6_worked_149 : decode cX6_worked 149 = .ok (.getfield 28, 3) := by decide +kernel
theorem dX6_worked_152 : decode cX6_worked 152 = .ok (.iload_n 3, 1) := by decide +kernel
theorem dX6_worked_153 : decode cX6_worked 153 = .ok (.iaload, 1) := by decide +kernel
theorem dX6_worked_154 : decode cX6_worked 154 = .ok (.invokestatic 123, 3) := by decide +kernel
theorem dX6_worked_157 : decode cX6_worked 157 = .ok (.iastore, 1) := by decide +kernel
theorem dX6_worked_158 : decode cX6_worked 158 = .ok (.iinc 4 1, 3) := by decide +kernel
theorem dX6_worked_161 : decode cX6_worked 161 = .ok (.goto (-147), 3) := by decide +kernel
theorem dX6_worked_164 : decode cX6_worked 164 = .ok (.aload_n 0, 1) := by decide +kernel
theorem dX6_worked_165 : decode cX6_worked 165 = .ok (.getfield 28, 3) := by decide +kernel
theorem dX6_worked_168 : decode cX6_worked 168 = .ok (.iconst 0, 1) := by decide +kernel
theorem dX6_worked_169 : decode cX6_worked 169 = .ok (.iaload, 1) := by decide +kernel
theorem dX6_worked_170 : decode cX6_worked 170 = .ok (.ireturn, 1) := by decide +kernel
theorem dX6_needsTold_0 : decode cX6_needsTold 0 = .ok (.aload_n 0, 1) := by decide +kernel
theorem dX6_needsTold_1 : decode cX6_needsTold 1 = .ok (.iconst 0, 1) := by decide +kernel
theorem dX6_needsTold_2 : decode cX6_needsTold 2 = .ok (.invokevirtual 120, 3) := by decide +kernel
theorem dX6_needsTold_5 : decode cX6_needsTold 5 = .ok (.ifCond .ne 13, 3) := by decide +kernel
theorem dX6_needsTold_8 : decode cX6_needsTold 8 = .ok (.bipush 20, 2) := by decide +kernel
theorem dX6_needsTold_10 : decode cX6_needsTold 10 = .ok (.aload_n 0, 1) := by decide +kernel
theorem dX6_needsTold_11 : decode cX6_needsTold 11 = .ok (.iload_n 1, 1) := by decide +kernel
theorem dX6_needsTold_12 : decode cX6_needsTold 12 = .ok (.iconst 1, 1) := by decide +kernel
theorem dX6_needsTold_13 : decode cX6_needsTold 13 = .ok (.invokevirtual 62, 3) := by decide +kernel
theorem dX6_needsTold_16 : decode cX6_needsTold 16 = .ok (.iadd, 1) := by decide +kernel
theorem dX6_needsTold_17 : decode cX6_needsTold 17 = .ok (.ireturn, 1) := by decide +kernel
theorem dX6_needsTold_18 : decode cX6_needsTold 18 = .ok (.aload_n 0, 1) := by decide +kernel
theorem dX6_needsTold_19 : decode cX6_needsTold 19 = .ok (.iload_n 1, 1) := by decide +kernel
theorem dX6_needsTold_20 : decode cX6_needsTold 20 = .ok (.iconst 3, 1) := by decide +kernel
theorem dX6_needsTold_21 : decode cX6_needsTold 21 = .ok (.invokevirtual 62, 3) := by decide +kernel
theorem dX6_needsTold_24 : decode cX6_needsTold 24 = .ok (.ifCond .lt 7, 3) := by decide +kernel
theorem dX6_needsTold_27 : decode cX6_needsTold 27 = .ok (.iconst 1, 1) := by decide +kernel
theorem dX6_needsTold_28 : decode cX6_needsTold 28 = .ok (.goto 4, 3) := by decide +kernel
theorem dX6_needsTold_31 : decode cX6_needsTold 31 = .ok (.iconst 0, 1) := by decide +kernel
theorem dX6_needsTold_32 : decode cX6_needsTold 32 = .ok (.istore_n 2, 1) := by decide +kernel
theorem dX6_needsTold_33 : decode cX6_needsTold 33 = .ok (.aload_n 0, 1) := by decide +kernel
theorem dX6_needsTold_34 : decode cX6_needsTold 34 = .ok (.getfield 25, 3) := by decide +kernel
theorem dX6_needsTold_37 : decode cX6_needsTold 37 = .ok (.bipush 109, 2) := by decide +kernel
theorem dX6_needsTold_39 : decode cX6_needsTold 39 = .ok (.aload_n 0, 1) := by decide +kernel
theorem dX6_needsTold_40 : decode cX6_needsTold 40 = .ok (.iload_n 1, 1) := by decide +kernel
theorem dX6_needsTold_41 : decode cX6_needsTold 41 = .ok (.iconst 1, 1) := by decide +kernel
theorem dX6_needsTold_42 : decode cX6_needsTold 42 = .ok (.invokevirtual 62, 3) := by decide +kernel
theorem dX6_needsTold_45 : decode cX6_needsTold 45 = .ok (.iastore, 1) := by decide +kernel
theorem dX6_needsTold_46 : decode cX6_needsTold 46 = .ok (.aload_n 0, 1) := by decide +kernel
theorem dX6_needsTold_47 : decode cX6_needsTold 47 = .ok (.getfield 25, 3) := by decide +kernel
theorem dX6_needsTold_50 : decode cX6_needsTold 50 = .ok (.bipush 111, 2) := by decide +kernel
theorem dX6_needsTold_52 : decode cX6_needsTold 52 = .ok (.iload_n 2, 1) := by decide +kernel
theorem dX6_needsTold_53 : decode cX6_needsTold 53 = .ok (.ifCond .eq 11, 3) := by decide +kernel
theorem dX6_needsTold_56 : decode cX6_needsTold 56 = .ok (.aload_n 0, 1) := by decide +kernel
theorem dX6_needsTold_57 : decode cX6_needsTold 57 = .ok (.iload_n 1, 1) := by decide +kernel
theorem dX6_needsTold_58 : decode cX6_needsTold 58 = .ok (.invokevirtual 127, 3) := by decide +kernel
theorem dX6_needsTold_61 : decode cX6_needsTold 61 = .ok (.goto 4, 3) := by decide +kernel
theorem dX6_needsTold_64 : decode cX6_needsTold 64 = .ok (.iconst 0, 1) := by decide +kernel
theorem dX6_needsTold_65 : decode cX6_needsTold 65 = .ok (.iastore, 1) := by decide +kernel
theorem dX6_needsTold_66 : decode cX6_needsTold 66 = .ok (.aload_n 0, 1) := by decide +kernel
theorem dX6_needsTold_67 : decode cX6_needsTold 67 = .ok (.getfield 25, 3) := by decide +kernel
theorem dX6_needsTold_70 : decode cX6_needsTold 70 = .ok (.bipush 117, 2) := by decide +kernel
theorem dX6_needsTold_72 : decode cX6_needsTold 72 = .ok (.iload_n 2, 1) := by decide +kernel
theorem dX6_needsTold_73 : decode cX6_needsTold 73 = .ok (.ifCond .eq 11, 3) := by decide +kernel
theorem dX6_needsTold_76 : decode cX6_needsTold 76 = .ok (.aload_n 0, 1) := by decide +kernel
theorem dX6_needsTold_77 : decode cX6_needsTold 77 = .ok (.iload_n 1, 1) := by decide +kernel
theorem dX6_needsTold_78 : decode cX6_needsTold 78 = .ok (.invokevirtual 130, 3) := by decide +kernel
theorem dX6_needsTold_81 : decode cX6_needsTold 81 = .ok (.goto 4, 3) := by decide +kernel
theorem dX6_needsTold_84 : decode cX6_needsTold 84 = .ok (.iconst 0, 1) := by decide +kernel
theorem dX6_needsTold_85 : decode cX6_needsTold 85 = .ok (.iastore, 1) := by decide +kernel
theorem dX6_needsTold_86 : decode cX6_needsTold 86 = .ok (.aload_n 0, 1) := by decide +kernel
theorem dX6_needsTold_87 : decode cX6_needsTold 87 = .ok (.getfield 25, 3) := by decide +kernel
theorem dX6_needsTold_90 : decode cX6_needsTold 90 = .ok (.bipush 99, 2) := by decide +kernel
theorem dX6_needsTold_92 : decode cX6_needsTold 92 = .ok (.aload_n 0, 1) := by decide +kernel
theorem dX6_needsTold_93 : decode cX6_needsTold 93 = .ok (.iload_n 1, 1) := by decide +kernel
theorem dX6_needsTold_94 : decode cX6_needsTold 94 = .ok (.iconst 3, 1) := by decide +kernel
theorem dX6_needsTold_95 : decode cX6_needsTold 95 = .ok (.invokevirtual 62, 3) := by decide +kernel
theorem dX6_needsTold_98 : decode cX6_needsTold 98 = .ok (.iastore, 1) := by decide +kernel
theorem dX6_needsTold_99 : decode cX6_needsTold 99 = .ok (.aload_n 0, 1) := by decide +kernel
theorem dX6_needsTold_100 : decode cX6_needsTold 100 = .ok (.iconst 0, 1) := by decide +kernel
theorem dX6_needsTold_101 : decode cX6_needsTold 101 = .ok (.invokevirtual 133, 3) := by decide +kernel
theorem dX6_needsTold_104 : decode cX6_needsTold 104 = .ok (.ireturn, 1) := by decide +kernel
theorem dX6_needs_0 : decode cX6_needs 0 = .ok (.aload_n 0, 1) := by decide +kernel
theorem dX6_needs_1 : decode cX6_needs 1 = .ok (.iload_n 1, 1) := by decide +kernel
theorem dX6_needs_2 : decode cX6_needs 2 = .ok (.iconst 1, 1) := by decide +kernel
theorem dX6_needs_3 : decode cX6_needs 3 = .ok (.invokevirtual 62, 3) := by decide +kernel
theorem dX6_needs_6 : decode cX6_needs 6 = .ok (.istore_n 2, 1) := by decide +kernel
theorem dX6_needs_7 : decode cX6_needs 7 = .ok (.bipush 20, 2) := by decide +kernel
theorem dX6_needs_9 : decode cX6_needs 9 = .ok (.iload_n 2, 1) := by decide +kernel
theorem dX6_needs_10 : decode cX6_needs 10 = .ok (.iadd, 1) := by decide +kernel
theorem dX6_needs_11 : decode cX6_needs 11 = .ok (.istore_n 3, 1) := by decide +kernel
theorem dX6_needs_12 : decode cX6_needs 12 = .ok (.iload_n 3, 1) := by decide +kernel
theorem dX6_needs_13 : decode cX6_needs 13 = .ok (.istore 4, 2) := by decide +kernel
theorem dX6_needs_15 : decode cX6_needs 15 = .ok (.aload_n 0, 1) := by decide +kernel
theorem dX6_needs_16 : decode cX6_needs 16 = .ok (.iload_n 1, 1) := by decide +kernel
theorem dX6_needs_17 : decode cX6_needs 17 = .ok (.iconst 0, 1) := by decide +kernel
theorem dX6_needs_18 : decode cX6_needs 18 = .ok (.invokevirtual 62, 3) := by decide +kernel
theorem dX6_needs_21 : decode cX6_needs 21 = .ok (.tableswitch 116 1 6 #[39, 48, 57, 65, 76, 106], 39) := by decide +kernel
theorem dX6_needs_60 : decode cX6_needs 60 = .ok (.iload_n 3, 1) := by decide +kernel
theorem dX6_needs_61 : decode cX6_needs 61 = .ok (.bipush 10, 2) := by decide +kernel
theorem dX6_needs_63 : decode cX6_needs 63 = .ok (.iadd, 1) := by decide +kernel
theorem dX6_needs_64 : decode cX6_needs 64 = .ok (.istore 4, 2) := by decide +kernel
theorem dX6_needs_66 : decode cX6_needs 66 = .ok (.goto 71, 3) := by decide +kernel
theorem dX6_needs_69 : decode cX6_needs 69 = .ok (.iload_n 3, 1) := by decide +kernel
theorem dX6_needs_70 : decode cX6_needs 70 = .ok (.bipush 8, 2) := by decide +kernel
theorem dX6_needs_72 : decode cX6_needs 72 = .ok (.isub, 1) := by decide +kernel
theorem dX6_needs_73 : decode cX6_needs 73 = .ok (.istore 4, 2) := by decide +kernel
theorem dX6_needs_75 : decode cX6_needs 75 = .ok (.goto 62, 3) := by decide +kernel
theorem dX6_needs_78 : decode cX6_needs 78 = .ok (.iconst 2, 1) := by decide +kernel
theorem dX6_needs_79 : decode cX6_needs 79 = .ok (.iload_n 3, 1) := by decide +kernel
theorem dX6_needs_80 : decode cX6_needs 80 = .ok (.imul, 1) := by decide +kernel
theorem dX6_needs_81 : decode cX6_needs 81 = .ok (.istore 4, 2) := by decide +kernel
theorem dX6_needs_83 : decode cX6_needs 83 = .ok (.goto 54, 3) := by decide +kernel
theorem dX6_needs_86 : decode cX6_needs 86 = .ok (.iload_n 3, 1) := by decide +kernel
theorem dX6_needs_87 : decode cX6_needs 87 = .ok (.bipush 10, 2) := by decide +kernel
theorem dX6_needs_89 : decode cX6_needs 89 = .ok (.iadd, 1) := by decide +kernel
theorem dX6_needs_90 : decode cX6_needs 90 = .ok (.iload_n 2, 1) := by decide +kernel
theorem dX6_needs_91 : decode cX6_needs 91 = .ok (.iadd, 1) := by decide +kernel
theorem dX6_needs_92 : decode cX6_needs 92 = .ok (.istore 4, 2) := by decide +kernel
theorem dX6_needs_94 : decode cX6_needs 94 = .ok (.goto 43, 3) := by decide +kernel
theorem dX6_needs_97 : decode cX6_needs 97 = .ok (.iload_n 3, 1) := by decide +kernel
theorem dX6_needs_98 : decode cX6_needs 98 = .ok (.bipush 8, 2) := by decide +kernel
theorem dX6_needs_100 : decode cX6_needs 100 = .ok (.isub, 1) := by decide +kernel
theorem dX6_needs_101 : decode cX6_needs 101 = .ok (.iconst 2, 1) := by decide +kernel
theorem dX6_needs_102 : decode cX6_needs 102 = .ok (.aload_n 0, 1) := by decide +kernel
theorem dX6_needs_103 : decode cX6_needs 103 = .ok (.iload_n 1, 1) := by decide +kernel
theorem dX6_needs_104 : decode cX6_needs 104 = .ok (.iconst 3, 1) := by decide +kernel
theorem dX6_needs_105 : decode cX6_needs 105 = .ok (.invokevirtual 62, 3) := by decide +kernel
theorem dX6_needs_108 : decode cX6_needs 108 = .ok (.ifCond .ge 7, 3) := by decide +kernel
theorem dX6_needs_111 : decode cX6_needs 111 = .ok (.iconst 0, 1) := by decide +kernel
theorem dX6_needs_112 : decode cX6_needs 112 = .ok (.goto 8, 3) := by decide +kernel
theorem dX6_needs_115 : decode cX6_needs 115 = .ok (.aload_n 0, 1) := by decide +kernel
theorem dX6_needs_116 : decode cX6_needs 116 = .ok (.iload_n 1, 1) := by decide +kernel
theorem dX6_needs_117 : decode cX6_needs 117 = .ok (.invokevirtual 127, 3) := by decide +kernel
theorem dX6_needs_120 : decode cX6_needs 120 = .ok (.imul, 1) := by decide +kernel
theorem dX6_needs_121 : decode cX6_needs 121 = .ok (.iadd, 1) := by decide +kernel
theorem dX6_needs_122 : decode cX6_needs 122 = .ok (.istore 4, 2) := by decide +kernel
theorem dX6_needs_124 : decode cX6_needs 124 = .ok (.goto 13, 3) := by decide +kernel
theorem dX6_needs_127 : decode cX6_needs 127 = .ok (.aload_n 0, 1) := by decide +kernel
theorem dX6_needs_128 : decode cX6_needs 128 = .ok (.iload_n 1, 1) := by decide +kernel
theorem dX6_needs_129 : decode cX6_needs 129 = .ok (.invokevirtual 136, 3) := by decide +kernel
theorem dX6_needs_132 : decode cX6_needs 132 = .ok (.istore 4, 2) := by decide +kernel
theorem dX6_needs_134 : decode cX6_needs 134 = .ok (.goto 3, 3) := by decide +kernel
theorem dX6_needs_137 : decode cX6_needs 137 = .ok (.iload 4, 2) := by decide +kernel
theorem dX6_needs_139 : decode cX6_needs 139 = .ok (.iconst 1, 1) := by decide +kernel
theorem dX6_needs_140 : decode cX6_needs 140 = .ok (.bipush 99, 2) := by decide +kernel
theorem dX6_needs_142 : decode cX6_needs 142 = .ok (.invokestatic 139, 3) := by decide +kernel
theorem dX6_needs_145 : decode cX6_needs 145 = .ok (.ireturn, 1) := by decide +kernel
theorem dX6_likes_0 : decode cX6_likes 0 = .ok (.aload_n 0, 1) := by decide +kernel
theorem dX6_likes_1 : decode cX6_likes 1 = .ok (.iload_n 1, 1) := by decide +kernel
theorem dX6_likes_2 : decode cX6_likes 2 = .ok (.iconst 2, 1) := by decide +kernel
theorem dX6_likes_3 : decode cX6_likes 3 = .ok (.invokevirtual 62, 3) := by decide +kernel
theorem dX6_likes_6 : decode cX6_likes 6 = .ok (.istore_n 2, 1) := by decide +kernel
theorem dX6_likes_7 : decode cX6_likes 7 = .ok (.aload_n 0, 1) := by decide +kernel
theorem dX6_likes_8 : decode cX6_likes 8 = .ok (.iconst 1, 1) := by decide +kernel
theorem dX6_likes_9 : decode cX6_likes 9 = .ok (.invokevirtual 120, 3) := by decide +kernel
theorem dX6_likes_12 : decode cX6_likes 12 = .ok (.ifCond .eq 43, 3) := by decide +kernel
theorem dX6_likes_15 : decode cX6_likes 15 = .ok (.aload_n 0, 1) := by decide +kernel
theorem dX6_likes_16 : decode cX6_likes 16 = .ok (.getfield 25, 3) := by decide +kernel
theorem dX6_likes_19 : decode cX6_likes 19 = .ok (.bipush 119, 2) := by decide +kernel
theorem dX6_likes_21 : decode cX6_likes 21 = .ok (.iload_n 2, 1) := by decide +kernel
theorem dX6_likes_22 : decode cX6_likes 22 = .ok (.iastore, 1) := by decide +kernel
theorem dX6_likes_23 : decode cX6_likes 23 = .ok (.aload_n 0, 1) := by decide +kernel
theorem dX6_likes_24 : decode cX6_likes 24 = .ok (.getfield 25, 3) := by decide +kernel
theorem dX6_likes_27 : decode cX6_likes 27 = .ok (.bipush 107, 2) := by decide +kernel
theorem dX6_likes_29 : decode cX6_likes 29 = .ok (.aload_n 0, 1) := by decide +kernel
theorem dX6_likes_30 : decode cX6_likes 30 = .ok (.iload_n 1, 1) := by decide +kernel
theorem dX6_likes_31 : decode cX6_likes 31 = .ok (.iconst 0, 1) := by decide +kernel
theorem dX6_likes_32 : decode cX6_likes 32 = .ok (.invokevirtual 62, 3) := by decide +kernel
theorem dX6_likes_35 : decode cX6_likes 35 = .ok (.iastore, 1) := by decide +kernel
theorem dX6_likes_36 : decode cX6_likes 36 = .ok (.aload_n 0, 1) := by decide +kernel
theorem dX6_likes_37 : decode cX6_likes 37 = .ok (.getfield 25, 3) := by decide +kernel
theorem dX6_likes_40 : decode cX6_likes 40 = .ok (.bipush 109, 2) := by decide +kernel
theorem dX6_likes_42 : decode cX6_likes 42 = .ok (.aload_n 0, 1) := by decide +kernel
theorem dX6_likes_43 : decode cX6_likes 43 = .ok (.iload_n 1, 1) := by decide +kernel
theorem dX6_likes_44 : decode cX6_likes 44 = .ok (.iconst 1, 1) := by decide +kernel
theorem dX6_likes_45 : decode cX6_likes 45 = .ok (.invokevirtual 62, 3) := by decide +kernel
theorem dX6_likes_48 : decode cX6_likes 48 = .ok (.iastore, 1) := by decide +kernel
theorem dX6_likes_49 : decode cX6_likes 49 = .ok (.aload_n 0, 1) := by decide +kernel
theorem dX6_likes_50 : decode cX6_likes 50 = .ok (.iconst 1, 1) := by decide +kernel
theorem dX6_likes_51 : decode cX6_likes 51 = .ok (.invokevirtual 133, 3) := by decide +kernel
theorem dX6_likes_54 : decode cX6_likes 54 = .ok (.istore_n 2, 1) := by decide +kernel
theorem dX6_likes_55 : decode cX6_likes 55 = .ok (.iload_n 2, 1) := by decide +kernel
theorem dX6_likes_56 : decode cX6_likes 56 = .ok (.sipush (-999), 3) := by decide +kernel
theorem dX6_likes_59 : decode cX6_likes 59 = .ok (.sipush 999, 3) := by decide +kernel
theorem dX6_likes_62 : decode cX6_likes 62 = .ok (.invokestatic 139, 3) := by decide +kernel
theorem dX6_likes_65 : decode cX6_likes 65 = .ok (.ireturn, 1) := by decide +kernel
theorem dX6_strengthBehind_0 : decode cX6_strengthBehind 0 = .ok (.aload_n 0, 1) := by decide +kernel
theorem dX6_strengthBehind_1 : decode cX6_strengthBehind 1 = .ok (.getfield 7, 3) := by decide +kernel
theorem dX6_strengthBehind_4 : decode cX6_strengthBehind 4 = .ok (.iconst 3, 1) := by decide +kernel
theorem dX6_strengthBehind_5 : decode cX6_strengthBehind 5 = .ok (.iaload, 1) := by decide +kernel
theorem dX6_strengthBehind_6 : decode cX6_strengthBehind 6 = .ok (.aload_n 0, 1) := by decide +kernel
theorem dX6_strengthBehind_7 : decode cX6_strengthBehind 7 = .ok (.getfield 7, 3) := by decide +kernel
theorem dX6_strengthBehind_10 : decode cX6_strengthBehind 10 = .ok (.iconst 2, 1) := by decide +kernel
theorem dX6_strengthBehind_11 : decode cX6_strengthBehind 11 = .ok (.iaload, 1) := by decide +kernel
theorem dX6_strengthBehind_12 : decode cX6_strengthBehind 12 = .ok (.iload_n 1, 1) := by decide +kernel
theorem dX6_strengthBehind_13 : decode cX6_strengthBehind 13 = .ok (.iadd, 1) := by decide +kernel
theorem dX6_strengthBehind_14 : decode cX6_strengthBehind 14 = .ok (.aload_n 0, 1) := by decide +kernel
theorem dX6_strengthBehind_15 : decode cX6_strengthBehind 15 = .ok (.getfield 7, 3) := by decide +kernel
theorem dX6_strengthBehind_18 : decode cX6_strengthBehind 18 = .ok (.iconst 4, 1) := by decide +kernel
theorem dX6_strengthBehind_19 : decode cX6_strengthBehind 19 = .ok (.iaload, 1) := by decide +kernel
theorem dX6_strengthBehind_20 : decode cX6_strengthBehind 20 = .ok (.imul, 1) := by decide +kernel
theorem dX6_strengthBehind_21 : decode cX6_strengthBehind 21 = .ok (.isub, 1) := by decide +kernel
theorem dX6_strengthBehind_22 : decode cX6_strengthBehind 22 = .ok (.istore_n 2, 1) := by decide +kernel
theorem dX6_strengthBehind_23 : decode cX6_strengthBehind 23 = .ok (.iload_n 2, 1) := by decide +kernel
theorem dX6_strengthBehind_24 : decode cX6_strengthBehind 24 = .ok (.ifCond .ge 7, 3) := by decide +kernel
theorem dX6_strengthBehind_27 : decode cX6_strengthBehind 27 = .ok (.iconst 0, 1) := by decide +kernel
theorem dX6_strengthBehind_28 : decode cX6_strengthBehind 28 = .ok (.goto 4, 3) := by decide +kernel
theorem dX6_strengthBehind_31 : decode cX6_strengthBehind 31 = .ok (.iload_n 2, 1) := by decide +kernel
theorem dX6_strengthBehind_32 : decode cX6_strengthBehind 32 = .ok (.ireturn, 1) := by decide +kernel
theorem dX6_lays_0 : decode cX6_lays 0 = .ok (.aload_n 0, 1) := by decide +kernel
theorem dX6_lays_1 : decode cX6_lays 1 = .ok (.getfield 7, 3) := by decide +kernel
theorem dX6_lays_4 : decode cX6_lays 4 = .ok (.bipush 72, 2) := by decide +kernel
theorem dX6_lays_6 : decode cX6_lays 6 = .ok (.bipush 6, 2) := by decide +kernel
theorem dX6_lays_8 : decode cX6_lays 8 = .ok (.iload_n 2, 1) := by decide +kernel
theorem dX6_lays_9 : decode cX6_lays 9 = .ok (.imul, 1) := by decide +kernel
theorem dX6_lays_10 : decode cX6_lays 10 = .ok (.iadd, 1) := by decide +kernel
theorem dX6_lays_11 : decode cX6_lays 11 = .ok (.iconst 1, 1) := by decide +kernel
theorem dX6_lays_12 : decode cX6_lays 12 = .ok (.iadd, 1) := by decide +kernel
theorem dX6_lays_13 : decode cX6_lays 13 = .ok (.aload_n 0, 1) := by decide +kernel
theorem dX6_lays_14 : decode cX6_lays 14 = .ok (.iload_n 2, 1) := by decide +kernel
theorem dX6_lays_15 : decode cX6_lays 15 = .ok (.invokevirtual 54, 3) := by decide +kernel
theorem dX6_lays_18 : decode cX6_lays 18 = .ok (.iadd, 1) := by decide +kernel
theorem dX6_lays_19 : decode cX6_lays 19 = .ok (.iload_n 1, 1) := by decide +kernel
theorem dX6_lays_20 : decode cX6_lays 20 = .ok (.iastore, 1) := by decide +kernel
theorem dX6_lays_21 : decode cX6_lays 21 = .ok (.aload_n 0, 1) := by decide +kernel
theorem dX6_lays_22 : decode cX6_lays 22 = .ok (.getfield 7, 3) := by decide +kernel
theorem dX6_lays_25 : decode cX6_lays 25 = .ok (.bipush 72, 2) := by decide +kernel
theorem dX6_lays_27 : decode cX6_lays 27 = .ok (.bipush 6, 2) := by decide +kernel
theorem dX6_lays_29 : decode cX6_lays 29 = .ok (.iload_n 2, 1) := by decide +kernel
theorem dX6_lays_30 : decode cX6_lays 30 = .ok (.imul, 1) := by decide +kernel
theorem dX6_lays_31 : decode cX6_lays 31 = .ok (.iadd, 1) := by decide +kernel
theorem dX6_lays_32 : decode cX6_lays 32 = .ok (.dup2, 1) := by decide +kernel
theorem dX6_lays_33 : decode cX6_lays 33 = .ok (.iaload, 1) := by decide +kernel
theorem dX6_lays_34 : decode cX6_lays 34 = .ok (.iconst 1, 1) := by decide +kernel
theorem dX6_lays_35 : decode cX6_lays 35 = .ok (.iadd, 1) := by decide +kernel
theorem dX6_lays_36 : decode cX6_lays 36 = .ok (.iastore, 1) := by decide +kernel
theorem dX6_lays_37 : decode cX6_lays 37 = .ok (.aload_n 0, 1) := by decide +kernel
theorem dX6_lays_38 : decode cX6_lays 38 = .ok (.getfield 7, 3) := by decide +kernel
theorem dX6_lays_41 : decode cX6_lays 41 = .ok (.bipush 8, 2) := by decide +kernel
theorem dX6_lays_43 : decode cX6_lays 43 = .ok (.iconst 4, 1) := by decide +kernel
theorem dX6_lays_44 : decode cX6_lays 44 = .ok (.iload_n 1, 1) := by decide +kernel
theorem dX6_lays_45 : decode cX6_lays 45 = .ok (.imul, 1) := by decide +kernel
theorem dX6_lays_46 : decode cX6_lays 46 = .ok (.iadd, 1) := by decide +kernel
theorem dX6_lays_47 : decode cX6_lays 47 = .ok (.iconst 3, 1) := by decide +kernel
theorem dX6_lays_48 : decode cX6_lays 48 = .ok (.iadd, 1) := by decide +kernel
theorem dX6_lays_49 : decode cX6_lays 49 = .ok (.iload_n 2, 1) := by decide +kernel
theorem dX6_lays_50 : decode cX6_lays 50 = .ok (.iastore, 1) := by decide +kernel
theorem dX6_lays_51 : decode cX6_lays 51 = .ok (.return_, 1) := by decide +kernel
theorem dX6_lay_0 : decode cX6_lay 0 = .ok (.iload_n 1, 1) := by decide +kernel
theorem dX6_lay_1 : decode cX6_lay 1 = .ok (.iconst 0, 1) := by decide +kernel
theorem dX6_lay_2 : decode cX6_lay 2 = .ok (.bipush 69, 2) := by decide +kernel
theorem dX6_lay_4 : decode cX6_lay 4 = .ok (.invokestatic 50, 3) := by decide +kernel
theorem dX6_lay_7 : decode cX6_lay 7 = .ok (.ifCond .eq 10, 3) := by decide +kernel
theorem dX6_lay_10 : decode cX6_lay 10 = .ok (.iload_n 2, 1) := by decide +kernel
theorem dX6_lay_11 : decode cX6_lay 11 = .ok (.invokestatic 142, 3) := by decide +kernel
theorem dX6_lay_14 : decode cX6_lay 14 = .ok (.ifCond .ne 9, 3) := by decide +kernel
theorem dX6_lay_17 : decode cX6_lay 17 = .ok (.aload_n 0, 1) := by decide +kernel
theorem dX6_lay_18 : decode cX6_lay 18 = .ok (.iconst 1, 1) := by decide +kernel
theorem dX6_lay_19 : decode cX6_lay 19 = .ok (.invokevirtual 68, 3) := by decide +kernel
theorem dX6_lay_22 : decode cX6_lay 22 = .ok (.ireturn, 1) := by decide +kernel
theorem dX6_lay_23 : decode cX6_lay 23 = .ok (.aload_n 0, 1) := by decide +kernel
theorem dX6_lay_24 : decode cX6_lay 24 = .ok (.getfield 7, 3) := by decide +kernel
theorem dX6_lay_27 : decode cX6_lay 27 = .ok (.iconst 0, 1) := by decide +kernel
theorem dX6_lay_28 : decode cX6_lay 28 = .ok (.iaload, 1) := by decide +kernel
theorem dX6_lay_29 : decode cX6_lay 29 = .ok (.bipush 16, 2) := by decide +kernel
theorem dX6_lay_31 : decode cX6_lay 31 = .ok (.if_icmp .eq 12, 3) := by decide +kernel
theorem dX6_lay_34 : decode cX6_lay 34 = .ok (.aload_n 0, 1) := by decide +kernel
theorem dX6_lay_35 : decode cX6_lay 35 = .ok (.iload_n 2, 1) := by decide +kernel
theorem dX6_lay_36 : decode cX6_lay 36 = .ok (.invokevirtual 54, 3) := by decide +kernel
theorem dX6_lay_39 : decode cX6_lay 39 = .ok (.iconst 5, 1) := by decide +kernel
theorem dX6_lay_40 : decode cX6_lay 40 = .ok (.if_icmp .ne 9, 3) := by decide +kernel
theorem dX6_lay_43 : decode cX6_lay 43 = .ok (.aload_n 0, 1) := by decide +kernel
theorem dX6_lay_44 : decode cX6_lay 44 = .ok (.iconst 4, 1) := by decide +kernel
theorem dX6_lay_45 : decode cX6_lay 45 = .ok (.invokevirtual 68, 3) := by decide +kernel
theorem dX6_lay_48 : decode cX6_lay 48 = .ok (.ireturn, 1) := by decide +kernel
theorem dX6_lay_49 : decode cX6_lay 49 = .ok (.aload_n 0, 1) := by decide +kernel
theorem dX6_lay_50 : decode cX6_lay 50 = .ok (.getfield 7, 3) := by decide +kernel
theorem dX6_lay_53 : decode cX6_lay 53 = .ok (.iconst 0, 1) := by decide +kernel
theorem dX6_lay_54 : decode cX6_lay 54 = .ok (.iaload, 1) := by decide +kernel
theorem dX6_lay_55 : decode cX6_lay 55 = .ok (.istore_n 3, 1) := by decide +kernel
theorem dX6_lay_56 : decode cX6_lay 56 = .ok (.aload_n 0, 1) := by decide +kernel
theorem dX6_lay_57 : decode cX6_lay 57 = .ok (.getfield 7, 3) := by decide +kernel
theorem dX6_lay_60 : decode cX6_lay 60 = .ok (.bipush 8, 2) := by decide +kernel
theorem dX6_lay_62 : decode cX6_lay 62 = .ok (.iconst 4, 1) := by decide +kernel
theorem dX6_lay_63 : decode cX6_lay 63 = .ok (.iload_n 3, 1) := by decide +kernel
theorem dX6_lay_64 : decode cX6_lay 64 = .ok (.imul, 1) := by decide +kernel
theorem dX6_lay_65 : decode cX6_lay 65 = .ok (.iadd, 1) := by decide +kernel
theorem dX6_lay_66 : decode cX6_lay 66 = .ok (.iconst 0, 1) := by decide +kernel
theorem dX6_lay_67 : decode cX6_lay 67 = .ok (.iadd, 1) := by decide +kernel
theorem dX6_lay_68 : decode cX6_lay 68 = .ok (.iload_n 1, 1) := by decide +kernel
theorem dX6_lay_69 : decode cX6_lay 69 = .ok (.bipush 10, 2) := by decide +kernel
theorem dX6_lay_71 : decode cX6_lay 71 = .ok (.idiv, 1) := by decide +kernel
theorem dX6_lay_72 : decode cX6_lay 72 = .ok (.iastore, 1) := by decide +kernel
theorem dX6_lay_73 : decode cX6_lay 73 = .ok (.aload_n 0, 1) := by decide +kernel
theorem dX6_lay_74 : decode cX6_lay 74 = .ok (.getfield 7, 3) := by decide +kernel
theorem dX6_lay_77 : decode cX6_lay 77 = .ok (.bipush 8, 2) := by decide +kernel
theorem dX6_lay_79 : decode cX6_lay 79 = .ok (.iconst 4, 1) := by decide +kernel
theorem dX6_lay_80 : decode cX6_lay 80 = .ok (.iload_n 3, 1) := by decide +kernel
theorem dX6_lay_81 : decode cX6_lay 81 = .ok (.imul, 1) := by decide +kernel
theorem dX6_lay_82 : decode cX6_lay 82 = .ok (.iadd, 1) := by decide +kernel
theorem dX6_lay_83 : decode cX6_lay 83 = .ok (.iconst 1, 1) := by decide +kernel
theorem dX6_lay_84 : decode cX6_lay 84 = .ok (.iadd, 1) := by decide +kernel
theorem dX6_lay_85 : decode cX6_lay 85 = .ok (.iload_n 1, 1) := by decide +kernel
theorem dX6_lay_86 : decode cX6_lay 86 = .ok (.bipush 10, 2) := by decide +kernel
theorem dX6_lay_88 : decode cX6_lay 88 = .ok (.irem, 1) := by decide +kernel
theorem dX6_lay_89 : decode cX6_lay 89 = .ok (.iastore, 1) := by decide +kernel
theorem dX6_lay_90 : decode cX6_lay 90 = .ok (.aload_n 0, 1) := by decide +kernel
theorem dX6_lay_91 : decode cX6_lay 91 = .ok (.getfield 7, 3) := by decide +kernel
theorem dX6_lay_94 : decode cX6_lay 94 = .ok (.bipush 8, 2) := by decide +kernel
theorem dX6_lay_96 : decode cX6_lay 96 = .ok (.iconst 4, 1) := by decide +kernel
theorem dX6_lay_97 : decode cX6_lay 97 = .ok (.iload_n 3, 1) := by decide +kernel
theorem dX6_lay_98 : decode cX6_lay 98 = .ok (.imul, 1) := by decide +kernel
theorem dX6_lay_99 : decode cX6_lay 99 = .ok (.iadd, 1) := by decide +kernel
theorem dX6_lay_100 : decode cX6_lay 100 = .ok (.iconst 2, 1) := by decide +kernel
theorem dX6_lay_101 : decode cX6_lay 101 = .ok (.iadd, 1) := by decide +kernel
theorem dX6_lay_102 : decode cX6_lay 102 = .ok (.bipush 10, 2) := by decide +kernel
theorem dX6_lay_104 : decode cX6_lay 104 = .ok (.iastore, 1) := by decide +kernel
theorem dX6_lay_105 : decode cX6_lay 105 = .ok (.aload_n 0, 1) := by decide +kernel
theorem dX6_lay_106 : decode cX6_lay 106 = .ok (.iload_n 3, 1) := by decide +kernel
theorem dX6_lay_107 : decode cX6_lay 107 = .ok (.iload_n 2, 1) := by decide +kernel
theorem dX6_lay_108 : decode cX6_lay 108 = .ok (.invokevirtual 145, 3) := by decide +kernel
theorem dX6_lay_111 : decode cX6_lay 111 = .ok (.aload_n 0, 1) := by decide +kernel
theorem dX6_lay_112 : decode cX6_lay 112 = .ok (.getfield 7, 3) := by decide +kernel
theorem dX6_lay_115 : decode cX6_lay 115 = .ok (.iconst 0, 1) := by decide +kernel
theorem dX6_lay_116 : decode cX6_lay 116 = .ok (.dup2, 1) := by decide +kernel
theorem dX6_lay_117 : decode cX6_lay 117 = .ok (.iaload, 1) := by decide +kernel
theorem dX6_lay_118 : decode cX6_lay 118 = .ok (.iconst 1, 1) := by decide +kernel
theorem dX6_lay_119 : decode cX6_lay 119 = .ok (.iadd, 1) := by decide +kernel
theorem dX6_lay_120 : decode cX6_lay 120 = .ok (.iastore, 1) := by decide +kernel
theorem dX6_lay_121 : decode cX6_lay 121 = .ok (.iload_n 3, 1) := by decide +kernel
theorem dX6_lay_122 : decode cX6_lay 122 = .ok (.ireturn, 1) := by decide +kernel
theorem dX6_thingIs_0 : decode cX6_thingIs 0 = .ok (.aload_n 0, 1) := by decide +kernel
theorem dX6_thingIs_1 : decode cX6_thingIs 1 = .ok (.iload_n 1, 1) := by decide +kernel
theorem dX6_thingIs_2 : decode cX6_thingIs 2 = .ok (.invokevirtual 148, 3) := by decide +kernel
theorem dX6_thingIs_5 : decode cX6_thingIs 5 = .ok (.ifCond .eq 13, 3) := by decide +kernel
theorem dX6_thingIs_8 : decode cX6_thingIs 8 = .ok (.iload_n 2, 1) := by decide +kernel
theorem dX6_thingIs_9 : decode cX6_thingIs 9 = .ok (.iconst 0, 1) := by decide +kernel
theorem dX6_thingIs_10 : decode cX6_thingIs 10 = .ok (.bipush 7, 2) := by decide +kernel
theorem dX6_thingIs_12 : decode cX6_thingIs 12 = .ok (.invokestatic 50, 3) := by decide +kernel
theorem dX6_thingIs_15 : decode cX6_thingIs 15 = .ok (.ifCond .ne 9, 3) := by decide +kernel
theorem dX6_thingIs_18 : decode cX6_thingIs 18 = .ok (.aload_n 0, 1) := by decide +kernel
theorem dX6_thingIs_19 : decode cX6_thingIs 19 = .ok (.iconst 1, 1) := by decide +kernel
theorem dX6_thingIs_20 : decode cX6_thingIs 20 = .ok (.invokevirtual 68, 3) := by decide +kernel
theorem dX6_thingIs_23 : decode cX6_thingIs 23 = .ok (.ireturn, 1) := by decide +kernel
theorem dX6_thingIs_24 : decode cX6_thingIs 24 = .ok (.iload_n 2, 1) := by decide +kernel
theorem dX6_thingIs_25 : decode cX6_thingIs 25 = .ok (.iconst 4, 1) := by decide +kernel
theorem dX6_thingIs_26 : decode cX6_thingIs 26 = .ok (.if_icmp .ge 10, 3) := by decide +kernel
theorem dX6_thingIs_29 : decode cX6_thingIs 29 = .ok (.aload_n 0, 1) := by decide +kernel
theorem dX6_thingIs_30 : decode cX6_thingIs 30 = .ok (.iload_n 1, 1) := by decide +kernel
theorem dX6_thingIs_31 : decode cX6_thingIs 31 = .ok (.iload_n 2, 1) := by decide +kernel
theorem dX6_thingIs_32 : decode cX6_thingIs 32 = .ok (.invokevirtual 62, 3) := by decide +kernel
theorem dX6_thingIs_35 : decode cX6_thingIs 35 = .ok (.ireturn, 1) := by decide +kernel
theorem dX6_thingIs_36 : decode cX6_thingIs 36 = .ok (.iload_n 2, 1) := by decide +kernel
theorem dX6_thingIs_37 : decode cX6_thingIs 37 = .ok (.iconst 4, 1) := by decide +kernel
theorem dX6_thingIs_38 : decode cX6_thingIs 38 = .ok (.if_icmp .ne 11, 3) := by decide +kernel
theorem dX6_thingIs_41 : decode cX6_thingIs 41 = .ok (.aload_n 0, 1) := by decide +kernel
theorem dX6_thingIs_42 : decode cX6_thingIs 42 = .ok (.iload_n 1, 1) := by decide +kernel
theorem dX6_thingIs_43 : decode cX6_thingIs 43 = .ok (.invokevirtual 130, 3) := by decide +kernel
theorem dX6_thingIs_46 : decode cX6_thingIs 46 = .ok (.goto 35, 3) := by decide +kernel
theorem dX6_thingIs_49 : decode cX6_thingIs 49 = .ok (.iload_n 2, 1) := by decide +kernel
theorem dX6_thingIs_50 : decode cX6_thingIs 50 = .ok (.iconst 5, 1) := by decide +kernel
theorem dX6_thingIs_51 : decode cX6_thingIs 51 = .ok (.if_icmp .ne 11, 3) := by decide +kernel
theorem dX6_thingIs_54 : decode cX6_thingIs 54 = .ok (.aload_n 0, 1) := by decide +kernel
theorem dX6_thingIs_55 : decode cX6_thingIs 55 = .ok (.iload_n 1, 1) := by decide +kernel
theorem dX6_thingIs_56 : decode cX6_thingIs 56 = .ok (.invokevirtual 127, 3) := by decide +kernel
theorem dX6_thingIs_59 : decode cX6_thingIs 59 = .ok (.goto 22, 3) := by decide +kernel
theorem dX6_thingIs_62 : decode cX6_thingIs 62 = .ok (.iload_n 2, 1) := by decide +kernel
theorem dX6_thingIs_63 : decode cX6_thingIs 63 = .ok (.bipush 6, 2) := by decide +kernel
theorem dX6_thingIs_65 : decode cX6_thingIs 65 = .ok (.if_icmp .ne 11, 3) := by decide +kernel
theorem dX6_thingIs_68 : decode cX6_thingIs 68 = .ok (.aload_n 0, 1) := by decide +kernel
theorem dX6_thingIs_69 : decode cX6_thingIs 69 = .ok (.iload_n 1, 1) := by decide +kernel
theorem dX6_thingIs_70 : decode cX6_thingIs 70 = .ok (.invokevirtual 151, 3) := by decide +kernel
theorem dX6_thingIs_73 : decode cX6_thingIs 73 = .ok (.goto 8, 3) := by decide +kernel
theorem dX6_thingIs_76 : decode cX6_thingIs 76 = .ok (.aload_n 0, 1) := by decide +kernel
theorem dX6_thingIs_77 : decode cX6_thingIs 77 = .ok (.iload_n 1, 1) := by decide +kernel
theorem dX6_thingIs_78 : decode cX6_thingIs 78 = .ok (.invokevirtual 154, 3) := by decide +kernel
theorem dX6_thingIs_81 : decode cX6_thingIs 81 = .ok (.ireturn, 1) := by decide +kernel
theorem dX6_isUnder_0 : decode cX6_isUnder 0 = .ok (.iload_n 1, 1) := by decide +kernel
theorem dX6_isUnder_1 : decode cX6_isUnder 1 = .ok (.ifCond .eq 28, 3) := by decide +kernel
theorem dX6_isUnder_4 : decode cX6_isUnder 4 = .ok (.iload_n 0, 1) := by decide +kernel
theorem dX6_isUnder_5 : decode cX6_isUnder 5 = .ok (.iload_n 1, 1) := by decide +kernel
theorem dX6_isUnder_6 : decode cX6_isUnder 6 = .ok (.if_icmp .eq 23, 3) := by decide +kernel
theorem dX6_isUnder_9 : decode cX6_isUnder 9 = .ok (.iload_n 1, 1) := by decide +kernel
theorem dX6_isUnder_10 : decode cX6_isUnder 10 = .ok (.iconst 1, 1) := by decide +kernel
theorem dX6_isUnder_11 : decode cX6_isUnder 11 = .ok (.if_icmp .ne 8, 3) := by decide +kernel
theorem dX6_isUnder_14 : decode cX6_isUnder 14 = .ok (.iload_n 0, 1) := by decide +kernel
theorem dX6_isUnder_15 : decode cX6_isUnder 15 = .ok (.iconst 4, 1) := by decide +kernel
theorem dX6_isUnder_16 : decode cX6_isUnder 16 = .ok (.if_icmp .eq 13, 3) := by decide +kernel
theorem dX6_isUnder_19 : decode cX6_isUnder 19 = .ok (.iload_n 1, 1) := by decide +kernel
theorem dX6_isUnder_20 : decode cX6_isUnder 20 = .ok (.iconst 2, 1) := by decide +kernel
theorem dX6_isUnder_21 : decode cX6_isUnder 21 = .ok (.if_icmp .ne 12, 3) := by decide +kernel
theorem dX6_isUnder_24 : decode cX6_isUnder 24 = .ok (.iload_n 0, 1) := by decide +kernel
theorem dX6_isUnder_25 : decode cX6_isUnder 25 = .ok (.iconst 5, 1) := by decide +kernel
theorem dX6_isUnder_26 : decode cX6_isUnder 26 = .ok (.if_icmp .ne 7, 3) := by decide +kernel
theorem dX6_isUnder_29 : decode cX6_isUnder 29 = .ok (.iconst 1, 1) := by decide +kernel
theorem dX6_isUnder_30 : decode cX6_isUnder 30 = .ok (.goto 4, 3) := by decide +kernel
theorem dX6_isUnder_33 : decode cX6_isUnder 33 = .ok (.iconst 0, 1) := by decide +kernel
theorem dX6_isUnder_34 : decode cX6_isUnder 34 = .ok (.ireturn, 1) := by decide +kernel
theorem dX6_as_0 : decode cX6_as 0 = .ok (.aload_n 0, 1) := by decide +kernel
theorem dX6_as_1 : decode cX6_as 1 = .ok (.iload_n 1, 1) := by decide +kernel
theorem dX6_as_2 : decode cX6_as 2 = .ok (.invokevirtual 148, 3) := by decide +kernel
theorem dX6_as_5 : decode cX6_as 5 = .ok (.ifCond .eq 13, 3) := by decide +kernel
theorem dX6_as_8 : decode cX6_as 8 = .ok (.iload_n 2, 1) := by decide +kernel
theorem dX6_as_9 : decode cX6_as 9 = .ok (.iconst 0, 1) := by decide +kernel
theorem dX6_as_10 : decode cX6_as 10 = .ok (.bipush 6, 2) := by decide +kernel
theorem dX6_as_12 : decode cX6_as 12 = .ok (.invokestatic 50, 3) := by decide +kernel
theorem dX6_as_15 : decode cX6_as 15 = .ok (.ifCond .ne 9, 3) := by decide +kernel
theorem dX6_as_18 : decode cX6_as 18 = .ok (.aload_n 0, 1) := by decide +kernel
theorem dX6_as_19 : decode cX6_as 19 = .ok (.iconst 1, 1) := by decide +kernel
theorem dX6_as_20 : decode cX6_as 20 = .ok (.invokevirtual 68, 3) := by decide +kernel
theorem dX6_as_23 : decode cX6_as 23 = .ok (.ireturn, 1) := by decide +kernel
theorem dX6_as_24 : decode cX6_as 24 = .ok (.aload_n 0, 1) := by decide +kernel
theorem dX6_as_25 : decode cX6_as 25 = .ok (.iload_n 1, 1) := by decide +kernel
theorem dX6_as_26 : decode cX6_as 26 = .ok (.iconst 0, 1) := by decide +kernel
theorem dX6_as_27 : decode cX6_as 27 = .ok (.invokevirtual 62, 3) := by decide +kernel
theorem dX6_as_30 : decode cX6_as 30 = .ok (.iload_n 2, 1) := by decide +kernel
theorem dX6_as_31 : decode cX6_as 31 = .ok (.invokestatic 157, 3) := by decide +kernel
theorem dX6_as_34 : decode cX6_as 34 = .ok (.ifCond .eq 12, 3) := by decide +kernel
theorem dX6_as_37 : decode cX6_as 37 = .ok (.aload_n 0, 1) := by decide +kernel
theorem dX6_as_38 : decode cX6_as 38 = .ok (.iload_n 1, 1) := by decide +kernel
theorem dX6_as_39 : decode cX6_as 39 = .ok (.iconst 2, 1) := by decide +kernel
theorem dX6_as_40 : decode cX6_as 40 = .ok (.invokevirtual 62, 3) := by decide +kernel
theorem dX6_as_43 : decode cX6_as 43 = .ok (.goto 8, 3) := by decide +kernel
theorem dX6_as_46 : decode cX6_as 46 = .ok (.aload_n 0, 1) := by decide +kernel
theorem dX6_as_47 : decode cX6_as 47 = .ok (.iconst 5, 1) := by decide +kernel
theorem dX6_as_48 : decode cX6_as 48 = .ok (.invokevirtual 68, 3) := by decide +kernel
theorem dX6_as_51 : decode cX6_as 51 = .ok (.ireturn, 1) := by decide +kernel
theorem dX6_set_0 : decode cX6_set 0 = .ok (.iload_n 2, 1) := by decide +kernel
theorem dX6_set_1 : decode cX6_set 1 = .ok (.ifCond .ne 8, 3) := by decide +kernel
theorem dX6_set_4 : decode cX6_set 4 = .ok (.bipush 6, 2) := by decide +kernel
theorem dX6_set_6 : decode cX6_set 6 = .ok (.goto 15, 3) := by decide +kernel
theorem dX6_set_9 : decode cX6_set 9 = .ok (.iload_n 2, 1) := by decide +kernel
theorem dX6_set_10 : decode cX6_set 10 = .ok (.iconst 1, 1) := by decide +kernel
theorem dX6_set_11 : decode cX6_set 11 = .ok (.if_icmp .ne 8, 3) := by decide +kernel
theorem dX6_set_14 : decode cX6_set 14 = .ok (.bipush 9, 2) := by decide +kernel
theorem dX6_set_16 : decode cX6_set 16 = .ok (.goto 5, 3) := by decide +kernel
theorem dX6_set_19 : decode cX6_set 19 = .ok (.bipush 99, 2) := by decide +kernel
theorem dX6_set_21 : decode cX6_set 21 = .ok (.istore 4, 2) := by decide +kernel
theorem dX6_set_23 : decode cX6_set 23 = .ok (.aload_n 0, 1) := by decide +kernel
theorem dX6_set_24 : decode cX6_set 24 = .ok (.iload_n 1, 1) := by decide +kernel
theorem dX6_set_25 : decode cX6_set 25 = .ok (.invokevirtual 148, 3) := by decide +kernel
theorem dX6_set_28 : decode cX6_set 28 = .ok (.ifCond .eq 38, 3) := by decide +kernel
theorem dX6_set_31 : decode cX6_set 31 = .ok (.iload_n 2, 1) := by decide +kernel
theorem dX6_set_32 : decode cX6_set 32 = .ok (.iconst 0, 1) := by decide +kernel
theorem dX6_set_33 : decode cX6_set 33 = .ok (.iconst 2, 1) := by decide +kernel
theorem dX6_set_34 : decode cX6_set 34 = .ok (.invokestatic 50, 3) := by decide +kernel
theorem dX6_set_37 : decode cX6_set 37 = .ok (.ifCond .eq 29, 3) := by decide +kernel
theorem dX6_set_40 : decode cX6_set 40 = .ok (.iload_n 3, 1) := by decide +kernel
theorem dX6_set_41 : decode cX6_set 41 = .ok (.iconst 0, 1) := by decide +kernel
theorem dX6_set_42 : decode cX6_set 42 = .ok (.iload 4, 2) := by decide +kernel
theorem dX6_set_44 : decode cX6_set 44 = .ok (.invokestatic 50, 3) := by decide +kernel
theorem dX6_set_47 : decode cX6_set 47 = .ok (.ifCond .eq 19, 3) := by decide +kernel
theorem dX6_set_50 : decode cX6_set 50 = .ok (.aload_n 0, 1) := by decide +kernel
theorem dX6_set_51 : decode cX6_set 51 = .ok (.bipush 8, 2) := by decide +kernel
theorem dX6_set_53 : decode cX6_set 53 = .ok (.iconst 4, 1) := by decide +kernel
theorem dX6_set_54 : decode cX6_set 54 = .ok (.iload_n 1, 1) := by decide +kernel
theorem dX6_set_55 : decode cX6_set 55 = .ok (.imul, 1) := by decide +kernel
theorem dX6_set_56 : decode cX6_set 56 = .ok (.iadd, 1) := by decide +kernel
theorem dX6_set_57 : decode cX6_set 57 = .ok (.iload_n 2, 1) := by decide +kernel
theorem dX6_set_58 : decode cX6_set 58 = .ok (.iadd, 1) := by decide +kernel
theorem dX6_set_59 : decode cX6_set 59 = .ok (.iload_n 3, 1) := by decide +kernel
theorem dX6_set_60 : decode cX6_set 60 = .ok (.invokevirtual 161, 3) := by decide +kernel
theorem dX6_set_63 : decode cX6_set 63 = .ok (.goto 8, 3) := by decide +kernel
theorem dX6_set_66 : decode cX6_set 66 = .ok (.aload_n 0, 1) := by decide +kernel
theorem dX6_set_67 : decode cX6_set 67 = .ok (.iconst 1, 1) := by decide +kernel
theorem dX6_set_68 : decode cX6_set 68 = .ok (.invokevirtual 68, 3) := by decide +kernel
theorem dX6_set_71 : decode cX6_set 71 = .ok (.ireturn, 1) := by decide +kernel
theorem dX6_takesOut_0 : decode cX6_takesOut 0 = .ok (.aload_n 0, 1) := by decide +kernel
theorem dX6_takesOut_1 : decode cX6_takesOut 1 = .ok (.iload_n 1, 1) := by decide +kernel
theorem dX6_takesOut_2 : decode cX6_takesOut 2 = .ok (.iconst 3, 1) := by decide +kernel
theorem dX6_takesOut_3 : decode cX6_takesOut 3 = .ok (.invokevirtual 62, 3) := by decide +kernel
theorem dX6_takesOut_6 : decode cX6_takesOut 6 = .ok (.istore_n 3, 1) := by decide +kernel
theorem dX6_takesOut_7 : decode cX6_takesOut 7 = .ok (.aload_n 0, 1) := by decide +kernel
theorem dX6_takesOut_8 : decode cX6_takesOut 8 = .ok (.iload_n 1, 1) := by decide +kernel
theorem dX6_takesOut_9 : decode cX6_takesOut 9 = .ok (.invokevirtual 65, 3) := by decide +kernel
theorem dX6_takesOut_12 : decode cX6_takesOut 12 = .ok (.istore 4, 2) := by decide +kernel
theorem dX6_takesOut_14 : decode cX6_takesOut 14 = .ok (.iload 4, 2) := by decide +kernel
theorem dX6_takesOut_16 : decode cX6_takesOut 16 = .ok (.iconst 1, 1) := by decide +kernel
theorem dX6_takesOut_17 : decode cX6_takesOut 17 = .ok (.iadd, 1) := by decide +kernel
theorem dX6_takesOut_18 : decode cX6_takesOut 18 = .ok (.aload_n 0, 1) := by decide +kernel
theorem dX6_takesOut_19 : decode cX6_takesOut 19 = .ok (.iload_n 3, 1) := by decide +kernel
theorem dX6_takesOut_20 : decode cX6_takesOut 20 = .ok (.invokevirtual 54, 3) := by decide +kernel
theorem dX6_takesOut_23 : decode cX6_takesOut 23 = .ok (.if_icmp .ge 35, 3) := by decide +kernel
theorem dX6_takesOut_26 : decode cX6_takesOut 26 = .ok (.aload_n 0, 1) := by decide +kernel
theorem dX6_takesOut_27 : decode cX6_takesOut 27 = .ok (.getfield 7, 3) := by decide +kernel
theorem dX6_takesOut_30 : decode cX6_takesOut 30 = .ok (.bipush 72, 2) := by decide +kernel
theorem dX6_takesOut_32 : decode cX6_takesOut 32 = .ok (.bipush 6, 2) := by decide +kernel
theorem dX6_takesOut_34 : decode cX6_takesOut 34 = .ok (.iload_n 3, 1) := by decide +kernel
theorem dX6_takesOut_35 : decode cX6_takesOut 35 = .ok (.imul, 1) := by decide +kernel
theorem dX6_takesOut_36 : decode cX6_takesOut 36 = .ok (.iadd, 1) := by decide +kernel
theorem dX6_takesOut_37 : decode cX6_takesOut 37 = .ok (.iconst 1, 1) := by decide +kernel
theorem dX6_takesOut_38 : decode cX6_takesOut 38 = .ok (.iadd, 1) := by decide +kernel
theorem dX6_takesOut_39 : decode cX6_takesOut 39 = .ok (.iload 4, 2) := by decide +kernel
theorem dX6_takesOut_41 : decode cX6_takesOut 41 = .ok (.iadd, 1) := by decide +kernel
theorem dX6_takesOut_42 : decode cX6_takesOut 42 = .ok (.aload_n 0, 1) := by decide +kernel
theorem dX6_takesOut_43 : decode cX6_takesOut 43 = .ok (.iload_n 3, 1) := by decide +kernel
theorem dX6_takesOut_44 : decode cX6_takesOut 44 = .ok (.iload 4, 2) := by decide +kernel
theorem dX6_takesOut_46 : decode cX6_takesOut 46 = .ok (.iconst 1, 1) := by decide +kernel
theorem dX6_takesOut_47 : decode cX6_takesOut 47 = .ok (.iadd, 1) := by decide +kernel
theorem dX6_takesOut_48 : decode cX6_takesOut 48 = .ok (.invokevirtual 58, 3) := by decide +kernel
theorem dX6_takesOut_51 : decode cX6_takesOut 51 = .ok (.iastore, 1) := by decide +kernel
theorem dX6_takesOut_52 : decode cX6_takesOut 52 = .ok (.iinc 4 1, 3) := by decide +kernel
theorem dX6_takesOut_55 : decode cX6_takesOut 55 = .ok (.goto (-41), 3) := by decide +kernel
theorem dX6_takesOut_58 : decode cX6_takesOut 58 = .ok (.aload_n 0, 1) := by decide +kernel
theorem dX6_takesOut_59 : decode cX6_takesOut 59 = .ok (.getfield 7, 3) := by decide +kernel
theorem dX6_takesOut_62 : decode cX6_takesOut 62 = .ok (.bipush 72, 2) := by decide +kernel
theorem dX6_takesOut_64 : decode cX6_takesOut 64 = .ok (.bipush 6, 2) := by decide +kernel
theorem dX6_takesOut_66 : decode cX6_takesOut 66 = .ok (.iload_n 3, 1) := by decide +kernel
theorem dX6_takesOut_67 : decode cX6_takesOut 67 = .ok (.imul, 1) := by decide +kernel
theorem dX6_takesOut_68 : decode cX6_takesOut 68 = .ok (.iadd, 1) := by decide +kernel
theorem dX6_takesOut_69 : decode cX6_takesOut 69 = .ok (.dup2, 1) := by decide +kernel
theorem dX6_takesOut_70 : decode cX6_takesOut 70 = .ok (.iaload, 1) := by decide +kernel
theorem dX6_takesOut_71 : decode cX6_takesOut 71 = .ok (.iconst 1, 1) := by decide +kernel
theorem dX6_takesOut_72 : decode cX6_takesOut 72 = .ok (.isub, 1) := by decide +kernel
theorem dX6_takesOut_73 : decode cX6_takesOut 73 = .ok (.iastore, 1) := by decide +kernel
theorem dX6_takesOut_74 : decode cX6_takesOut 74 = .ok (.aload_n 0, 1) := by decide +kernel
theorem dX6_takesOut_75 : decode cX6_takesOut 75 = .ok (.getfield 7, 3) := by decide +kernel
theorem dX6_takesOut_78 : decode cX6_takesOut 78 = .ok (.bipush 8, 2) := by decide +kernel
theorem dX6_takesOut_80 : decode cX6_takesOut 80 = .ok (.iconst 4, 1) := by decide +kernel
theorem dX6_takesOut_81 : decode cX6_takesOut 81 = .ok (.iload_n 1, 1) := by decide +kernel
theorem dX6_takesOut_82 : decode cX6_takesOut 82 = .ok (.imul, 1) := by decide +kernel
theorem dX6_takesOut_83 : decode cX6_takesOut 83 = .ok (.iadd, 1) := by decide +kernel
theorem dX6_takesOut_84 : decode cX6_takesOut 84 = .ok (.iconst 3, 1) := by decide +kernel
theorem dX6_takesOut_85 : decode cX6_takesOut 85 = .ok (.iadd, 1) := by decide +kernel
theorem dX6_takesOut_86 : decode cX6_takesOut 86 = .ok (.iload_n 2, 1) := by decide +kernel
theorem dX6_takesOut_87 : decode cX6_takesOut 87 = .ok (.iastore, 1) := by decide +kernel
theorem dX6_takesOut_88 : decode cX6_takesOut 88 = .ok (.return_, 1) := by decide +kernel
theorem dX6_out_0 : decode cX6_out 0 = .ok (.aload_n 0, 1) := by decide +kernel
theorem dX6_out_1 : decode cX6_out 1 = .ok (.iload_n 1, 1) := by decide +kernel
theorem dX6_out_2 : decode cX6_out 2 = .ok (.invokevirtual 148, 3) := by decide +kernel
theorem dX6_out_5 : decode cX6_out 5 = .ok (.ifCond .ne 9, 3) := by decide +kernel
theorem dX6_out_8 : decode cX6_out 8 = .ok (.aload_n 0, 1) := by decide +kernel
theorem dX6_out_9 : decode cX6_out 9 = .ok (.iconst 1, 1) := by decide +kernel
theorem dX6_out_10 : decode cX6_out 10 = .ok (.invokevirtual 68, 3) := by decide +kernel
theorem dX6_out_13 : decode cX6_out 13 = .ok (.ireturn, 1) := by decide +kernel
theorem dX6_out_14 : decode cX6_out 14 = .ok (.aload_n 0, 1) := by decide +kernel
theorem dX6_out_15 : decode cX6_out 15 = .ok (.iload_n 1, 1) := by decide +kernel
theorem dX6_out_16 : decode cX6_out 16 = .ok (.iconst 3, 1) := by decide +kernel
theorem dX6_out_17 : decode cX6_out 17 = .ok (.invokevirtual 62, 3) := by decide +kernel
theorem dX6_out_20 : decode cX6_out 20 = .ok (.istore_n 2, 1) := by decide +kernel
theorem dX6_out_21 : decode cX6_out 21 = .ok (.iload_n 2, 1) := by decide +kernel
theorem dX6_out_22 : decode cX6_out 22 = .ok (.ifCond .ge 9, 3) := by decide +kernel
theorem dX6_out_25 : decode cX6_out 25 = .ok (.aload_n 0, 1) := by decide +kernel
theorem dX6_out_26 : decode cX6_out 26 = .ok (.iconst 3, 1) := by decide +kernel
theorem dX6_out_27 : decode cX6_out 27 = .ok (.invokevirtual 68, 3) := by decide +kernel
theorem dX6_out_30 : decode cX6_out 30 = .ok (.ireturn, 1) := by decide +kernel
theorem dX6_out_31 : decode cX6_out 31 = .ok (.aload_n 0, 1) := by decide +kernel
theorem dX6_out_32 : decode cX6_out 32 = .ok (.iload_n 1, 1) := by decide +kernel
theorem dX6_out_33 : decode cX6_out 33 = .ok (.bipush (-2), 2) := by decide +kernel
theorem dX6_out_35 : decode cX6_out 35 = .ok (.invokevirtual 164, 3) := by decide +kernel
theorem dX6_out_38 : decode cX6_out 38 = .ok (.iload_n 2, 1) := by decide +kernel
theorem dX6_out_39 : decode cX6_out 39 = .ok (.ireturn, 1) := by decide +kernel
theorem dX6_back_0 : decode cX6_back 0 = .ok (.aload_n 0, 1) := by decide +kernel
theorem dX6_back_1 : decode cX6_back 1 = .ok (.iload_n 1, 1) := by decide +kernel
theorem dX6_back_2 : decode cX6_back 2 = .ok (.invokevirtual 148, 3) := by decide +kernel
theorem dX6_back_5 : decode cX6_back 5 = .ok (.ifCond .eq 10, 3) := by decide +kernel
theorem dX6_back_8 : decode cX6_back 8 = .ok (.iload_n 2, 1) := by decide +kernel
theorem dX6_back_9 : decode cX6_back 9 = .ok (.invokestatic 142, 3) := by decide +kernel
theorem dX6_back_12 : decode cX6_back 12 = .ok (.ifCond .ne 9, 3) := by decide +kernel
theorem dX6_back_15 : decode cX6_back 15 = .ok (.aload_n 0, 1) := by decide +kernel
theorem dX6_back_16 : decode cX6_back 16 = .ok (.iconst 1, 1) := by decide +kernel
theorem dX6_back_17 : decode cX6_back 17 = .ok (.invokevirtual 68, 3) := by decide +kernel
theorem dX6_back_20 : decode cX6_back 20 = .ok (.ireturn, 1) := by decide +kernel
theorem dX6_back_21 : decode cX6_back 21 = .ok (.aload_n 0, 1) := by decide +kernel
theorem dX6_back_22 : decode cX6_back 22 = .ok (.iload_n 1, 1) := by decide +kernel
theorem dX6_back_23 : decode cX6_back 23 = .ok (.iconst 3, 1) := by decide +kernel
theorem dX6_back_24 : decode cX6_back 24 = .ok (.invokevirtual 62, 3) := by decide +kernel
theorem dX6_back_27 : decode cX6_back 27 = .ok (.ifCond .lt 9, 3) := by decide +kernel
theorem dX6_back_30 : decode cX6_back 30 = .ok (.aload_n 0, 1) := by decide +kernel
theorem dX6_back_31 : decode cX6_back 31 = .ok (.iconst 3, 1) := by decide +kernel
theorem dX6_back_32 : decode cX6_back 32 = .ok (.invokevirtual 68, 3) := by decide +kernel
theorem dX6_back_35 : decode cX6_back 35 = .ok (.ireturn, 1) := by decide +kernel
theorem dX6_back_36 : decode cX6_back 36 = .ok (.aload_n 0, 1) := by decide +kernel
theorem dX6_back_37 : decode cX6_back 37 = .ok (.iload_n 2, 1) := by decide +kernel
theorem dX6_back_38 : decode cX6_back 38 = .ok (.invokevirtual 54, 3) := by decide +kernel
theorem dX6_back_41 : decode cX6_back 41 = .ok (.iconst 5, 1) := by decide +kernel
theorem dX6_back_42 : decode cX6_back 42 = .ok (.if_icmp .ne 9, 3) := by decide +kernel
theorem dX6_back_45 : decode cX6_back 45 = .ok (.aload_n 0, 1) := by decide +kernel
theorem dX6_back_46 : decode cX6_back 46 = .ok (.iconst 4, 1) := by decide +kernel
theorem dX6_back_47 : decode cX6_back 47 = .ok (.invokevirtual 68, 3) := by decide +kernel
theorem dX6_back_50 : decode cX6_back 50 = .ok (.ireturn, 1) := by decide +kernel
theorem dX6_back_51 : decode cX6_back 51 = .ok (.aload_n 0, 1) := by decide +kernel
theorem dX6_back_52 : decode cX6_back 52 = .ok (.iload_n 1, 1) := by decide +kernel
theorem dX6_back_53 : decode cX6_back 53 = .ok (.iload_n 2, 1) := by decide +kernel
theorem dX6_back_54 : decode cX6_back 54 = .ok (.invokevirtual 145, 3) := by decide +kernel
theorem dX6_back_57 : decode cX6_back 57 = .ok (.aload_n 0, 1) := by decide +kernel
theorem dX6_back_58 : decode cX6_back 58 = .ok (.iload_n 2, 1) := by decide +kernel
theorem dX6_back_59 : decode cX6_back 59 = .ok (.invokevirtual 54, 3) := by decide +kernel
theorem dX6_back_62 : decode cX6_back 62 = .ok (.ireturn, 1) := by decide +kernel
theorem dX6_spring_0 : decode cX6_spring 0 = .ok (.iload_n 1, 1) := by decide +kernel
theorem dX6_spring_1 : decode cX6_spring 1 = .ok (.iconst 0, 1) := by decide +kernel
theorem dX6_spring_2 : decode cX6_spring 2 = .ok (.iconst 1, 1) := by decide +kernel
theorem dX6_spring_3 : decode cX6_spring 3 = .ok (.invokestatic 50, 3) := by decide +kernel
theorem dX6_spring_6 : decode cX6_spring 6 = .ok (.ifCond .eq 33, 3) := by decide +kernel
theorem dX6_spring_9 : decode cX6_spring 9 = .ok (.iload_n 2, 1) := by decide +kernel
theorem dX6_spring_10 : decode cX6_spring 10 = .ok (.iconst 0, 1) := by decide +kernel
theorem dX6_spring_11 : decode cX6_spring 11 = .ok (.iload_n 1, 1) := by decide +kernel
theorem dX6_spring_12 : decode cX6_spring 12 = .ok (.ifCond .ne 8, 3) := by decide +kernel
theorem dX6_spring_15 : decode cX6_spring 15 = .ok (.bipush 99, 2) := by decide +kernel
theorem dX6_spring_17 : decode cX6_spring 17 = .ok (.goto 5, 3) := by decide +kernel
theorem dX6_spring_20 : decode cX6_spring 20 = .ok (.bipush 9, 2) := by decide +kernel
theorem dX6_spring_22 : decode cX6_spring 22 = .ok (.invokestatic 50, 3) := by decide +kernel
theorem dX6_spring_25 : decode cX6_spring 25 = .ok (.ifCond .eq 14, 3) := by decide +kernel
theorem dX6_spring_28 : decode cX6_spring 28 = .ok (.aload_n 0, 1) := by decide +kernel
theorem dX6_spring_29 : decode cX6_spring 29 = .ok (.iconst 3, 1) := by decide +kernel
theorem dX6_spring_30 : decode cX6_spring 30 = .ok (.iload_n 1, 1) := by decide +kernel
theorem dX6_spring_31 : decode cX6_spring 31 = .ok (.iadd, 1) := by decide +kernel
theorem dX6_spring_32 : decode cX6_spring 32 = .ok (.iload_n 2, 1) := by decide +kernel
theorem dX6_spring_33 : decode cX6_spring 33 = .ok (.invokevirtual 161, 3) := by decide +kernel
theorem dX6_spring_36 : decode cX6_spring 36 = .ok (.goto 8, 3) := by decide +kernel
theorem dX6_spring_39 : decode cX6_spring 39 = .ok (.aload_n 0, 1) := by decide +kernel
theorem dX6_spring_40 : decode cX6_spring 40 = .ok (.iconst 1, 1) := by decide +kernel
theorem dX6_spring_41 : decode cX6_spring 41 = .ok (.invokevirtual 68, 3) := by decide +kernel
theorem dX6_spring_44 : decode cX6_spring 44 = .ok (.ireturn, 1) := by decide +kernel
theorem dX6_wind_0 : decode cX6_wind 0 = .ok (.aload_n 0, 1) := by decide +kernel
theorem dX6_wind_1 : decode cX6_wind 1 = .ok (.iconst 2, 1) := by decide +kernel
theorem dX6_wind_2 : decode cX6_wind 2 = .ok (.iconst 0, 1) := by decide +kernel
theorem dX6_wind_3 : decode cX6_wind 3 = .ok (.invokevirtual 161, 3) := by decide +kernel
theorem dX6_wind_6 : decode cX6_wind 6 = .ok (.ireturn, 1) := by decide +kernel
theorem dX6_nearer_0 : decode cX6_nearer 0 = .ok (.iload_n 0, 1) := by decide +kernel
theorem dX6_nearer_1 : decode cX6_nearer 1 = .ok (.iconst 4, 1) := by decide +kernel
theorem dX6_nearer_2 : decode cX6_nearer 2 = .ok (.irem, 1) := by decide +kernel
theorem dX6_nearer_3 : decode cX6_nearer 3 = .ok (.ifCond .le 9, 3) := by decide +kernel
theorem dX6_nearer_6 : decode cX6_nearer 6 = .ok (.iload_n 0, 1) := by decide +kernel
theorem dX6_nearer_7 : decode cX6_nearer 7 = .ok (.iconst 1, 1) := by decide +kernel
theorem dX6_nearer_8 : decode cX6_nearer 8 = .ok (.isub, 1) := by decide +kernel
theorem dX6_nearer_9 : decode cX6_nearer 9 = .ok (.goto 6, 3) := by decide +kernel
theorem dX6_nearer_12 : decode cX6_nearer 12 = .ok (.iload_n 0, 1) := by decide +kernel
theorem dX6_nearer_13 : decode cX6_nearer 13 = .ok (.iconst 4, 1) := by decide +kernel
theorem dX6_nearer_14 : decode cX6_nearer 14 = .ok (.isub, 1) := by decide +kernel
theorem dX6_nearer_15 : decode cX6_nearer 15 = .ok (.ireturn, 1) := by decide +kernel
theorem dX6_does_0 : decode cX6_does 0 = .ok (.aload_n 0, 1) := by decide +kernel
theorem dX6_does_1 : decode cX6_does 1 = .ok (.iload_n 1, 1) := by decide +kernel
theorem dX6_does_2 : decode cX6_does 2 = .ok (.invokevirtual 167, 3) := by decide +kernel
theorem dX6_does_5 : decode cX6_does 5 = .ok (.istore_n 2, 1) := by decide +kernel
theorem dX6_does_6 : decode cX6_does 6 = .ok (.iload_n 2, 1) := by decide +kernel
theorem dX6_does_7 : decode cX6_does 7 = .ok (.iconst (-1), 1) := by decide +kernel
theorem dX6_does_8 : decode cX6_does 8 = .ok (.if_icmp .ne 5, 3) := by decide +kernel
theorem dX6_does_11 : decode cX6_does 11 = .ok (.iconst 0, 1) := by decide +kernel
theorem dX6_does_12 : decode cX6_does 12 = .ok (.ireturn, 1) := by decide +kernel
theorem dX6_does_13 : decode cX6_does 13 = .ok (.aload_n 0, 1) := by decide +kernel
theorem dX6_does_14 : decode cX6_does 14 = .ok (.iconst 0, 1) := by decide +kernel
theorem dX6_does_15 : decode cX6_does 15 = .ok (.invokevirtual 170, 3) := by decide +kernel
theorem dX6_does_18 : decode cX6_does 18 = .ok (.istore_n 3, 1) := by decide +kernel
theorem dX6_does_19 : decode cX6_does 19 = .ok (.iload_n 3, 1) := by decide +kernel
theorem dX6_does_20 : decode cX6_does 20 = .ok (.aload_n 0, 1) := by decide +kernel
theorem dX6_does_21 : decode cX6_does 21 = .ok (.iload_n 2, 1) := by decide +kernel
theorem dX6_does_22 : decode cX6_does 22 = .ok (.invokevirtual 151, 3) := by decide +kernel
theorem dX6_does_25 : decode cX6_does 25 = .ok (.if_icmp .lt 5, 3) := by decide +kernel
theorem dX6_does_28 : decode cX6_does 28 = .ok (.iconst 2, 1) := by decide +kernel
theorem dX6_does_29 : decode cX6_does 29 = .ok (.ireturn, 1) := by decide +kernel
theorem dX6_does_30 : decode cX6_does 30 = .ok (.iconst 2, 1) := by decide +kernel
theorem dX6_does_31 : decode cX6_does 31 = .ok (.iload_n 3, 1) := by decide +kernel
theorem dX6_does_32 : decode cX6_does 32 = .ok (.imul, 1) := by decide +kernel
theorem dX6_does_33 : decode cX6_does 33 = .ok (.aload_n 0, 1) := by decide +kernel
theorem dX6_does_34 : decode cX6_does 34 = .ok (.iload_n 2, 1) := by decide +kernel
theorem dX6_does_35 : decode cX6_does 35 = .ok (.invokevirtual 151, 3) := by decide +kernel
theorem dX6_does_38 : decode cX6_does 38 = .ok (.if_icmp .ge 5, 3) := by decide +kernel
theorem dX6_does_41 : decode cX6_does 41 = .ok (.iconst 0, 1) := by decide +kernel
theorem dX6_does_42 : decode cX6_does 42 = .ok (.ireturn, 1) := by decide +kernel
theorem dX6_does_43 : decode cX6_does 43 = .ok (.iload_n 1, 1) := by decide +kernel
theorem dX6_does_44 : decode cX6_does 44 = .ok (.invokestatic 173, 3) := by decide +kernel
theorem dX6_does_47 : decode cX6_does 47 = .ok (.istore 4, 2) := by decide +kernel
theorem dX6_does_49 : decode cX6_does 49 = .ok (.iload 4, 2) := by decide +kernel
theorem dX6_does_51 : decode cX6_does 51 = .ok (.ifCond .ne 7, 3) := by decide +kernel
theorem dX6_does_54 : decode cX6_does 54 = .ok (.iconst 2, 1) := by decide +kernel
theorem dX6_does_55 : decode cX6_does 55 = .ok (.goto 18, 3) := by decide +kernel
theorem dX6_does_58 : decode cX6_does 58 = .ok (.aload_n 0, 1) := by decide +kernel
theorem dX6_does_59 : decode cX6_does 59 = .ok (.iload 4, 2) := by decide +kernel
theorem dX6_does_61 : decode cX6_does 61 = .ok (.invokevirtual 54, 3) := by decide +kernel
theorem dX6_does_64 : decode cX6_does 64 = .ok (.iconst 5, 1) := by decide +kernel
theorem dX6_does_65 : decode cX6_does 65 = .ok (.if_icmp .ne 7, 3) := by decide +kernel
theorem dX6_does_68 : decode cX6_does 68 = .ok (.iconst 3, 1) := by decide +kernel
theorem dX6_does_69 : decode cX6_does 69 = .ok (.goto 4, 3) := by decide +kernel
theorem dX6_does_72 : decode cX6_does 72 = .ok (.iconst 1, 1) := by decide +kernel
theorem dX6_does_73 : decode cX6_does 73 = .ok (.ireturn, 1) := by decide +kernel
theorem dX6_cellIs_0 : decode cX6_cellIs 0 = .ok (.iload_n 1, 1) := by decide +kernel
theorem dX6_cellIs_1 : decode cX6_cellIs 1 = .ok (.invokestatic 176, 3) := by decide +kernel
theorem dX6_cellIs_4 : decode cX6_cellIs 4 = .ok (.ifCond .eq 12, 3) := by decide +kernel
theorem dX6_cellIs_7 : decode cX6_cellIs 7 = .ok (.iload_n 2, 1) := by decide +kernel
theorem dX6_cellIs_8 : decode cX6_cellIs 8 = .ok (.iconst 0, 1) := by decide +kernel
theorem dX6_cellIs_9 : decode cX6_cellIs 9 = .ok (.iconst 3, 1) := by decide +kernel
theorem dX6_cellIs_10 : decode cX6_cellIs 10 = .ok (.invokestatic 50, 3) := by decide +kernel
theorem dX6_cellIs_13 : decode cX6_cellIs 13 = .ok (.ifCond .ne 9, 3) := by decide +kernel
theorem dX6_cellIs_16 : decode cX6_cellIs 16 = .ok (.aload_n 0, 1) := by decide +kernel
theorem dX6_cellIs_17 : decode cX6_cellIs 17 = .ok (.iconst 1, 1) := by decide +kernel
theorem dX6_cellIs_18 : decode cX6_cellIs 18 = .ok (.invokevirtual 68, 3) := by decide +kernel
theorem dX6_cellIs_21 : decode cX6_cellIs 21 = .ok (.ireturn, 1) := by decide +kernel
theorem dX6_cellIs_22 : decode cX6_cellIs 22 = .ok (.iload_n 2, 1) := by decide +kernel
theorem dX6_cellIs_23 : decode cX6_cellIs 23 = .ok (.tableswitch 56 0 2 #[25, 31, 37], 25) := by decide +kernel
theorem dX6_cellIs_48 : decode cX6_cellIs 48 = .ok (.aload_n 0, 1) := by decide +kernel
theorem dX6_cellIs_49 : decode cX6_cellIs 49 = .ok (.iload_n 1, 1) := by decide +kernel
theorem dX6_cellIs_50 : decode cX6_cellIs 50 = .ok (.invokevirtual 54, 3) := by decide +kernel
theorem dX6_cellIs_53 : decode cX6_cellIs 53 = .ok (.ireturn, 1) := by decide +kernel
theorem dX6_cellIs_54 : decode cX6_cellIs 54 = .ok (.aload_n 0, 1) := by decide +kernel
theorem dX6_cellIs_55 : decode cX6_cellIs 55 = .ok (.iload_n 1, 1) := by decide +kernel
theorem dX6_cellIs_56 : decode cX6_cellIs 56 = .ok (.invokevirtual 167, 3) := by decide +kernel
theorem dX6_cellIs_59 : decode cX6_cellIs 59 = .ok (.ireturn, 1) := by decide +kernel
theorem dX6_cellIs_60 : decode cX6_cellIs 60 = .ok (.aload_n 0, 1) := by decide +kernel
theorem dX6_cellIs_61 : decode cX6_cellIs 61 = .ok (.iload_n 1, 1) := by decide +kernel
theorem dX6_cellIs_62 : decode cX6_cellIs 62 = .ok (.invokevirtual 54, 3) := by decide +kernel
theorem dX6_cellIs_65 : decode cX6_cellIs 65 = .ok (.ifCond .ne 7, 3) := by decide +kernel
theorem dX6_cellIs_68 : decode cX6_cellIs 68 = .ok (.iconst (-1), 1) := by decide +kernel
theorem dX6_cellIs_69 : decode cX6_cellIs 69 = .ok (.goto 9, 3) := by decide +kernel
theorem dX6_cellIs_72 : decode cX6_cellIs 72 = .ok (.aload_n 0, 1) := by decide +kernel
theorem dX6_cellIs_73 : decode cX6_cellIs 73 = .ok (.iload_n 1, 1) := by decide +kernel
theorem dX6_cellIs_74 : decode cX6_cellIs 74 = .ok (.iconst 0, 1) := by decide +kernel
theorem dX6_cellIs_75 : decode cX6_cellIs 75 = .ok (.invokevirtual 58, 3) := by decide +kernel
theorem dX6_cellIs_78 : decode cX6_cellIs 78 = .ok (.ireturn, 1) := by decide +kernel
theorem dX6_cellIs_79 : decode cX6_cellIs 79 = .ok (.aload_n 0, 1) := by decide +kernel
theorem dX6_cellIs_80 : decode cX6_cellIs 80 = .ok (.iload_n 1, 1) := by decide +kernel
theorem dX6_cellIs_81 : decode cX6_cellIs 81 = .ok (.invokevirtual 179, 3) := by decide +kernel
theorem dX6_cellIs_84 : decode cX6_cellIs 84 = .ok (.ireturn, 1) := by decide +kernel
theorem dX6_pulls1_0 : decode cX6_pulls1 0 = .ok (.aload_n 0, 1) := by decide +kernel
theorem dX6_pulls1_1 : decode cX6_pulls1 1 = .ok (.iload_n 1, 1) := by decide +kernel
theorem dX6_pulls1_2 : decode cX6_pulls1 2 = .ok (.invokevirtual 179, 3) := by decide +kernel
theorem dX6_pulls1_5 : decode cX6_pulls1 5 = .ok (.istore_n 2, 1) := by decide +kernel
theorem dX6_pulls1_6 : decode cX6_pulls1 6 = .ok (.aload_n 0, 1) := by decide +kernel
theorem dX6_pulls1_7 : decode cX6_pulls1 7 = .ok (.iload_n 1, 1) := by decide +kernel
theorem dX6_pulls1_8 : decode cX6_pulls1 8 = .ok (.invokevirtual 167, 3) := by decide +kernel
theorem dX6_pulls1_11 : decode cX6_pulls1 11 = .ok (.istore_n 3, 1) := by decide +kernel
theorem dX6_pulls1_12 : decode cX6_pulls1 12 = .ok (.iload_n 2, 1) := by decide +kernel
theorem dX6_pulls1_13 : decode cX6_pulls1 13 = .ok (.iconst 2, 1) := by decide +kernel
theorem dX6_pulls1_14 : decode cX6_pulls1 14 = .ok (.if_icmp .ne 9, 3) := by decide +kernel
theorem dX6_pulls1_17 : decode cX6_pulls1 17 = .ok (.aload_n 0, 1) := by decide +kernel
theorem dX6_pulls1_18 : decode cX6_pulls1 18 = .ok (.iload_n 3, 1) := by decide +kernel
theorem dX6_pulls1_19 : decode cX6_pulls1 19 = .ok (.iconst (-1), 1) := by decide +kernel
theorem dX6_pulls1_20 : decode cX6_pulls1 20 = .ok (.invokevirtual 164, 3) := by decide +kernel
theorem dX6_pulls1_23 : decode cX6_pulls1 23 = .ok (.iload_n 2, 1) := by decide +kernel
theorem dX6_pulls1_24 : decode cX6_pulls1 24 = .ok (.iconst 1, 1) := by decide +kernel
theorem dX6_pulls1_25 : decode cX6_pulls1 25 = .ok (.if_icmp .ne 19, 3) := by decide +kernel
theorem dX6_pulls1_28 : decode cX6_pulls1 28 = .ok (.aload_n 0, 1) := by decide +kernel
theorem dX6_pulls1_29 : decode cX6_pulls1 29 = .ok (.iload_n 3, 1) := by decide +kernel
theorem dX6_pulls1_30 : decode cX6_pulls1 30 = .ok (.bipush (-2), 2) := by decide +kernel
theorem dX6_pulls1_32 : decode cX6_pulls1 32 = .ok (.invokevirtual 164, 3) := by decide +kernel
theorem dX6_pulls1_35 : decode cX6_pulls1 35 = .ok (.aload_n 0, 1) := by decide +kernel
theorem dX6_pulls1_36 : decode cX6_pulls1 36 = .ok (.iload_n 3, 1) := by decide +kernel
theorem dX6_pulls1_37 : decode cX6_pulls1 37 = .ok (.iload_n 1, 1) := by decide +kernel
theorem dX6_pulls1_38 : decode cX6_pulls1 38 = .ok (.invokestatic 173, 3) := by decide +kernel
theorem dX6_pulls1_41 : decode cX6_pulls1 41 = .ok (.invokevirtual 145, 3) := by decide +kernel
theorem dX6_pulls1_44 : decode cX6_pulls1 44 = .ok (.aload_n 0, 1) := by decide +kernel
theorem dX6_pulls1_45 : decode cX6_pulls1 45 = .ok (.getfield 7, 3) := by decide +kernel
theorem dX6_pulls1_48 : decode cX6_pulls1 48 = .ok (.iconst 1, 1) := by decide +kernel
theorem dX6_pulls1_49 : decode cX6_pulls1 49 = .ok (.aload_n 0, 1) := by decide +kernel
theorem dX6_pulls1_50 : decode cX6_pulls1 50 = .ok (.getfield 7, 3) := by decide +kernel
theorem dX6_pulls1_53 : decode cX6_pulls1 53 = .ok (.iconst 1, 1) := by decide +kernel
theorem dX6_pulls1_54 : decode cX6_pulls1 54 = .ok (.iaload, 1) := by decide +kernel
theorem dX6_pulls1_55 : decode cX6_pulls1 55 = .ok (.iconst 1, 1) := by decide +kernel
theorem dX6_pulls1_56 : decode cX6_pulls1 56 = .ok (.iadd, 1) := by decide +kernel
theorem dX6_pulls1_57 : decode cX6_pulls1 57 = .ok (.iconst 0, 1) := by decide +kernel
theorem dX6_pulls1_58 : decode cX6_pulls1 58 = .ok (.ldc 182, 2) := by decide +kernel
theorem dX6_pulls1_60 : decode cX6_pulls1 60 = .ok (.invokestatic 139, 3) := by decide +kernel
theorem dX6_pulls1_63 : decode cX6_pulls1 63 = .ok (.iastore, 1) := by decide +kernel
theorem dX6_pulls1_64 : decode cX6_pulls1 64 = .ok (.aload_n 0, 1) := by decide +kernel
theorem dX6_pulls1_65 : decode cX6_pulls1 65 = .ok (.getfield 7, 3) := by decide +kernel
theorem dX6_pulls1_68 : decode cX6_pulls1 68 = .ok (.iconst 2, 1) := by decide +kernel
theorem dX6_pulls1_69 : decode cX6_pulls1 69 = .ok (.aload_n 0, 1) := by decide +kernel
theorem dX6_pulls1_70 : decode cX6_pulls1 70 = .ok (.getfield 7, 3) := by decide +kernel
theorem dX6_pulls1_73 : decode cX6_pulls1 73 = .ok (.iconst 2, 1) := by decide +kernel
theorem dX6_pulls1_74 : decode cX6_pulls1 74 = .ok (.iaload, 1) := by decide +kernel
theorem dX6_pulls1_75 : decode cX6_pulls1 75 = .ok (.iconst 1, 1) := by decide +kernel
theorem dX6_pulls1_76 : decode cX6_pulls1 76 = .ok (.iadd, 1) := by decide +kernel
theorem dX6_pulls1_77 : decode cX6_pulls1 77 = .ok (.iconst 0, 1) := by decide +kernel
theorem dX6_pulls1_78 : decode cX6_pulls1 78 = .ok (.sipush 9999, 3) := by decide +kernel
theorem dX6_pulls1_81 : decode cX6_pulls1 81 = .ok (.invokestatic 139, 3) := by decide +kernel
theorem dX6_pulls1_84 : decode cX6_pulls1 84 = .ok (.iastore, 1) := by decide +kernel
theorem dX6_pulls1_85 : decode cX6_pulls1 85 = .ok (.iload_n 2, 1) := by decide +kernel
theorem dX6_pulls1_86 : decode cX6_pulls1 86 = .ok (.iconst 2, 1) := by decide +kernel
theorem dX6_pulls1_87 : decode cX6_pulls1 87 = .ok (.if_icmp .ne 7, 3) := by decide +kernel
theorem dX6_pulls1_90 : decode cX6_pulls1 90 = .ok (.iload_n 3, 1) := by decide +kernel
theorem dX6_pulls1_91 : decode cX6_pulls1 91 = .ok (.goto 4, 3) := by decide +kernel
theorem dX6_pulls1_94 : decode cX6_pulls1 94 = .ok (.iconst (-1), 1) := by decide +kernel
theorem dX6_pulls1_95 : decode cX6_pulls1 95 = .ok (.ireturn, 1) := by decide +kernel
theorem dX6_pull_0 : decode cX6_pull 0 = .ok (.iload_n 1, 1) := by decide +kernel
theorem dX6_pull_1 : decode cX6_pull 1 = .ok (.invokestatic 142, 3) := by decide +kernel
theorem dX6_pull_4 : decode cX6_pull 4 = .ok (.ifCond .eq 11, 3) := by decide +kernel
theorem dX6_pull_7 : decode cX6_pull 7 = .ok (.aload_n 0, 1) := by decide +kernel
theorem dX6_pull_8 : decode cX6_pull 8 = .ok (.iload_n 1, 1) := by decide +kernel
theorem dX6_pull_9 : decode cX6_pull 9 = .ok (.invokevirtual 183, 3) := by decide +kernel
theorem dX6_pull_12 : decode cX6_pull 12 = .ok (.goto 8, 3) := by decide +kernel
theorem dX6_pull_15 : decode cX6_pull 15 = .ok (.aload_n 0, 1) := by decide +kernel
theorem dX6_pull_16 : decode cX6_pull 16 = .ok (.iconst 1, 1) := by decide +kernel
theorem dX6_pull_17 : decode cX6_pull 17 = .ok (.invokevirtual 68, 3) := by decide +kernel
theorem dX6_pull_20 : decode cX6_pull 20 = .ok (.ireturn, 1) := by decide +kernel
theorem dX6_rowOf_0 : decode cX6_rowOf 0 = .ok (.iconst 0, 1) := by decide +kernel
theorem dX6_rowOf_1 : decode cX6_rowOf 1 = .ok (.istore_n 2, 1) := by decide +kernel
theorem dX6_rowOf_2 : decode cX6_rowOf 2 = .ok (.iload_n 2, 1) := by decide +kernel
theorem dX6_rowOf_3 : decode cX6_rowOf 3 = .ok (.aload_n 0, 1) := by decide +kernel
theorem dX6_rowOf_4 : decode cX6_rowOf 4 = .ok (.getfield 40, 3) := by decide +kernel
theorem dX6_rowOf_7 : decode cX6_rowOf 7 = .ok (.iload_n 1, 1) := by decide +kernel
theorem dX6_rowOf_8 : decode cX6_rowOf 8 = .ok (.iaload, 1) := by decide +kernel
theorem dX6_rowOf_9 : decode cX6_rowOf 9 = .ok (.if_icmp .ge 26, 3) := by decide +kernel
theorem dX6_rowOf_12 : decode cX6_rowOf 12 = .ok (.aload_n 0, 1) := by decide +kernel
theorem dX6_rowOf_13 : decode cX6_rowOf 13 = .ok (.getfield 43, 3) := by decide +kernel
theorem dX6_rowOf_16 : decode cX6_rowOf 16 = .ok (.bipush 24, 2) := by decide +kernel
theorem dX6_rowOf_18 : decode cX6_rowOf 18 = .ok (.iload_n 1, 1) := by decide +kernel
theorem dX6_rowOf_19 : decode cX6_rowOf 19 = .ok (.imul, 1) := by decide +kernel
theorem dX6_rowOf_20 : decode cX6_rowOf 20 = .ok (.iload_n 2, 1) := by decide +kernel
theorem dX6_rowOf_21 : decode cX6_rowOf 21 = .ok (.iadd, 1) := by decide +kernel
theorem dX6_rowOf_22 : decode cX6_rowOf 22 = .ok (.iaload, 1) := by decide +kernel
theorem dX6_rowOf_23 : decode cX6_rowOf 23 = .ok (.invokestatic 142, 3) := by decide +kernel
theorem dX6_rowOf_26 : decode cX6_rowOf 26 = .ok (.ifCond .eq 9, 3) := by decide +kernel
theorem dX6_rowOf_29 : decode cX6_rowOf 29 = .ok (.iinc 2 1, 3) := by decide +kernel
theorem dX6_rowOf_32 : decode cX6_rowOf 32 = .ok (.goto (-30), 3) := by decide +kernel
theorem dX6_rowOf_35 : decode cX6_rowOf 35 = .ok (.iload_n 2, 1) := by decide +kernel
theorem dX6_rowOf_36 : decode cX6_rowOf 36 = .ok (.ireturn, 1) := by decide +kernel
theorem dX6_pulls_0 : decode cX6_pulls 0 = .ok (.aload_n 0, 1) := by decide +kernel
theorem dX6_pulls_1 : decode cX6_pulls 1 = .ok (.iload_n 1, 1) := by decide +kernel
theorem dX6_pulls_2 : decode cX6_pulls 2 = .ok (.invokevirtual 186, 3) := by decide +kernel
theorem dX6_pulls_5 : decode cX6_pulls 5 = .ok (.istore_n 2, 1) := by decide +kernel
theorem dX6_pulls_6 : decode cX6_pulls 6 = .ok (.iload_n 2, 1) := by decide +kernel
theorem dX6_pulls_7 : decode cX6_pulls 7 = .ok (.ifCond .le 9, 3) := by decide +kernel
theorem dX6_pulls_10 : decode cX6_pulls 10 = .ok (.aload_n 0, 1) := by decide +kernel
theorem dX6_pulls_11 : decode cX6_pulls 11 = .ok (.iload_n 2, 1) := by decide +kernel
theorem dX6_pulls_12 : decode cX6_pulls 12 = .ok (.invokevirtual 68, 3) := by decide +kernel
theorem dX6_pulls_15 : decode cX6_pulls 15 = .ok (.ireturn, 1) := by decide +kernel
theorem dX6_pulls_16 : decode cX6_pulls 16 = .ok (.aload_n 0, 1) := by decide +kernel
theorem dX6_pulls_17 : decode cX6_pulls 17 = .ok (.iload_n 1, 1) := by decide +kernel
theorem dX6_pulls_18 : decode cX6_pulls 18 = .ok (.invokevirtual 189, 3) := by decide +kernel
theorem dX6_pulls_21 : decode cX6_pulls 21 = .ok (.istore_n 3, 1) := by decide +kernel
theorem dX6_pulls_22 : decode cX6_pulls 22 = .ok (.iconst 0, 1) := by decide +kernel
theorem dX6_pulls_23 : decode cX6_pulls 23 = .ok (.istore 4, 2) := by decide +kernel
theorem dX6_pulls_25 : decode cX6_pulls 25 = .ok (.iload 4, 2) := by decide +kernel
theorem dX6_pulls_27 : decode cX6_pulls 27 = .ok (.iload_n 3, 1) := by decide +kernel
theorem dX6_pulls_28 : decode cX6_pulls 28 = .ok (.if_icmp .ge 27, 3) := by decide +kernel
theorem dX6_pulls_31 : decode cX6_pulls 31 = .ok (.aload_n 0, 1) := by decide +kernel
theorem dX6_pulls_32 : decode cX6_pulls 32 = .ok (.aload_n 0, 1) := by decide +kernel
theorem dX6_pulls_33 : decode cX6_pulls 33 = .ok (.getfield 43, 3) := by decide +kernel
theorem dX6_pulls_36 : decode cX6_pulls 36 = .ok (.bipush 24, 2) := by decide +kernel
theorem dX6_pulls_38 : decode cX6_pulls 38 = .ok (.iload_n 1, 1) := by decide +kernel
theorem dX6_pulls_39 : decode cX6_pulls 39 = .ok (.imul, 1) := by decide +kernel
theorem dX6_pulls_40 : decode cX6_pulls 40 = .ok (.iload 4, 2) := by decide +kernel
theorem dX6_pulls_42 : decode cX6_pulls 42 = .ok (.iadd, 1) := by decide +kernel
theorem dX6_pulls_43 : decode cX6_pulls 43 = .ok (.iaload, 1) := by decide +kernel
theorem dX6_pulls_44 : decode cX6_pulls 44 = .ok (.invokevirtual 183, 3) := by decide +kernel
theorem dX6_pulls_47 : decode cX6_pulls 47 = .ok (.istore 5, 2) := by decide +kernel
theorem dX6_pulls_49 : decode cX6_pulls 49 = .ok (.iinc 4 1, 3) := by decide +kernel
theorem dX6_pulls_52 : decode cX6_pulls 52 = .ok (.goto (-27), 3) := by decide +kernel
theorem dX6_pulls_55 : decode cX6_pulls 55 = .ok (.iload_n 3, 1) := by decide +kernel
theorem dX6_pulls_56 : decode cX6_pulls 56 = .ok (.ireturn, 1) := by decide +kernel
theorem dX6_draw_0 : decode cX6_draw 0 = .ok (.aload_n 0, 1) := by decide +kernel
theorem dX6_draw_1 : decode cX6_draw 1 = .ok (.getfield 7, 3) := by decide +kernel
theorem dX6_draw_4 : decode cX6_draw 4 = .ok (.bipush 7, 2) := by decide +kernel
theorem dX6_draw_6 : decode cX6_draw 6 = .ok (.aload_n 0, 1) := by decide +kernel
theorem dX6_draw_7 : decode cX6_draw 7 = .ok (.getfield 7, 3) := by decide +kernel
theorem dX6_draw_10 : decode cX6_draw 10 = .ok (.bipush 7, 2) := by decide +kernel
theorem dX6_draw_12 : decode cX6_draw 12 = .ok (.iaload, 1) := by decide +kernel
theorem dX6_draw_13 : decode cX6_draw 13 = .ok (.ldc 192, 2) := by decide +kernel
theorem dX6_draw_15 : decode cX6_draw 15 = .ok (.imul, 1) := by decide +kernel
theorem dX6_draw_16 : decode cX6_draw 16 = .ok (.sipush 12345, 3) := by decide +kernel
theorem dX6_draw_19 : decode cX6_draw 19 = .ok (.iadd, 1) := by decide +kernel
theorem dX6_draw_20 : decode cX6_draw 20 = .ok (.iastore, 1) := by decide +kernel
theorem dX6_draw_21 : decode cX6_draw 21 = .ok (.aload_n 0, 1) := by decide +kernel
theorem dX6_draw_22 : decode cX6_draw 22 = .ok (.getfield 7, 3) := by decide +kernel
theorem dX6_draw_25 : decode cX6_draw 25 = .ok (.bipush 7, 2) := by decide +kernel
theorem dX6_draw_27 : decode cX6_draw 27 = .ok (.iaload, 1) := by decide +kernel
theorem dX6_draw_28 : decode cX6_draw 28 = .ok (.bipush 8, 2) := by decide +kernel
theorem dX6_draw_30 : decode cX6_draw 30 = .ok (.iushr, 1) := by decide +kernel
theorem dX6_draw_31 : decode cX6_draw 31 = .ok (.ireturn, 1) := by decide +kernel
theorem dX6_draws_0 : decode cX6_draws 0 = .ok (.iload_n 1, 1) := by decide +kernel
theorem dX6_draws_1 : decode cX6_draws 1 = .ok (.iconst 1, 1) := by decide +kernel
theorem dX6_draws_2 : decode cX6_draws 2 = .ok (.bipush 60, 2) := by decide +kernel
theorem dX6_draws_4 : decode cX6_draws 4 = .ok (.invokestatic 50, 3) := by decide +kernel
theorem dX6_draws_7 : decode cX6_draws 7 = .ok (.ifCond .ne 9, 3) := by decide +kernel
theorem dX6_draws_10 : decode cX6_draws 10 = .ok (.aload_n 0, 1) := by decide +kernel
theorem dX6_draws_11 : decode cX6_draws 11 = .ok (.iconst 1, 1) := by decide +kernel
theorem dX6_draws_12 : decode cX6_draws 12 = .ok (.invokevirtual 68, 3) := by decide +kernel
theorem dX6_draws_15 : decode cX6_draws 15 = .ok (.ireturn, 1) := by decide +kernel
theorem dX6_draws_16 : decode cX6_draws 16 = .ok (.iconst 0, 1) := by decide +kernel
theorem dX6_draws_17 : decode cX6_draws 17 = .ok (.istore_n 2, 1) := by decide +kernel
theorem dX6_draws_18 : decode cX6_draws 18 = .ok (.iconst 0, 1) := by decide +kernel
theorem dX6_draws_19 : decode cX6_draws 19 = .ok (.istore_n 3, 1) := by decide +kernel
theorem dX6_draws_20 : decode cX6_draws 20 = .ok (.iload_n 3, 1) := by decide +kernel
theorem dX6_draws_21 : decode cX6_draws 21 = .ok (.iload_n 1, 1) := by decide +kernel
theorem dX6_draws_22 : decode cX6_draws 22 = .ok (.if_icmp .ge 34, 3) := by decide +kernel
theorem dX6_draws_25 : decode cX6_draws 25 = .ok (.iload_n 2, 1) := by decide +kernel
theorem dX6_draws_26 : decode cX6_draws 26 = .ok (.aload_n 0, 1) := by decide +kernel
theorem dX6_draws_27 : decode cX6_draws 27 = .ok (.iconst 1, 1) := by decide +kernel
theorem dX6_draws_28 : decode cX6_draws 28 = .ok (.aload_n 0, 1) := by decide +kernel
theorem dX6_draws_29 : decode cX6_draws 29 = .ok (.invokevirtual 193, 3) := by decide +kernel
theorem dX6_draws_32 : decode cX6_draws 32 = .ok (.bipush 15, 2) := by decide +kernel
theorem dX6_draws_34 : decode cX6_draws 34 = .ok (.irem, 1) := by decide +kernel
theorem dX6_draws_35 : decode cX6_draws 35 = .ok (.iadd, 1) := by decide +kernel
theorem dX6_draws_36 : decode cX6_draws 36 = .ok (.invokevirtual 183, 3) := by decide +kernel
theorem dX6_draws_39 : decode cX6_draws 39 = .ok (.iconst (-1), 1) := by decide +kernel
theorem dX6_draws_40 : decode cX6_draws 40 = .ok (.if_icmp .ne 7, 3) := by decide +kernel
theorem dX6_draws_43 : decode cX6_draws 43 = .ok (.iconst 0, 1) := by decide +kernel
theorem dX6_draws_44 : decode cX6_draws 44 = .ok (.goto 4, 3) := by decide +kernel
theorem dX6_draws_47 : decode cX6_draws 47 = .ok (.iconst 1, 1) := by decide +kernel
theorem dX6_draws_48 : decode cX6_draws 48 = .ok (.iadd, 1) := by decide +kernel
theorem dX6_draws_49 : decode cX6_draws 49 = .ok (.istore_n 2, 1) := by decide +kernel
theorem dX6_draws_50 : decode cX6_draws 50 = .ok (.iinc 3 1, 3) := by decide +kernel
theorem dX6_draws_53 : decode cX6_draws 53 = .ok (.goto (-33), 3) := by decide +kernel
theorem dX6_draws_56 : decode cX6_draws 56 = .ok (.iload_n 2, 1) := by decide +kernel
theorem dX6_draws_57 : decode cX6_draws 57 = .ok (.ireturn, 1) := by decide +kernel
theorem dX6_seed_0 : decode cX6_seed 0 = .ok (.aload_n 0, 1) := by decide +kernel
theorem dX6_seed_1 : decode cX6_seed 1 = .ok (.bipush 7, 2) := by decide +kernel
theorem dX6_seed_3 : decode cX6_seed 3 = .ok (.iload_n 1, 1) := by decide +kernel
theorem dX6_seed_4 : decode cX6_seed 4 = .ok (.invokevirtual 161, 3) := by decide +kernel
theorem dX6_seed_7 : decode cX6_seed 7 = .ok (.ireturn, 1) := by decide +kernel
theorem dX6_wins_0 : decode cX6_wins 0 = .ok (.iload_n 2, 1) := by decide +kernel
theorem dX6_wins_1 : decode cX6_wins 1 = .ok (.iload_n 3, 1) := by decide +kernel
theorem dX6_wins_2 : decode cX6_wins 2 = .ok (.if_icmp .ne 19, 3) := by decide +kernel
theorem dX6_wins_5 : decode cX6_wins 5 = .ok (.aload_n 0, 1) := by decide +kernel
theorem dX6_wins_6 : decode cX6_wins 6 = .ok (.iload_n 1, 1) := by decide +kernel
theorem dX6_wins_7 : decode cX6_wins 7 = .ok (.iconst 3, 1) := by decide +kernel
theorem dX6_wins_8 : decode cX6_wins 8 = .ok (.invokevirtual 62, 3) := by decide +kernel
theorem dX6_wins_11 : decode cX6_wins 11 = .ok (.iconst (-1), 1) := by decide +kernel
theorem dX6_wins_12 : decode cX6_wins 12 = .ok (.if_icmp .ne 7, 3) := by decide +kernel
theorem dX6_wins_15 : decode cX6_wins 15 = .ok (.iconst 1, 1) := by decide +kernel
theorem dX6_wins_16 : decode cX6_wins 16 = .ok (.goto 4, 3) := by decide +kernel
theorem dX6_wins_19 : decode cX6_wins 19 = .ok (.iconst 0, 1) := by decide +kernel
theorem dX6_wins_20 : decode cX6_wins 20 = .ok (.ireturn, 1) := by decide +kernel
theorem dX6_wins_21 : decode cX6_wins 21 = .ok (.aload_n 0, 1) := by decide +kernel
theorem dX6_wins_22 : decode cX6_wins 22 = .ok (.iload_n 2, 1) := by decide +kernel
theorem dX6_wins_23 : decode cX6_wins 23 = .ok (.invokevirtual 196, 3) := by decide +kernel
theorem dX6_wins_26 : decode cX6_wins 26 = .ok (.iconst 1, 1) := by decide +kernel
theorem dX6_wins_27 : decode cX6_wins 27 = .ok (.istore 4, 2) := by decide +kernel
theorem dX6_wins_29 : decode cX6_wins 29 = .ok (.iload 4, 2) := by decide +kernel
theorem dX6_wins_31 : decode cX6_wins 31 = .ok (.bipush 16, 2) := by decide +kernel
theorem dX6_wins_33 : decode cX6_wins 33 = .ok (.if_icmp .ge 48, 3) := by decide +kernel
theorem dX6_wins_36 : decode cX6_wins 36 = .ok (.aload_n 0, 1) := by decide +kernel
theorem dX6_wins_37 : decode cX6_wins 37 = .ok (.getfield 31, 3) := by decide +kernel
theorem dX6_wins_40 : decode cX6_wins 40 = .ok (.iload_n 2, 1) := by decide +kernel
theorem dX6_wins_41 : decode cX6_wins 41 = .ok (.iload 4, 2) := by decide +kernel
theorem dX6_wins_43 : decode cX6_wins 43 = .ok (.iastore, 1) := by decide +kernel
theorem dX6_wins_44 : decode cX6_wins 44 = .ok (.aload_n 0, 1) := by decide +kernel
theorem dX6_wins_45 : decode cX6_wins 45 = .ok (.iload 4, 2) := by decide +kernel
theorem dX6_wins_47 : decode cX6_wins 47 = .ok (.invokevirtual 183, 3) := by decide +kernel
theorem dX6_wins_50 : decode cX6_wins 50 = .ok (.istore 5, 2) := by decide +kernel
theorem dX6_wins_52 : decode cX6_wins 52 = .ok (.aload_n 0, 1) := by decide +kernel
theorem dX6_wins_53 : decode cX6_wins 53 = .ok (.iload_n 1, 1) := by decide +kernel
theorem dX6_wins_54 : decode cX6_wins 54 = .ok (.iload_n 2, 1) := by decide +kernel
theorem dX6_wins_55 : decode cX6_wins 55 = .ok (.iconst 1, 1) := by decide +kernel
theorem dX6_wins_56 : decode cX6_wins 56 = .ok (.iadd, 1) := by decide +kernel
theorem dX6_wins_57 : decode cX6_wins 57 = .ok (.iload_n 3, 1) := by decide +kernel
theorem dX6_wins_58 : decode cX6_wins 58 = .ok (.invokevirtual 200, 3) := by decide +kernel
theorem dX6_wins_61 : decode cX6_wins 61 = .ok (.istore 6, 2) := by decide +kernel
theorem dX6_wins_63 : decode cX6_wins 63 = .ok (.aload_n 0, 1) := by decide +kernel
theorem dX6_wins_64 : decode cX6_wins 64 = .ok (.iload_n 2, 1) := by decide +kernel
theorem dX6_wins_65 : decode cX6_wins 65 = .ok (.invokevirtual 203, 3) := by decide +kernel
theorem dX6_wins_68 : decode cX6_wins 68 = .ok (.iload 6, 2) := by decide +kernel
theorem dX6_wins_70 : decode cX6_wins 70 = .ok (.ifCond .eq 5, 3) := by decide +kernel
theorem dX6_wins_73 : decode cX6_wins 73 = .ok (.iconst 1, 1) := by decide +kernel
theorem dX6_wins_74 : decode cX6_wins 74 = .ok (.ireturn, 1) := by decide +kernel
theorem dX6_wins_75 : decode cX6_wins 75 = .ok (.iinc 4 1, 3) := by decide +kernel
theorem dX6_wins_78 : decode cX6_wins 78 = .ok (.goto (-49), 3) := by decide +kernel
theorem dX6_wins_81 : decode cX6_wins 81 = .ok (.iconst 0, 1) := by decide +kernel
theorem dX6_wins_82 : decode cX6_wins 82 = .ok (.ireturn, 1) := by decide +kernel
theorem dX6_fewest_0 : decode cX6_fewest 0 = .ok (.aload_n 0, 1) := by decide +kernel
theorem dX6_fewest_1 : decode cX6_fewest 1 = .ok (.iload_n 1, 1) := by decide +kernel
theorem dX6_fewest_2 : decode cX6_fewest 2 = .ok (.invokevirtual 148, 3) := by decide +kernel
theorem dX6_fewest_5 : decode cX6_fewest 5 = .ok (.ifCond .eq 21, 3) := by decide +kernel
theorem dX6_fewest_8 : decode cX6_fewest 8 = .ok (.iload_n 2, 1) := by decide +kernel
theorem dX6_fewest_9 : decode cX6_fewest 9 = .ok (.iconst 1, 1) := by decide +kernel
theorem dX6_fewest_10 : decode cX6_fewest 10 = .ok (.iconst 3, 1) := by decide +kernel
theorem dX6_fewest_11 : decode cX6_fewest 11 = .ok (.invokestatic 50, 3) := by decide +kernel
theorem dX6_fewest_14 : decode cX6_fewest 14 = .ok (.ifCond .eq 12, 3) := by decide +kernel
theorem dX6_fewest_17 : decode cX6_fewest 17 = .ok (.iload_n 3, 1) := by decide +kernel
theorem dX6_fewest_18 : decode cX6_fewest 18 = .ok (.iconst (-1), 1) := by decide +kernel
theorem dX6_fewest_19 : decode cX6_fewest 19 = .ok (.iconst 2, 1) := by decide +kernel
theorem dX6_fewest_20 : decode cX6_fewest 20 = .ok (.invokestatic 50, 3) := by decide +kernel
theorem dX6_fewest_23 : decode cX6_fewest 23 = .ok (.ifCond .ne 9, 3) := by decide +kernel
theorem dX6_fewest_26 : decode cX6_fewest 26 = .ok (.aload_n 0, 1) := by decide +kernel
theorem dX6_fewest_27 : decode cX6_fewest 27 = .ok (.iconst 1, 1) := by decide +kernel
theorem dX6_fewest_28 : decode cX6_fewest 28 = .ok (.invokevirtual 68, 3) := by decide +kernel
theorem dX6_fewest_31 : decode cX6_fewest 31 = .ok (.ireturn, 1) := by decide +kernel
theorem dX6_fewest_32 : decode cX6_fewest 32 = .ok (.aload_n 0, 1) := by decide +kernel
theorem dX6_fewest_33 : decode cX6_fewest 33 = .ok (.iload_n 1, 1) := by decide +kernel
theorem dX6_fewest_34 : decode cX6_fewest 34 = .ok (.iconst 3, 1) := by decide +kernel
theorem dX6_fewest_35 : decode cX6_fewest 35 = .ok (.invokevirtual 62, 3) := by decide +kernel
theorem dX6_fewest_38 : decode cX6_fewest 38 = .ok (.ifCond .ge 9, 3) := by decide +kernel
theorem dX6_fewest_41 : decode cX6_fewest 41 = .ok (.aload_n 0, 1) := by decide +kernel
theorem dX6_fewest_42 : decode cX6_fewest 42 = .ok (.iconst 3, 1) := by decide +kernel
theorem dX6_fewest_43 : decode cX6_fewest 43 = .ok (.invokevirtual 68, 3) := by decide +kernel
theorem dX6_fewest_46 : decode cX6_fewest 46 = .ok (.ireturn, 1) := by decide +kernel
theorem dX6_fewest_47 : decode cX6_fewest 47 = .ok (.iconst 1, 1) := by decide +kernel
theorem dX6_fewest_48 : decode cX6_fewest 48 = .ok (.istore 4, 2) := by decide +kernel
theorem dX6_fewest_50 : decode cX6_fewest 50 = .ok (.iload 4, 2) := by decide +kernel
theorem dX6_fewest_52 : decode cX6_fewest 52 = .ok (.iload_n 2, 1) := by decide +kernel
theorem dX6_fewest_53 : decode cX6_fewest 53 = .ok (.if_icmp .gt 20, 3) := by decide +kernel
theorem dX6_fewest_56 : decode cX6_fewest 56 = .ok (.aload_n 0, 1) := by decide +kernel
theorem dX6_fewest_57 : decode cX6_fewest 57 = .ok (.iload_n 1, 1) := by decide +kernel
theorem dX6_fewest_58 : decode cX6_fewest 58 = .ok (.iconst 0, 1) := by decide +kernel
theorem dX6_fewest_59 : decode cX6_fewest 59 = .ok (.iload 4, 2) := by decide +kernel
theorem dX6_fewest_61 : decode cX6_fewest 61 = .ok (.invokevirtual 200, 3) := by decide +kernel
theorem dX6_fewest_64 : decode cX6_fewest 64 = .ok (.ifCond .ne 9, 3) := by decide +kernel
theorem dX6_fewest_67 : decode cX6_fewest 67 = .ok (.iinc 4 1, 3) := by decide +kernel
theorem dX6_fewest_70 : decode cX6_fewest 70 = .ok (.goto (-20), 3) := by decide +kernel
theorem dX6_fewest_73 : decode cX6_fewest 73 = .ok (.iload 4, 2) := by decide +kernel
theorem dX6_fewest_75 : decode cX6_fewest 75 = .ok (.iload_n 2, 1) := by decide +kernel
theorem dX6_fewest_76 : decode cX6_fewest 76 = .ok (.if_icmp .gt 9, 3) := by decide +kernel
theorem dX6_fewest_79 : decode cX6_fewest 79 = .ok (.iload_n 3, 1) := by decide +kernel
theorem dX6_fewest_80 : decode cX6_fewest 80 = .ok (.iload 4, 2) := by decide +kernel
theorem dX6_fewest_82 : decode cX6_fewest 82 = .ok (.if_icmp .lt 9, 3) := by decide +kernel
theorem dX6_fewest_85 : decode cX6_fewest 85 = .ok (.aload_n 0, 1) := by decide +kernel
theorem dX6_fewest_86 : decode cX6_fewest 86 = .ok (.iconst 2, 1) := by decide +kernel
theorem dX6_fewest_87 : decode cX6_fewest 87 = .ok (.invokevirtual 68, 3) := by decide +kernel
theorem dX6_fewest_90 : decode cX6_fewest 90 = .ok (.ireturn, 1) := by decide +kernel
theorem dX6_fewest_91 : decode cX6_fewest 91 = .ok (.iload_n 3, 1) := by decide +kernel
theorem dX6_fewest_92 : decode cX6_fewest 92 = .ok (.iconst (-1), 1) := by decide +kernel
theorem dX6_fewest_93 : decode cX6_fewest 93 = .ok (.if_icmp .ne 8, 3) := by decide +kernel
theorem dX6_fewest_96 : decode cX6_fewest 96 = .ok (.iload 4, 2) := by decide +kernel
theorem dX6_fewest_98 : decode cX6_fewest 98 = .ok (.goto 9, 3) := by decide +kernel
theorem dX6_fewest_101 : decode cX6_fewest 101 = .ok (.aload_n 0, 1) := by decide +kernel
theorem dX6_fewest_102 : decode cX6_fewest 102 = .ok (.getfield 31, 3) := by decide +kernel
theorem dX6_fewest_105 : decode cX6_fewest 105 = .ok (.iload_n 3, 1) := by decide +kernel
theorem dX6_fewest_106 : decode cX6_fewest 106 = .ok (.iaload, 1) := by decide +kernel
theorem dX6_fewest_107 : decode cX6_fewest 107 = .ok (.ireturn, 1) := by decide +kernel
theorem dX6_value_0 : decode cX6_value 0 = .ok (.iload_n 1, 1) := by decide +kernel
theorem dX6_value_1 : decode cX6_value 1 = .ok (.iload_n 2, 1) := by decide +kernel
theorem dX6_value_2 : decode cX6_value 2 = .ok (.if_icmp .ne 5, 3) := by decide +kernel
theorem dX6_value_5 : decode cX6_value 5 = .ok (.iconst 0, 1) := by decide +kernel
theorem dX6_value_6 : decode cX6_value 6 = .ok (.ireturn, 1) := by decide +kernel
theorem dX6_value_7 : decode cX6_value 7 = .ok (.iconst (-1), 1) := by decide +kernel
theorem dX6_value_8 : decode cX6_value 8 = .ok (.istore_n 3, 1) := by decide +kernel
theorem dX6_value_9 : decode cX6_value 9 = .ok (.iconst 0, 1) := by decide +kernel
theorem dX6_value_10 : decode cX6_value 10 = .ok (.istore 4, 2) := by decide +kernel
theorem dX6_value_12 : decode cX6_value 12 = .ok (.aload_n 0, 1) := by decide +kernel
theorem dX6_value_13 : decode cX6_value 13 = .ok (.iload_n 1, 1) := by decide +kernel
theorem dX6_value_14 : decode cX6_value 14 = .ok (.invokevirtual 196, 3) := by decide +kernel
theorem dX6_value_17 : decode cX6_value 17 = .ok (.iconst 1, 1) := by decide +kernel
theorem dX6_value_18 : decode cX6_value 18 = .ok (.istore 5, 2) := by decide +kernel
theorem dX6_value_20 : decode cX6_value 20 = .ok (.iload 5, 2) := by decide +kernel
theorem dX6_value_22 : decode cX6_value 22 = .ok (.bipush 16, 2) := by decide +kernel
theorem dX6_value_24 : decode cX6_value 24 = .ok (.if_icmp .ge 68, 3) := by decide +kernel
theorem dX6_value_27 : decode cX6_value 27 = .ok (.aload_n 0, 1) := by decide +kernel
theorem dX6_value_28 : decode cX6_value 28 = .ok (.iload 5, 2) := by decide +kernel
theorem dX6_value_30 : decode cX6_value 30 = .ok (.invokevirtual 183, 3) := by decide +kernel
theorem dX6_value_33 : decode cX6_value 33 = .ok (.istore 6, 2) := by decide +kernel
theorem dX6_value_35 : decode cX6_value 35 = .ok (.iload 6, 2) := by decide +kernel
theorem dX6_value_37 : decode cX6_value 37 = .ok (.iconst (-1), 1) := by decide +kernel
theorem dX6_value_38 : decode cX6_value 38 = .ok (.if_icmp .ne 7, 3) := by decide +kernel
theorem dX6_value_41 : decode cX6_value 41 = .ok (.iconst 0, 1) := by decide +kernel
theorem dX6_value_42 : decode cX6_value 42 = .ok (.goto 9, 3) := by decide +kernel
theorem dX6_value_45 : decode cX6_value 45 = .ok (.aload_n 0, 1) := by decide +kernel
theorem dX6_value_46 : decode cX6_value 46 = .ok (.iload 6, 2) := by decide +kernel
theorem dX6_value_48 : decode cX6_value 48 = .ok (.invokevirtual 154, 3) := by decide +kernel
theorem dX6_value_51 : decode cX6_value 51 = .ok (.aload_n 0, 1) := by decide +kernel
theorem dX6_value_52 : decode cX6_value 52 = .ok (.iload_n 1, 1) := by decide +kernel
theorem dX6_value_53 : decode cX6_value 53 = .ok (.iconst 1, 1) := by decide +kernel
theorem dX6_value_54 : decode cX6_value 54 = .ok (.iadd, 1) := by decide +kernel
theorem dX6_value_55 : decode cX6_value 55 = .ok (.iload_n 2, 1) := by decide +kernel
theorem dX6_value_56 : decode cX6_value 56 = .ok (.invokevirtual 206, 3) := by decide +kernel
theorem dX6_value_59 : decode cX6_value 59 = .ok (.isub, 1) := by decide +kernel
theorem dX6_value_60 : decode cX6_value 60 = .ok (.istore 7, 2) := by decide +kernel
theorem dX6_value_62 : decode cX6_value 62 = .ok (.aload_n 0, 1) := by decide +kernel
theorem dX6_value_63 : decode cX6_value 63 = .ok (.iload_n 1, 1) := by decide +kernel
theorem dX6_value_64 : decode cX6_value 64 = .ok (.invokevirtual 203, 3) := by decide +kernel
theorem dX6_value_67 : decode cX6_value 67 = .ok (.iload_n 3, 1) := by decide +kernel
theorem dX6_value_68 : decode cX6_value 68 = .ok (.iconst (-1), 1) := by decide +kernel
theorem dX6_value_69 : decode cX6_value 69 = .ok (.if_icmp .eq 10, 3) := by decide +kernel
theorem dX6_value_72 : decode cX6_value 72 = .ok (.iload 7, 2) := by decide +kernel
theorem dX6_value_74 : decode cX6_value 74 = .ok (.iload 4, 2) := by decide +kernel
theorem dX6_value_76 : decode cX6_value 76 = .ok (.if_icmp .le 10, 3) := by decide +kernel
theorem dX6_value_79 : decode cX6_value 79 = .ok (.iload 5, 2) := by decide +kernel
theorem dX6_value_81 : decode cX6_value 81 = .ok (.istore_n 3, 1) := by decide +kernel
theorem dX6_value_82 : decode cX6_value 82 = .ok (.iload 7, 2) := by decide +kernel
theorem dX6_value_84 : decode cX6_value 84 = .ok (.istore 4, 2) := by decide +kernel
theorem dX6_value_86 : decode cX6_value 86 = .ok (.iinc 5 1, 3) := by decide +kernel
theorem dX6_value_89 : decode cX6_value 89 = .ok (.goto (-69), 3) := by decide +kernel
theorem dX6_value_92 : decode cX6_value 92 = .ok (.aload_n 0, 1) := by decide +kernel
theorem dX6_value_93 : decode cX6_value 93 = .ok (.iload_n 3, 1) := by decide +kernel
theorem dX6_value_94 : decode cX6_value 94 = .ok (.putfield 209, 3) := by decide +kernel
theorem dX6_value_97 : decode cX6_value 97 = .ok (.iload 4, 2) := by decide +kernel
theorem dX6_value_99 : decode cX6_value 99 = .ok (.ireturn, 1) := by decide +kernel
theorem dX6_game_0 : decode cX6_game 0 = .ok (.iload_n 1, 1) := by decide +kernel
theorem dX6_game_1 : decode cX6_game 1 = .ok (.iconst 1, 1) := by decide +kernel
theorem dX6_game_2 : decode cX6_game 2 = .ok (.iconst 3, 1) := by decide +kernel
theorem dX6_game_3 : decode cX6_game 3 = .ok (.invokestatic 50, 3) := by decide +kernel
theorem dX6_game_6 : decode cX6_game 6 = .ok (.ifCond .eq 12, 3) := by decide +kernel
theorem dX6_game_9 : decode cX6_game 9 = .ok (.iload_n 2, 1) := by decide +kernel
theorem dX6_game_10 : decode cX6_game 10 = .ok (.iconst 0, 1) := by decide +kernel
theorem dX6_game_11 : decode cX6_game 11 = .ok (.iconst 1, 1) := by decide +kernel
theorem dX6_game_12 : decode cX6_game 12 = .ok (.invokestatic 50, 3) := by decide +kernel
theorem dX6_game_15 : decode cX6_game 15 = .ok (.ifCond .ne 9, 3) := by decide +kernel
theorem dX6_game_18 : decode cX6_game 18 = .ok (.aload_n 0, 1) := by decide +kernel
theorem dX6_game_19 : decode cX6_game 19 = .ok (.iconst 1, 1) := by decide +kernel
theorem dX6_game_20 : decode cX6_game 20 = .ok (.invokevirtual 68, 3) := by decide +kernel
theorem dX6_game_23 : decode cX6_game 23 = .ok (.ireturn, 1) := by decide +kernel
theorem dX6_game_24 : decode cX6_game 24 = .ok (.aload_n 0, 1) := by decide +kernel
theorem dX6_game_25 : decode cX6_game 25 = .ok (.iconst 0, 1) := by decide +kernel
theorem dX6_game_26 : decode cX6_game 26 = .ok (.iload_n 1, 1) := by decide +kernel
theorem dX6_game_27 : decode cX6_game 27 = .ok (.invokevirtual 206, 3) := by decide +kernel
theorem dX6_game_30 : decode cX6_game 30 = .ok (.istore_n 3, 1) := by decide +kernel
theorem dX6_game_31 : decode cX6_game 31 = .ok (.iload_n 2, 1) := by decide +kernel
theorem dX6_game_32 : decode cX6_game 32 = .ok (.ifCond .ne 7, 3) := by decide +kernel
theorem dX6_game_35 : decode cX6_game 35 = .ok (.iload_n 3, 1) := by decide +kernel
theorem dX6_game_36 : decode cX6_game 36 = .ok (.goto 7, 3) := by decide +kernel
theorem dX6_game_39 : decode cX6_game 39 = .ok (.aload_n 0, 1) := by decide +kernel
theorem dX6_game_40 : decode cX6_game 40 = .ok (.getfield 209, 3) := by decide +kernel
theorem dX6_game_43 : decode cX6_game 43 = .ok (.ireturn, 1) := by decide +kernel
theorem dX6_hauls_0 : decode cX6_hauls 0 = .ok (.iconst 0, 1) := by decide +kernel
theorem dX6_hauls_1 : decode cX6_hauls 1 = .ok (.istore_n 2, 1) := by decide +kernel
theorem dX6_hauls_2 : decode cX6_hauls 2 = .ok (.aload_n 0, 1) := by decide +kernel
theorem dX6_hauls_3 : decode cX6_hauls 3 = .ok (.iload_n 1, 1) := by decide +kernel
theorem dX6_hauls_4 : decode cX6_hauls 4 = .ok (.invokevirtual 189, 3) := by decide +kernel
theorem dX6_hauls_7 : decode cX6_hauls 7 = .ok (.istore_n 3, 1) := by decide +kernel
theorem dX6_hauls_8 : decode cX6_hauls 8 = .ok (.aload_n 0, 1) := by decide +kernel
theorem dX6_hauls_9 : decode cX6_hauls 9 = .ok (.iconst 0, 1) := by decide +kernel
theorem dX6_hauls_10 : decode cX6_hauls 10 = .ok (.invokevirtual 196, 3) := by decide +kernel
theorem dX6_hauls_13 : decode cX6_hauls 13 = .ok (.iconst 0, 1) := by decide +kernel
theorem dX6_hauls_14 : decode cX6_hauls 14 = .ok (.istore 4, 2) := by decide +kernel
theorem dX6_hauls_16 : decode cX6_hauls 16 = .ok (.iload 4, 2) := by decide +kernel
theorem dX6_hauls_18 : decode cX6_hauls 18 = .ok (.iload_n 3, 1) := by decide +kernel
theorem dX6_hauls_19 : decode cX6_hauls 19 = .ok (.if_icmp .ge 46, 3) := by decide +kernel
theorem dX6_hauls_22 : decode cX6_hauls 22 = .ok (.aload_n 0, 1) := by decide +kernel
theorem dX6_hauls_23 : decode cX6_hauls 23 = .ok (.aload_n 0, 1) := by decide +kernel
theorem dX6_hauls_24 : decode cX6_hauls 24 = .ok (.getfield 43, 3) := by decide +kernel
theorem dX6_hauls_27 : decode cX6_hauls 27 = .ok (.bipush 24, 2) := by decide +kernel
theorem dX6_hauls_29 : decode cX6_hauls 29 = .ok (.iload_n 1, 1) := by decide +kernel
theorem dX6_hauls_30 : decode cX6_hauls 30 = .ok (.imul, 1) := by decide +kernel
theorem dX6_hauls_31 : decode cX6_hauls 31 = .ok (.iload 4, 2) := by decide +kernel
theorem dX6_hauls_33 : decode cX6_hauls 33 = .ok (.iadd, 1) := by decide +kernel
theorem dX6_hauls_34 : decode cX6_hauls 34 = .ok (.iaload, 1) := by decide +kernel
theorem dX6_hauls_35 : decode cX6_hauls 35 = .ok (.invokevirtual 183, 3) := by decide +kernel
theorem dX6_hauls_38 : decode cX6_hauls 38 = .ok (.istore 5, 2) := by decide +kernel
theorem dX6_hauls_40 : decode cX6_hauls 40 = .ok (.iload_n 2, 1) := by decide +kernel
theorem dX6_hauls_41 : decode cX6_hauls 41 = .ok (.iload 5, 2) := by decide +kernel
theorem dX6_hauls_43 : decode cX6_hauls 43 = .ok (.iconst (-1), 1) := by decide +kernel
theorem dX6_hauls_44 : decode cX6_hauls 44 = .ok (.if_icmp .ne 7, 3) := by decide +kernel
theorem dX6_hauls_47 : decode cX6_hauls 47 = .ok (.iconst 0, 1) := by decide +kernel
theorem dX6_hauls_48 : decode cX6_hauls 48 = .ok (.goto 9, 3) := by decide +kernel
theorem dX6_hauls_51 : decode cX6_hauls 51 = .ok (.aload_n 0, 1) := by decide +kernel
theorem dX6_hauls_52 : decode cX6_hauls 52 = .ok (.iload 5, 2) := by decide +kernel
theorem dX6_hauls_54 : decode cX6_hauls 54 = .ok (.invokevirtual 154, 3) := by decide +kernel
theorem dX6_hauls_57 : decode cX6_hauls 57 = .ok (.iadd, 1) := by decide +kernel
theorem dX6_hauls_58 : decode cX6_hauls 58 = .ok (.istore_n 2, 1) := by decide +kernel
theorem dX6_hauls_59 : decode cX6_hauls 59 = .ok (.iinc 4 1, 3) := by decide +kernel
theorem dX6_hauls_62 : decode cX6_hauls 62 = .ok (.goto (-46), 3) := by decide +kernel
theorem dX6_hauls_65 : decode cX6_hauls 65 = .ok (.aload_n 0, 1) := by decide +kernel
theorem dX6_hauls_66 : decode cX6_hauls 66 = .ok (.iconst 0, 1) := by decide +kernel
theorem dX6_hauls_67 : decode cX6_hauls 67 = .ok (.invokevirtual 203, 3) := by decide +kernel
theorem dX6_hauls_70 : decode cX6_hauls 70 = .ok (.iload_n 2, 1) := by decide +kernel
theorem dX6_hauls_71 : decode cX6_hauls 71 = .ok (.ireturn, 1) := by decide +kernel
theorem dX6_haul_0 : decode cX6_haul 0 = .ok (.aload_n 0, 1) := by decide +kernel
theorem dX6_haul_1 : decode cX6_haul 1 = .ok (.iload_n 1, 1) := by decide +kernel
theorem dX6_haul_2 : decode cX6_haul 2 = .ok (.invokevirtual 186, 3) := by decide +kernel
theorem dX6_haul_5 : decode cX6_haul 5 = .ok (.istore_n 2, 1) := by decide +kernel
theorem dX6_haul_6 : decode cX6_haul 6 = .ok (.iload_n 2, 1) := by decide +kernel
theorem dX6_haul_7 : decode cX6_haul 7 = .ok (.ifCond .le 11, 3) := by decide +kernel
theorem dX6_haul_10 : decode cX6_haul 10 = .ok (.aload_n 0, 1) := by decide +kernel
theorem dX6_haul_11 : decode cX6_haul 11 = .ok (.iload_n 2, 1) := by decide +kernel
theorem dX6_haul_12 : decode cX6_haul 12 = .ok (.invokevirtual 68, 3) := by decide +kernel
theorem dX6_haul_15 : decode cX6_haul 15 = .ok (.goto 8, 3) := by decide +kernel
theorem dX6_haul_18 : decode cX6_haul 18 = .ok (.aload_n 0, 1) := by decide +kernel
theorem dX6_haul_19 : decode cX6_haul 19 = .ok (.iload_n 1, 1) := by decide +kernel
theorem dX6_haul_20 : decode cX6_haul 20 = .ok (.invokevirtual 212, 3) := by decide +kernel
theorem dX6_haul_23 : decode cX6_haul 23 = .ok (.ireturn, 1) := by decide +kernel
theorem dX6_changes_0 : decode cX6_changes 0 = .ok (.aload_n 0, 1) := by decide +kernel
theorem dX6_changes_1 : decode cX6_changes 1 = .ok (.iload_n 1, 1) := by decide +kernel
theorem dX6_changes_2 : decode cX6_changes 2 = .ok (.iconst 3, 1) := by decide +kernel
theorem dX6_changes_3 : decode cX6_changes 3 = .ok (.invokevirtual 62, 3) := by decide +kernel
theorem dX6_changes_6 : decode cX6_changes 6 = .ok (.istore_n 3, 1) := by decide +kernel
theorem dX6_changes_7 : decode cX6_changes 7 = .ok (.aload_n 0, 1) := by decide +kernel
theorem dX6_changes_8 : decode cX6_changes 8 = .ok (.iload_n 2, 1) := by decide +kernel
theorem dX6_changes_9 : decode cX6_changes 9 = .ok (.iconst 3, 1) := by decide +kernel
theorem dX6_changes_10 : decode cX6_changes 10 = .ok (.invokevirtual 62, 3) := by decide +kernel
theorem dX6_changes_13 : decode cX6_changes 13 = .ok (.istore 4, 2) := by decide +kernel
theorem dX6_changes_15 : decode cX6_changes 15 = .ok (.aload_n 0, 1) := by decide +kernel
theorem dX6_changes_16 : decode cX6_changes 16 = .ok (.iload_n 1, 1) := by decide +kernel
theorem dX6_changes_17 : decode cX6_changes 17 = .ok (.invokevirtual 65, 3) := by decide +kernel
theorem dX6_changes_20 : decode cX6_changes 20 = .ok (.istore 5, 2) := by decide +kernel
theorem dX6_changes_22 : decode cX6_changes 22 = .ok (.aload_n 0, 1) := by decide +kernel
theorem dX6_changes_23 : decode cX6_changes 23 = .ok (.iload_n 2, 1) := by decide +kernel
theorem dX6_changes_24 : decode cX6_changes 24 = .ok (.invokevirtual 65, 3) := by decide +kernel
theorem dX6_changes_27 : decode cX6_changes 27 = .ok (.istore 6, 2) := by decide +kernel
theorem dX6_changes_29 : decode cX6_changes 29 = .ok (.aload_n 0, 1) := by decide +kernel
theorem dX6_changes_30 : decode cX6_changes 30 = .ok (.getfield 7, 3) := by decide +kernel
theorem dX6_changes_33 : decode cX6_changes 33 = .ok (.bipush 72, 2) := by decide +kernel
theorem dX6_changes_35 : decode cX6_changes 35 = .ok (.bipush 6, 2) := by decide +kernel
theorem dX6_changes_37 : decode cX6_changes 37 = .ok (.iload_n 3, 1) := by decide +kernel
theorem dX6_changes_38 : decode cX6_changes 38 = .ok (.imul, 1) := by decide +kernel
theorem dX6_changes_39 : decode cX6_changes 39 = .ok (.iadd, 1) := by decide +kernel
theorem dX6_changes_40 : decode cX6_changes 40 = .ok (.iconst 1, 1) := by decide +kernel
theorem dX6_changes_41 : decode cX6_changes 41 = .ok (.iadd, 1) := by decide +kernel
theorem dX6_changes_42 : decode cX6_changes 42 = .ok (.iload 5, 2) := by decide +kernel
theorem dX6_changes_44 : decode cX6_changes 44 = .ok (.iadd, 1) := by decide +kernel
theorem dX6_changes_45 : decode cX6_changes 45 = .ok (.iload_n 2, 1) := by decide +kernel
theorem dX6_changes_46 : decode cX6_changes 46 = .ok (.iastore, 1) := by decide +kernel
theorem dX6_changes_47 : decode cX6_changes 47 = .ok (.aload_n 0, 1) := by decide +kernel
theorem dX6_changes_48 : decode cX6_changes 48 = .ok (.getfield 7, 3) := by decide +kernel
theorem dX6_changes_51 : decode cX6_changes 51 = .ok (.bipush 72, 2) := by decide +kernel
theorem dX6_changes_53 : decode cX6_changes 53 = .ok (.bipush 6, 2) := by decide +kernel
theorem dX6_changes_55 : decode cX6_changes 55 = .ok (.iload 4, 2) := by decide +kernel
theorem dX6_changes_57 : decode cX6_changes 57 = .ok (.imul, 1) := by decide +kernel
theorem dX6_changes_58 : decode cX6_changes 58 = .ok (.iadd, 1) := by decide +kernel
theorem dX6_changes_59 : decode cX6_changes 59 = .ok (.iconst 1, 1) := by decide +kernel
theorem dX6_changes_60 : decode cX6_changes 60 = .ok (.iadd, 1) := by decide +kernel
theorem dX6_changes_61 : decode cX6_changes 61 = .ok (.iload 6, 2) := by decide +kernel
theorem dX6_changes_63 : decode cX6_changes 63 = .ok (.iadd, 1) := by decide +kernel
theorem dX6_changes_64 : decode cX6_changes 64 = .ok (.iload_n 1, 1) := by decide +kernel
theorem dX6_changes_65 : decode cX6_changes 65 = .ok (.iastore, 1) := by decide +kernel
theorem dX6_changes_66 : decode cX6_changes 66 = .ok (.aload_n 0, 1) := by decide +kernel
theorem dX6_changes_67 : decode cX6_changes 67 = .ok (.getfield 7, 3) := by decide +kernel
theorem dX6_changes_70 : decode cX6_changes 70 = .ok (.bipush 8, 2) := by decide +kernel
theorem dX6_changes_72 : decode cX6_changes 72 = .ok (.iconst 4, 1) := by decide +kernel
theorem dX6_changes_73 : decode cX6_changes 73 = .ok (.iload_n 1, 1) := by decide +kernel
theorem dX6_changes_74 : decode cX6_changes 74 = .ok (.imul, 1) := by decide +kernel
theorem dX6_changes_75 : decode cX6_changes 75 = .ok (.iadd, 1) := by decide +kernel
theorem dX6_changes_76 : decode cX6_changes 76 = .ok (.iconst 3, 1) := by decide +kernel
theorem dX6_changes_77 : decode cX6_changes 77 = .ok (.iadd, 1) := by decide +kernel
theorem dX6_changes_78 : decode cX6_changes 78 = .ok (.iload 4, 2) := by decide +kernel
theorem dX6_changes_80 : decode cX6_changes 80 = .ok (.iastore, 1) := by decide +kernel
theorem dX6_changes_81 : decode cX6_changes 81 = .ok (.aload_n 0, 1) := by decide +kernel
theorem dX6_changes_82 : decode cX6_changes 82 = .ok (.getfield 7, 3) := by decide +kernel
theorem dX6_changes_85 : decode cX6_changes 85 = .ok (.bipush 8, 2) := by decide +kernel
theorem dX6_changes_87 : decode cX6_changes 87 = .ok (.iconst 4, 1) := by decide +kernel
theorem dX6_changes_88 : decode cX6_changes 88 = .ok (.iload_n 2, 1) := by decide +kernel
theorem dX6_changes_89 : decode cX6_changes 89 = .ok (.imul, 1) := by decide +kernel
theorem dX6_changes_90 : decode cX6_changes 90 = .ok (.iadd, 1) := by decide +kernel
theorem dX6_changes_91 : decode cX6_changes 91 = .ok (.iconst 3, 1) := by decide +kernel
theorem dX6_changes_92 : decode cX6_changes 92 = .ok (.iadd, 1) := by decide +kernel
theorem dX6_changes_93 : decode cX6_changes 93 = .ok (.iload_n 3, 1) := by decide +kernel
theorem dX6_changes_94 : decode cX6_changes 94 = .ok (.iastore, 1) := by decide +kernel
theorem dX6_changes_95 : decode cX6_changes 95 = .ok (.return_, 1) := by decide +kernel
theorem dX6_changed_0 : decode cX6_changed 0 = .ok (.aload_n 0, 1) := by decide +kernel
theorem dX6_changed_1 : decode cX6_changed 1 = .ok (.iload_n 1, 1) := by decide +kernel
theorem dX6_changed_2 : decode cX6_changed 2 = .ok (.invokevirtual 186, 3) := by decide +kernel
theorem dX6_changed_5 : decode cX6_changed 5 = .ok (.istore_n 2, 1) := by decide +kernel
theorem dX6_changed_6 : decode cX6_changed 6 = .ok (.iload_n 2, 1) := by decide +kernel
theorem dX6_changed_7 : decode cX6_changed 7 = .ok (.ifCond .le 9, 3) := by decide +kernel
theorem dX6_changed_10 : decode cX6_changed 10 = .ok (.aload_n 0, 1) := by decide +kernel
theorem dX6_changed_11 : decode cX6_changed 11 = .ok (.iload_n 2, 1) := by decide +kernel
theorem dX6_changed_12 : decode cX6_changed 12 = .ok (.invokevirtual 68, 3) := by decide +kernel
theorem dX6_changed_15 : decode cX6_changed 15 = .ok (.ireturn, 1) := by decide +kernel
theorem dX6_changed_16 : decode cX6_changed 16 = .ok (.iconst (-1), 1) := by decide +kernel
theorem dX6_changed_17 : decode cX6_changed 17 = .ok (.istore_n 3, 1) := by decide +kernel
theorem dX6_changed_18 : decode cX6_changed 18 = .ok (.aload_n 0, 1) := by decide +kernel
theorem dX6_changed_19 : decode cX6_changed 19 = .ok (.iload_n 1, 1) := by decide +kernel
theorem dX6_changed_20 : decode cX6_changed 20 = .ok (.invokevirtual 212, 3) := by decide +kernel
theorem dX6_changed_23 : decode cX6_changed 23 = .ok (.istore 4, 2) := by decide +kernel
theorem dX6_changed_25 : decode cX6_changed 25 = .ok (.iconst 0, 1) := by decide +kernel
theorem dX6_changed_26 : decode cX6_changed 26 = .ok (.istore 5, 2) := by decide +kernel
theorem dX6_changed_28 : decode cX6_changed 28 = .ok (.iload 5, 2) := by decide +kernel
theorem dX6_changed_30 : decode cX6_changed 30 = .ok (.aload_n 0, 1) := by decide +kernel
theorem dX6_changed_31 : decode cX6_changed 31 = .ok (.getfield 7, 3) := by decide +kernel
theorem dX6_changed_34 : decode cX6_changed 34 = .ok (.iconst 0, 1) := by decide +kernel
theorem dX6_changed_35 : decode cX6_changed 35 = .ok (.iaload, 1) := by decide +kernel
theorem dX6_changed_36 : decode cX6_changed 36 = .ok (.if_icmp .ge 113, 3) := by decide +kernel
theorem dX6_changed_39 : decode cX6_changed 39 = .ok (.iload 5, 2) := by decide +kernel
theorem dX6_changed_41 : decode cX6_changed 41 = .ok (.iconst 1, 1) := by decide +kernel
theorem dX6_changed_42 : decode cX6_changed 42 = .ok (.iadd, 1) := by decide +kernel
theorem dX6_changed_43 : decode cX6_changed 43 = .ok (.istore 6, 2) := by decide +kernel
theorem dX6_changed_45 : decode cX6_changed 45 = .ok (.iload 6, 2) := by decide +kernel
theorem dX6_changed_47 : decode cX6_changed 47 = .ok (.aload_n 0, 1) := by decide +kernel
theorem dX6_changed_48 : decode cX6_changed 48 = .ok (.getfield 7, 3) := by decide +kernel
theorem dX6_changed_51 : decode cX6_changed 51 = .ok (.iconst 0, 1) := by decide +kernel
theorem dX6_changed_52 : decode cX6_changed 52 = .ok (.iaload, 1) := by decide +kernel
theorem dX6_changed_53 : decode cX6_changed 53 = .ok (.if_icmp .ge 90, 3) := by decide +kernel
theorem dX6_changed_56 : decode cX6_changed 56 = .ok (.aload_n 0, 1) := by decide +kernel
theorem dX6_changed_57 : decode cX6_changed 57 = .ok (.iload 5, 2) := by decide +kernel
theorem dX6_changed_59 : decode cX6_changed 59 = .ok (.iconst 3, 1) := by decide +kernel
theorem dX6_changed_60 : decode cX6_changed 60 = .ok (.invokevirtual 62, 3) := by decide +kernel
theorem dX6_changed_63 : decode cX6_changed 63 = .ok (.ifCond .lt 74, 3) := by decide +kernel
theorem dX6_changed_66 : decode cX6_changed 66 = .ok (.aload_n 0, 1) := by decide +kernel
theorem dX6_changed_67 : decode cX6_changed 67 = .ok (.iload 6, 2) := by decide +kernel
theorem dX6_changed_69 : decode cX6_changed 69 = .ok (.iconst 3, 1) := by decide +kernel
theorem dX6_changed_70 : decode cX6_changed 70 = .ok (.invokevirtual 62, 3) := by decide +kernel
theorem dX6_changed_73 : decode cX6_changed 73 = .ok (.ifCond .lt 64, 3) := by decide +kernel
theorem dX6_changed_76 : decode cX6_changed 76 = .ok (.aload_n 0, 1) := by decide +kernel
theorem dX6_changed_77 : decode cX6_changed 77 = .ok (.iconst 1, 1) := by decide +kernel
theorem dX6_changed_78 : decode cX6_changed 78 = .ok (.invokevirtual 196, 3) := by decide +kernel
theorem dX6_changed_81 : decode cX6_changed 81 = .ok (.aload_n 0, 1) := by decide +kernel
theorem dX6_changed_82 : decode cX6_changed 82 = .ok (.iload 5, 2) := by decide +kernel
theorem dX6_changed_84 : decode cX6_changed 84 = .ok (.iload 6, 2) := by decide +kernel
theorem dX6_changed_86 : decode cX6_changed 86 = .ok (.invokevirtual 215, 3) := by decide +kernel
theorem dX6_changed_89 : decode cX6_changed 89 = .ok (.aload_n 0, 1) := by decide +kernel
theorem dX6_changed_90 : decode cX6_changed 90 = .ok (.iload_n 1, 1) := by decide +kernel
theorem dX6_changed_91 : decode cX6_changed 91 = .ok (.invokevirtual 212, 3) := by decide +kernel
theorem dX6_changed_94 : decode cX6_changed 94 = .ok (.istore 7, 2) := by decide +kernel
theorem dX6_changed_96 : decode cX6_changed 96 = .ok (.aload_n 0, 1) := by decide +kernel
theorem dX6_changed_97 : decode cX6_changed 97 = .ok (.iconst 1, 1) := by decide +kernel
theorem dX6_changed_98 : decode cX6_changed 98 = .ok (.invokevirtual 203, 3) := by decide +kernel
theorem dX6_changed_101 : decode cX6_changed 101 = .ok (.iload 7, 2) := by decide +kernel
theorem dX6_changed_103 : decode cX6_changed 103 = .ok (.iload 4, 2) := by decide +kernel
theorem dX6_changed_105 : decode cX6_changed 105 = .ok (.if_icmp .ge 14, 3) := by decide +kernel
theorem dX6_changed_108 : decode cX6_changed 108 = .ok (.bipush 100, 2) := by decide +kernel
theorem dX6_changed_110 : decode cX6_changed 110 = .ok (.iload 5, 2) := by decide +kernel
theorem dX6_changed_112 : decode cX6_changed 112 = .ok (.imul, 1) := by decide +kernel
theorem dX6_changed_113 : decode cX6_changed 113 = .ok (.iload 6, 2) := by decide +kernel
theorem dX6_changed_115 : decode cX6_changed 115 = .ok (.iadd, 1) := by decide +kernel
theorem dX6_changed_116 : decode cX6_changed 116 = .ok (.goto 4, 3) := by decide +kernel
theorem dX6_changed_119 : decode cX6_changed 119 = .ok (.iload_n 3, 1) := by decide +kernel
theorem dX6_changed_120 : decode cX6_changed 120 = .ok (.istore_n 3, 1) := by decide +kernel
theorem dX6_changed_121 : decode cX6_changed 121 = .ok (.iload 7, 2) := by decide +kernel
theorem dX6_changed_123 : decode cX6_changed 123 = .ok (.iload 4, 2) := by decide +kernel
theorem dX6_changed_125 : decode cX6_changed 125 = .ok (.if_icmp .ge 8, 3) := by decide +kernel
theorem dX6_changed_128 : decode cX6_changed 128 = .ok (.iload 7, 2) := by decide +kernel
theorem dX6_changed_130 : decode cX6_changed 130 = .ok (.goto 5, 3) := by decide +kernel
theorem dX6_changed_133 : decode cX6_changed 133 = .ok (.iload 4, 2) := by decide +kernel
theorem dX6_changed_135 : decode cX6_changed 135 = .ok (.istore 4, 2) := by decide +kernel
theorem dX6_changed_137 : decode cX6_changed 137 = .ok (.iinc 6 1, 3) := by decide +kernel
theorem dX6_changed_140 : decode cX6_changed 140 = .ok (.goto (-95), 3) := by decide +kernel
theorem dX6_changed_143 : decode cX6_changed 143 = .ok (.iinc 5 1, 3) := by decide +kernel
theorem dX6_changed_146 : decode cX6_changed 146 = .ok (.goto (-118), 3) := by decide +kernel
theorem dX6_changed_149 : decode cX6_changed 149 = .ok (.iload_n 3, 1) := by decide +kernel
theorem dX6_changed_150 : decode cX6_changed 150 = .ok (.iconst (-1), 1) := by decide +kernel
theorem dX6_changed_151 : decode cX6_changed 151 = .ok (.if_icmp .ne 11, 3) := by decide +kernel
theorem dX6_changed_154 : decode cX6_changed 154 = .ok (.aload_n 0, 1) := by decide +kernel
theorem dX6_changed_155 : decode cX6_changed 155 = .ok (.iconst 2, 1) := by decide +kernel
theorem dX6_changed_156 : decode cX6_changed 156 = .ok (.invokevirtual 68, 3) := by decide +kernel
theorem dX6_changed_159 : decode cX6_changed 159 = .ok (.goto 4, 3) := by decide +kernel
theorem dX6_changed_162 : decode cX6_changed 162 = .ok (.iload_n 3, 1) := by decide +kernel
theorem dX6_changed_163 : decode cX6_changed 163 = .ok (.ireturn, 1) := by decide +kernel
theorem dX6_fits_0 : decode cX6_fits 0 = .ok (.iconst 1, 1) := by decide +kernel
theorem dX6_fits_1 : decode cX6_fits 1 = .ok (.istore_n 3, 1) := by decide +kernel
theorem dX6_fits_2 : decode cX6_fits 2 = .ok (.iconst 0, 1) := by decide +kernel
theorem dX6_fits_3 : decode cX6_fits 3 = .ok (.istore 4, 2) := by decide +kernel
theorem dX6_fits_5 : decode cX6_fits 5 = .ok (.iconst 2, 1) := by decide +kernel
theorem dX6_fits_6 : decode cX6_fits 6 = .ok (.iload 4, 2) := by decide +kernel
theorem dX6_fits_8 : decode cX6_fits 8 = .ok (.imul, 1) := by decide +kernel
theorem dX6_fits_9 : decode cX6_fits 9 = .ok (.iconst 1, 1) := by decide +kernel
theorem dX6_fits_10 : decode cX6_fits 10 = .ok (.iadd, 1) := by decide +kernel
theorem dX6_fits_11 : decode cX6_fits 11 = .ok (.aload_n 0, 1) := by decide +kernel
theorem dX6_fits_12 : decode cX6_fits 12 = .ok (.getfield 40, 3) := by decide +kernel
theorem dX6_fits_15 : decode cX6_fits 15 = .ok (.iload_n 1, 1) := by decide +kernel
theorem dX6_fits_16 : decode cX6_fits 16 = .ok (.iaload, 1) := by decide +kernel
theorem dX6_fits_17 : decode cX6_fits 17 = .ok (.if_icmp .ge 102, 3) := by decide +kernel
theorem dX6_fits_20 : decode cX6_fits 20 = .ok (.aload_n 0, 1) := by decide +kernel
theorem dX6_fits_21 : decode cX6_fits 21 = .ok (.getfield 43, 3) := by decide +kernel
theorem dX6_fits_24 : decode cX6_fits 24 = .ok (.bipush 24, 2) := by decide +kernel
theorem dX6_fits_26 : decode cX6_fits 26 = .ok (.iload_n 1, 1) := by decide +kernel
theorem dX6_fits_27 : decode cX6_fits 27 = .ok (.imul, 1) := by decide +kernel
theorem dX6_fits_28 : decode cX6_fits 28 = .ok (.iconst 2, 1) := by decide +kernel
theorem dX6_fits_29 : decode cX6_fits 29 = .ok (.iload 4, 2) := by decide +kernel
theorem dX6_fits_31 : decode cX6_fits 31 = .ok (.imul, 1) := by decide +kernel
theorem dX6_fits_32 : decode cX6_fits 32 = .ok (.iadd, 1) := by decide +kernel
theorem dX6_fits_33 : decode cX6_fits 33 = .ok (.iaload, 1) := by decide +kernel
theorem dX6_fits_34 : decode cX6_fits 34 = .ok (.istore 5, 2) := by decide +kernel
theorem dX6_fits_36 : decode cX6_fits 36 = .ok (.iload_n 2, 1) := by decide +kernel
theorem dX6_fits_37 : decode cX6_fits 37 = .ok (.iload 4, 2) := by decide +kernel
theorem dX6_fits_39 : decode cX6_fits 39 = .ok (.aload_n 0, 1) := by decide +kernel
theorem dX6_fits_40 : decode cX6_fits 40 = .ok (.getfield 7, 3) := by decide +kernel
theorem dX6_fits_43 : decode cX6_fits 43 = .ok (.iconst 4, 1) := by decide +kernel
theorem dX6_fits_44 : decode cX6_fits 44 = .ok (.iaload, 1) := by decide +kernel
theorem dX6_fits_45 : decode cX6_fits 45 = .ok (.imul, 1) := by decide +kernel
theorem dX6_fits_46 : decode cX6_fits 46 = .ok (.isub, 1) := by decide +kernel
theorem dX6_fits_47 : decode cX6_fits 47 = .ok (.iconst 0, 1) := by decide +kernel
theorem dX6_fits_48 : decode cX6_fits 48 = .ok (.bipush 99, 2) := by decide +kernel
theorem dX6_fits_50 : decode cX6_fits 50 = .ok (.invokestatic 139, 3) := by decide +kernel
theorem dX6_fits_53 : decode cX6_fits 53 = .ok (.istore 6, 2) := by decide +kernel
theorem dX6_fits_55 : decode cX6_fits 55 = .ok (.iload 6, 2) := by decide +kernel
theorem dX6_fits_57 : decode cX6_fits 57 = .ok (.iload 5, 2) := by decide +kernel
theorem dX6_fits_59 : decode cX6_fits 59 = .ok (.if_icmp .lt 7, 3) := by decide +kernel
theorem dX6_fits_62 : decode cX6_fits 62 = .ok (.iconst 2, 1) := by decide +kernel
theorem dX6_fits_63 : decode cX6_fits 63 = .ok (.goto 17, 3) := by decide +kernel
theorem dX6_fits_66 : decode cX6_fits 66 = .ok (.iconst 2, 1) := by decide +kernel
theorem dX6_fits_67 : decode cX6_fits 67 = .ok (.iload 6, 2) := by decide +kernel
theorem dX6_fits_69 : decode cX6_fits 69 = .ok (.imul, 1) := by decide +kernel
theorem dX6_fits_70 : decode cX6_fits 70 = .ok (.iload 5, 2) := by decide +kernel
theorem dX6_fits_72 : decode cX6_fits 72 = .ok (.if_icmp .lt 7, 3) := by decide +kernel
theorem dX6_fits_75 : decode cX6_fits 75 = .ok (.iconst 1, 1) := by decide +kernel
theorem dX6_fits_76 : decode cX6_fits 76 = .ok (.goto 4, 3) := by decide +kernel
theorem dX6_fits_79 : decode cX6_fits 79 = .ok (.iconst 0, 1) := by decide +kernel
theorem dX6_fits_80 : decode cX6_fits 80 = .ok (.istore 7, 2) := by decide +kernel
theorem dX6_fits_82 : decode cX6_fits 82 = .ok (.iload_n 3, 1) := by decide +kernel
theorem dX6_fits_83 : decode cX6_fits 83 = .ok (.ifCond .eq 28, 3) := by decide +kernel
theorem dX6_fits_86 : decode cX6_fits 86 = .ok (.aload_n 0, 1) := by decide +kernel
theorem dX6_fits_87 : decode cX6_fits 87 = .ok (.getfield 43, 3) := by decide +kernel
theorem dX6_fits_90 : decode cX6_fits 90 = .ok (.bipush 24, 2) := by decide +kernel
theorem dX6_fits_92 : decode cX6_fits 92 = .ok (.iload_n 1, 1) := by decide +kernel
theorem dX6_fits_93 : decode cX6_fits 93 = .ok (.imul, 1) := by decide +kernel
theorem dX6_fits_94 : decode cX6_fits 94 = .ok (.iconst 2, 1) := by decide +kernel
theorem dX6_fits_95 : decode cX6_fits 95 = .ok (.iload 4, 2) := by decide +kernel
theorem dX6_fits_97 : decode cX6_fits 97 = .ok (.imul, 1) := by decide +kernel
theorem dX6_fits_98 : decode cX6_fits 98 = .ok (.iadd, 1) := by decide +kernel
theorem dX6_fits_99 : decode cX6_fits 99 = .ok (.iconst 1, 1) := by decide +kernel
theorem dX6_fits_100 : decode cX6_fits 100 = .ok (.iadd, 1) := by decide +kernel
theorem dX6_fits_101 : decode cX6_fits 101 = .ok (.iaload, 1) := by decide +kernel
theorem dX6_fits_102 : decode cX6_fits 102 = .ok (.iload 7, 2) := by decide +kernel
theorem dX6_fits_104 : decode cX6_fits 104 = .ok (.if_icmp .ne 7, 3) := by decide +kernel
theorem dX6_fits_107 : decode cX6_fits 107 = .ok (.iconst 1, 1) := by decide +kernel
theorem dX6_fits_108 : decode cX6_fits 108 = .ok (.goto 4, 3) := by decide +kernel
theorem dX6_fits_111 : decode cX6_fits 111 = .ok (.iconst 0, 1) := by decide +kernel
theorem dX6_fits_112 : decode cX6_fits 112 = .ok (.istore_n 3, 1) := by decide +kernel
theorem dX6_fits_113 : decode cX6_fits 113 = .ok (.iinc 4 1, 3) := by decide +kernel
theorem dX6_fits_116 : decode cX6_fits 116 = .ok (.goto (-111), 3) := by decide +kernel
theorem dX6_fits_119 : decode cX6_fits 119 = .ok (.iload_n 3, 1) := by decide +kernel
theorem dX6_fits_120 : decode cX6_fits 120 = .ok (.ireturn, 1) := by decide +kernel
theorem dX6_springs_0 : decode cX6_springs 0 = .ok (.iload_n 2, 1) := by decide +kernel
theorem dX6_springs_1 : decode cX6_springs 1 = .ok (.iconst 0, 1) := by decide +kernel
theorem dX6_springs_2 : decode cX6_springs 2 = .ok (.iconst 1, 1) := by decide +kernel
theorem dX6_springs_3 : decode cX6_springs 3 = .ok (.invokestatic 50, 3) := by decide +kernel
theorem dX6_springs_6 : decode cX6_springs 6 = .ok (.ifCond .eq 11, 3) := by decide +kernel
theorem dX6_springs_9 : decode cX6_springs 9 = .ok (.aload_n 0, 1) := by decide +kernel
theorem dX6_springs_10 : decode cX6_springs 10 = .ok (.iload_n 1, 1) := by decide +kernel
theorem dX6_springs_11 : decode cX6_springs 11 = .ok (.invokevirtual 186, 3) := by decide +kernel
theorem dX6_springs_14 : decode cX6_springs 14 = .ok (.goto 4, 3) := by decide +kernel
theorem dX6_springs_17 : decode cX6_springs 17 = .ok (.iconst 1, 1) := by decide +kernel
theorem dX6_springs_18 : decode cX6_springs 18 = .ok (.istore_n 3, 1) := by decide +kernel
theorem dX6_springs_19 : decode cX6_springs 19 = .ok (.iload_n 3, 1) := by decide +kernel
theorem dX6_springs_20 : decode cX6_springs 20 = .ok (.ifCond .le 9, 3) := by decide +kernel
theorem dX6_springs_23 : decode cX6_springs 23 = .ok (.aload_n 0, 1) := by decide +kernel
theorem dX6_springs_24 : decode cX6_springs 24 = .ok (.iload_n 3, 1) := by decide +kernel
theorem dX6_springs_25 : decode cX6_springs 25 = .ok (.invokevirtual 68, 3) := by decide +kernel
theorem dX6_springs_28 : decode cX6_springs 28 = .ok (.ireturn, 1) := by decide +kernel
theorem dX6_springs_29 : decode cX6_springs 29 = .ok (.iconst 0, 1) := by decide +kernel
theorem dX6_springs_30 : decode cX6_springs 30 = .ok (.istore 4, 2) := by decide +kernel
theorem dX6_springs_32 : decode cX6_springs 32 = .ok (.iconst (-1), 1) := by decide +kernel
theorem dX6_springs_33 : decode cX6_springs 33 = .ok (.istore 5, 2) := by decide +kernel
theorem dX6_springs_35 : decode cX6_springs 35 = .ok (.bipush 99, 2) := by decide +kernel
theorem dX6_springs_37 : decode cX6_springs 37 = .ok (.istore 6, 2) := by decide +kernel
theorem dX6_springs_39 : decode cX6_springs 39 = .ok (.iload 6, 2) := by decide +kernel
theorem dX6_springs_41 : decode cX6_springs 41 = .ok (.ifCond .lt 47, 3) := by decide +kernel
theorem dX6_springs_44 : decode cX6_springs 44 = .ok (.aload_n 0, 1) := by decide +kernel
theorem dX6_springs_45 : decode cX6_springs 45 = .ok (.iload_n 1, 1) := by decide +kernel
theorem dX6_springs_46 : decode cX6_springs 46 = .ok (.iload 6, 2) := by decide +kernel
theorem dX6_springs_48 : decode cX6_springs 48 = .ok (.invokevirtual 218, 3) := by decide +kernel
theorem dX6_springs_51 : decode cX6_springs 51 = .ok (.istore 7, 2) := by decide +kernel
theorem dX6_springs_53 : decode cX6_springs 53 = .ok (.iload 4, 2) := by decide +kernel
theorem dX6_springs_55 : decode cX6_springs 55 = .ok (.iload 7, 2) := by decide +kernel
theorem dX6_springs_57 : decode cX6_springs 57 = .ok (.ifCond .eq 7, 3) := by decide +kernel
theorem dX6_springs_60 : decode cX6_springs 60 = .ok (.iconst 1, 1) := by decide +kernel
theorem dX6_springs_61 : decode cX6_springs 61 = .ok (.goto 4, 3) := by decide +kernel
theorem dX6_springs_64 : decode cX6_springs 64 = .ok (.iconst 0, 1) := by decide +kernel
theorem dX6_springs_65 : decode cX6_springs 65 = .ok (.iadd, 1) := by decide +kernel
theorem dX6_springs_66 : decode cX6_springs 66 = .ok (.istore 4, 2) := by decide +kernel
theorem dX6_springs_68 : decode cX6_springs 68 = .ok (.iload 7, 2) := by decide +kernel
theorem dX6_springs_70 : decode cX6_springs 70 = .ok (.ifCond .eq 8, 3) := by decide +kernel
theorem dX6_springs_73 : decode cX6_springs 73 = .ok (.iload 6, 2) := by decide +kernel
theorem dX6_springs_75 : decode cX6_springs 75 = .ok (.goto 5, 3) := by decide +kernel
theorem dX6_springs_78 : decode cX6_springs 78 = .ok (.iload 5, 2) := by decide +kernel
theorem dX6_springs_80 : decode cX6_springs 80 = .ok (.istore 5, 2) := by decide +kernel
theorem dX6_springs_82 : decode cX6_springs 82 = .ok (.iinc 6 (-1), 3) := by decide +kernel
theorem dX6_springs_85 : decode cX6_springs 85 = .ok (.goto (-46), 3) := by decide +kernel
theorem dX6_springs_88 : decode cX6_springs 88 = .ok (.iload_n 2, 1) := by decide +kernel
theorem dX6_springs_89 : decode cX6_springs 89 = .ok (.ifCond .ne 8, 3) := by decide +kernel
theorem dX6_springs_92 : decode cX6_springs 92 = .ok (.iload 4, 2) := by decide +kernel
theorem dX6_springs_94 : decode cX6_springs 94 = .ok (.goto 19, 3) := by decide +kernel
theorem dX6_springs_97 : decode cX6_springs 97 = .ok (.iload 5, 2) := by decide +kernel
theorem dX6_springs_99 : decode cX6_springs 99 = .ok (.iconst (-1), 1) := by decide +kernel
theorem dX6_springs_100 : decode cX6_springs 100 = .ok (.if_icmp .ne 11, 3) := by decide +kernel
theorem dX6_springs_103 : decode cX6_springs 103 = .ok (.aload_n 0, 1) := by decide +kernel
theorem dX6_springs_104 : decode cX6_springs 104 = .ok (.iconst 2, 1) := by decide +kernel
theorem dX6_springs_105 : decode cX6_springs 105 = .ok (.invokevirtual 68, 3) := by decide +kernel
theorem dX6_springs_108 : decode cX6_springs 108 = .ok (.goto 5, 3) := by decide +kernel
theorem dX6_springs_111 : decode cX6_springs 111 = .ok (.iload 5, 2) := by decide +kernel
theorem dX6_springs_113 : decode cX6_springs 113 = .ok (.ireturn, 1) := by decide +kernel
theorem dX6_divisor_0 : decode cX6_divisor 0 = .ok (.lload_n 0, 1) := by decide +kernel
theorem dX6_divisor_1 : decode cX6_divisor 1 = .ok (.lstore 4, 2) := by decide +kernel
theorem dX6_divisor_3 : decode cX6_divisor 3 = .ok (.lload_n 2, 1) := by decide +kernel
theorem dX6_divisor_4 : decode cX6_divisor 4 = .ok (.lstore 6, 2) := by decide +kernel
theorem dX6_divisor_6 : decode cX6_divisor 6 = .ok (.lload 6, 2) := by decide +kernel
theorem dX6_divisor_8 : decode cX6_divisor 8 = .ok (.lconst 0, 1) := by decide +kernel
theorem dX6_divisor_9 : decode cX6_divisor 9 = .ok (.lcmp, 1) := by decide +kernel
theorem dX6_divisor_10 : decode cX6_divisor 10 = .ok (.ifCond .eq 21, 3) := by decide +kernel
theorem dX6_divisor_13 : decode cX6_divisor 13 = .ok (.lload 4, 2) := by decide +kernel
theorem dX6_divisor_15 : decode cX6_divisor 15 = .ok (.lload 6, 2) := by decide +kernel
theorem dX6_divisor_17 : decode cX6_divisor 17 = .ok (.lrem, 1) := by decide +kernel
theorem dX6_divisor_18 : decode cX6_divisor 18 = .ok (.lstore 8, 2) := by decide +kernel
theorem dX6_divisor_20 : decode cX6_divisor 20 = .ok (.lload 6, 2) := by decide +kernel
theorem dX6_divisor_22 : decode cX6_divisor 22 = .ok (.lstore 4, 2) := by decide +kernel
theorem dX6_divisor_24 : decode cX6_divisor 24 = .ok (.lload 8, 2) := by decide +kernel
theorem dX6_divisor_26 : decode cX6_divisor 26 = .ok (.lstore 6, 2) := by decide +kernel
theorem dX6_divisor_28 : decode cX6_divisor 28 = .ok (.goto (-22), 3) := by decide +kernel
theorem dX6_divisor_31 : decode cX6_divisor 31 = .ok (.lload 4, 2) := by decide +kernel
theorem dX6_divisor_33 : decode cX6_divisor 33 = .ok (.lreturn, 1) := by decide +kernel
theorem dX6_odds_0 : decode cX6_odds 0 = .ok (.iload_n 2, 1) := by decide +kernel
theorem dX6_odds_1 : decode cX6_odds 1 = .ok (.iconst 0, 1) := by decide +kernel
theorem dX6_odds_2 : decode cX6_odds 2 = .ok (.iconst 1, 1) := by decide +kernel
theorem dX6_odds_3 : decode cX6_odds 3 = .ok (.invokestatic 50, 3) := by decide +kernel
theorem dX6_odds_6 : decode cX6_odds 6 = .ok (.ifCond .eq 11, 3) := by decide +kernel
theorem dX6_odds_9 : decode cX6_odds 9 = .ok (.aload_n 0, 1) := by decide +kernel
theorem dX6_odds_10 : decode cX6_odds 10 = .ok (.iload_n 1, 1) := by decide +kernel
theorem dX6_odds_11 : decode cX6_odds 11 = .ok (.invokevirtual 186, 3) := by decide +kernel
theorem dX6_odds_14 : decode cX6_odds 14 = .ok (.goto 4, 3) := by decide +kernel
theorem dX6_odds_17 : decode cX6_odds 17 = .ok (.iconst 1, 1) := by decide +kernel
theorem dX6_odds_18 : decode cX6_odds 18 = .ok (.istore_n 3, 1) := by decide +kernel
theorem dX6_odds_19 : decode cX6_odds 19 = .ok (.iload_n 3, 1) := by decide +kernel
theorem dX6_odds_20 : decode cX6_odds 20 = .ok (.ifCond .le 10, 3) := by decide +kernel
theorem dX6_odds_23 : decode cX6_odds 23 = .ok (.aload_n 0, 1) := by decide +kernel
theorem dX6_odds_24 : decode cX6_odds 24 = .ok (.iload_n 3, 1) := by decide +kernel
theorem dX6_odds_25 : decode cX6_odds 25 = .ok (.invokevirtual 68, 3) := by decide +kernel
theorem dX6_odds_28 : decode cX6_odds 28 = .ok (.i2l, 1) := by decide +kernel
theorem dX6_odds_29 : decode cX6_odds 29 = .ok (.lreturn, 1) := by decide +kernel
theorem dX6_odds_30 : decode cX6_odds 30 = .ok (.aload_n 0, 1) := by decide +kernel
theorem dX6_odds_31 : decode cX6_odds 31 = .ok (.getfield 40, 3) := by decide +kernel
theorem dX6_odds_34 : decode cX6_odds 34 = .ok (.iload_n 1, 1) := by decide +kernel
theorem dX6_odds_35 : decode cX6_odds 35 = .ok (.iaload, 1) := by decide +kernel
theorem dX6_odds_36 : decode cX6_odds 36 = .ok (.istore 4, 2) := by decide +kernel
theorem dX6_odds_38 : decode cX6_odds 38 = .ok (.iload 4, 2) := by decide +kernel
theorem dX6_odds_40 : decode cX6_odds 40 = .ok (.iconst 1, 1) := by decide +kernel
theorem dX6_odds_41 : decode cX6_odds 41 = .ok (.iconst 4, 1) := by decide +kernel
theorem dX6_odds_42 : decode cX6_odds 42 = .ok (.invokestatic 50, 3) := by decide +kernel
theorem dX6_odds_45 : decode cX6_odds 45 = .ok (.ifCond .eq 13, 3) := by decide +kernel
theorem dX6_odds_48 : decode cX6_odds 48 = .ok (.aload_n 0, 1) := by decide +kernel
theorem dX6_odds_49 : decode cX6_odds 49 = .ok (.iload_n 1, 1) := by decide +kernel
theorem dX6_odds_50 : decode cX6_odds 50 = .ok (.invokevirtual 189, 3) := by decide +kernel
theorem dX6_odds_53 : decode cX6_odds 53 = .ok (.iload 4, 2) := by decide +kernel
theorem dX6_odds_55 : decode cX6_odds 55 = .ok (.if_icmp .ge 10, 3) := by decide +kernel
theorem dX6_odds_58 : decode cX6_odds 58 = .ok (.aload_n 0, 1) := by decide +kernel
theorem dX6_odds_59 : decode cX6_odds 59 = .ok (.iconst 2, 1) := by decide +kernel
theorem dX6_odds_60 : decode cX6_odds 60 = .ok (.invokevirtual 68, 3) := by decide +kernel
theorem dX6_odds_63 : decode cX6_odds 63 = .ok (.i2l, 1) := by decide +kernel
theorem dX6_odds_64 : decode cX6_odds 64 = .ok (.lreturn, 1) := by decide +kernel
theorem dX6_odds_65 : decode cX6_odds 65 = .ok (.lconst 1, 1) := by decide +kernel
theorem dX6_odds_66 : decode cX6_odds 66 = .ok (.lstore 5, 2) := by decide +kernel
theorem dX6_odds_68 : decode cX6_odds 68 = .ok (.lconst 1, 1) := by decide +kernel
theorem dX6_odds_69 : decode cX6_odds 69 = .ok (.lstore 7, 2) := by decide +kernel
theorem dX6_odds_71 : decode cX6_odds 71 = .ok (.iconst 0, 1) := by decide +kernel
theorem dX6_odds_72 : decode cX6_odds 72 = .ok (.istore 9, 2) := by decide +kernel
theorem dX6_odds_74 : decode cX6_odds 74 = .ok (.iload 9, 2) := by decide +kernel
theorem dX6_odds_76 : decode cX6_odds 76 = .ok (.iload 4, 2) := by decide +kernel
theorem dX6_odds_78 : decode cX6_odds 78 = .ok (.if_icmp .ge 127, 3) := by decide +kernel
theorem dX6_odds_81 : decode cX6_odds 81 = .ok (.aload_n 0, 1) := by decide +kernel
theorem dX6_odds_82 : decode cX6_odds 82 = .ok (.getfield 43, 3) := by decide +kernel
theorem dX6_odds_85 : decode cX6_odds 85 = .ok (.bipush 24, 2) := by decide +kernel
theorem dX6_odds_87 : decode cX6_odds 87 = .ok (.iload_n 1, 1) := by decide +kernel
theorem dX6_odds_88 : decode cX6_odds 88 = .ok (.imul, 1) := by decide +kernel
theorem dX6_odds_89 : decode cX6_odds 89 = .ok (.iload 9, 2) := by decide +kernel
theorem dX6_odds_91 : decode cX6_odds 91 = .ok (.iadd, 1) := by decide +kernel
theorem dX6_odds_92 : decode cX6_odds 92 = .ok (.iaload, 1) := by decide +kernel
theorem dX6_odds_93 : decode cX6_odds 93 = .ok (.istore 10, 2) := by decide +kernel
theorem dX6_odds_95 : decode cX6_odds 95 = .ok (.aload_n 0, 1) := by decide +kernel
theorem dX6_odds_96 : decode cX6_odds 96 = .ok (.iload 10, 2) := by decide +kernel
theorem dX6_odds_98 : decode cX6_odds 98 = .ok (.invokevirtual 54, 3) := by decide +kernel
theorem dX6_odds_101 : decode cX6_odds 101 = .ok (.iconst 1, 1) := by decide +kernel
theorem dX6_odds_102 : decode cX6_odds 102 = .ok (.isub, 1) := by decide +kernel
theorem dX6_odds_103 : decode cX6_odds 103 = .ok (.istore 11, 2) := by decide +kernel
theorem dX6_odds_105 : decode cX6_odds 105 = .ok (.iconst 0, 1) := by decide +kernel
theorem dX6_odds_106 : decode cX6_odds 106 = .ok (.istore 12, 2) := by decide +kernel
theorem dX6_odds_108 : decode cX6_odds 108 = .ok (.iload 12, 2) := by decide +kernel
theorem dX6_odds_110 : decode cX6_odds 110 = .ok (.iload 9, 2) := by decide +kernel
theorem dX6_odds_112 : decode cX6_odds 112 = .ok (.if_icmp .ge 36, 3) := by decide +kernel
theorem dX6_odds_115 : decode cX6_odds 115 = .ok (.iload 11, 2) := by decide +kernel
theorem dX6_odds_117 : decode cX6_odds 117 = .ok (.aload_n 0, 1) := by decide +kernel
theorem dX6_odds_118 : decode cX6_odds 118 = .ok (.getfield 43, 3) := by decide +kernel
theorem dX6_odds_121 : decode cX6_odds 121 = .ok (.bipush 24, 2) := by decide +kernel
theorem dX6_odds_123 : decode cX6_odds 123 = .ok (.iload_n 1, 1) := by decide +kernel
theorem dX6_odds_124 : decode cX6_odds 124 = .ok (.imul, 1) := by decide +kernel
theorem dX6_odds_125 : decode cX6_odds 125 = .ok (.iload 12, 2) := by decide +kernel
theorem dX6_odds_127 : decode cX6_odds 127 = .ok (.iadd, 1) := by decide +kernel
theorem dX6_odds_128 : decode cX6_odds 128 = .ok (.iaload, 1) := by decide +kernel
theorem dX6_odds_129 : decode cX6_odds 129 = .ok (.iload 10, 2) := by decide +kernel
theorem dX6_odds_131 : decode cX6_odds 131 = .ok (.if_icmp .ne 7, 3) := by decide +kernel
theorem dX6_odds_134 : decode cX6_odds 134 = .ok (.iconst 1, 1) := by decide +kernel
theorem dX6_odds_135 : decode cX6_odds 135 = .ok (.goto 4, 3) := by decide +kernel
theorem dX6_odds_138 : decode cX6_odds 138 = .ok (.iconst 0, 1) := by decide +kernel
theorem dX6_odds_139 : decode cX6_odds 139 = .ok (.isub, 1) := by decide +kernel
theorem dX6_odds_140 : decode cX6_odds 140 = .ok (.istore 11, 2) := by decide +kernel
theorem dX6_odds_142 : decode cX6_odds 142 = .ok (.iinc 12 1, 3) := by decide +kernel
theorem dX6_odds_145 : decode cX6_odds 145 = .ok (.goto (-37), 3) := by decide +kernel
theorem dX6_odds_148 : decode cX6_odds 148 = .ok (.lload 5, 2) := by decide +kernel
theorem dX6_odds_150 : decode cX6_odds 150 = .ok (.iload 11, 2) := by decide +kernel
theorem dX6_odds_152 : decode cX6_odds 152 = .ok (.ifCond .ge 7, 3) := by decide +kernel
theorem dX6_odds_155 : decode cX6_odds 155 = .ok (.lconst 0, 1) := by decide +kernel
theorem dX6_odds_156 : decode cX6_odds 156 = .ok (.goto 32, 3) := by decide +kernel
theorem dX6_odds_159 : decode cX6_odds 159 = .ok (.aload_n 0, 1) := by decide +kernel
theorem dX6_odds_160 : decode cX6_odds 160 = .ok (.iload 9, 2) := by decide +kernel
theorem dX6_odds_162 : decode cX6_odds 162 = .ok (.invokevirtual 170, 3) := by decide +kernel
theorem dX6_odds_165 : decode cX6_odds 165 = .ok (.bipush 16, 2) := by decide +kernel
theorem dX6_odds_167 : decode cX6_odds 167 = .ok (.imul, 1) := by decide +kernel
theorem dX6_odds_168 : decode cX6_odds 168 = .ok (.aload_n 0, 1) := by decide +kernel
theorem dX6_odds_169 : decode cX6_odds 169 = .ok (.aload_n 0, 1) := by decide +kernel
theorem dX6_odds_170 : decode cX6_odds 170 = .ok (.iload 10, 2) := by decide +kernel
theorem dX6_odds_172 : decode cX6_odds 172 = .ok (.iload 11, 2) := by decide +kernel
theorem dX6_odds_174 : decode cX6_odds 174 = .ok (.invokevirtual 58, 3) := by decide +kernel
theorem dX6_odds_177 : decode cX6_odds 177 = .ok (.invokevirtual 151, 3) := by decide +kernel
theorem dX6_odds_180 : decode cX6_odds 180 = .ok (.idiv, 1) := by decide +kernel
theorem dX6_odds_181 : decode cX6_odds 181 = .ok (.iconst 0, 1) := by decide +kernel
theorem dX6_odds_182 : decode cX6_odds 182 = .ok (.bipush 16, 2) := by decide +kernel
theorem dX6_odds_184 : decode cX6_odds 184 = .ok (.invokestatic 139, 3) := by decide +kernel
theorem dX6_odds_187 : decode cX6_odds 187 = .ok (.i2l, 1) := by decide +kernel
theorem dX6_odds_188 : decode cX6_odds 188 = .ok (.lmul, 1) := by decide +kernel
theorem dX6_odds_189 : decode cX6_odds 189 = .ok (.lstore 5, 2) := by decide +kernel
theorem dX6_odds_191 : decode cX6_odds 191 = .ok (.lload 7, 2) := by decide +kernel
theorem dX6_odds_193 : decode cX6_odds 193 = .ok (.ldc2_w 221, 3) := by decide +kernel
theorem dX6_odds_196 : decode cX6_odds 196 = .ok (.lmul, 1) := by decide +kernel
theorem dX6_odds_197 : decode cX6_odds 197 = .ok (.lstore 7, 2) := by decide +kernel
theorem dX6_odds_199 : decode cX6_odds 199 = .ok (.iinc 9 1, 3) := by decide +kernel
theorem dX6_odds_202 : decode cX6_odds 202 = .ok (.goto (-128), 3) := by decide +kernel
theorem dX6_odds_205 : decode cX6_odds 205 = .ok (.lload 5, 2) := by decide +kernel
theorem dX6_odds_207 : decode cX6_odds 207 = .ok (.lload 7, 2) := by decide +kernel
theorem dX6_odds_209 : decode cX6_odds 209 = .ok (.invokestatic 223, 3) := by decide +kernel
theorem dX6_odds_212 : decode cX6_odds 212 = .ok (.lstore 9, 2) := by decide +kernel
theorem dX6_odds_214 : decode cX6_odds 214 = .ok (.iload_n 2, 1) := by decide +kernel
theorem dX6_odds_215 : decode cX6_odds 215 = .ok (.ifCond .ne 11, 3) := by decide +kernel
theorem dX6_odds_218 : decode cX6_odds 218 = .ok (.lload 5, 2) := by decide +kernel
theorem dX6_odds_220 : decode cX6_odds 220 = .ok (.lload 9, 2) := by decide +kernel
theorem dX6_odds_222 : decode cX6_odds 222 = .ok (.ldiv, 1) := by decide +kernel
theorem dX6_odds_223 : decode cX6_odds 223 = .ok (.goto 8, 3) := by decide +kernel
theorem dX6_odds_226 : decode cX6_odds 226 = .ok (.lload 7, 2) := by decide +kernel
theorem dX6_odds_228 : decode cX6_odds 228 = .ok (.lload 9, 2) := by decide +kernel
theorem dX6_odds_230 : decode cX6_odds 230 = .ok (.ldiv, 1) := by decide +kernel
theorem dX6_odds_231 : decode cX6_odds 231 = .ok (.lreturn, 1) := by decide +kernel
theorem dX6_seen_0 : decode cX6_seen 0 = .ok (.iload_n 1, 1) := by decide +kernel
theorem dX6_seen_1 : decode cX6_seen 1 = .ok (.iconst 0, 1) := by decide +kernel
theorem dX6_seen_2 : decode cX6_seen 2 = .ok (.iconst 3, 1) := by decide +kernel
theorem dX6_seen_3 : decode cX6_seen 3 = .ok (.invokestatic 50, 3) := by decide +kernel
theorem dX6_seen_6 : decode cX6_seen 6 = .ok (.ifCond .eq 12, 3) := by decide +kernel
theorem dX6_seen_9 : decode cX6_seen 9 = .ok (.iload_n 2, 1) := by decide +kernel
theorem dX6_seen_10 : decode cX6_seen 10 = .ok (.iconst 0, 1) := by decide +kernel
theorem dX6_seen_11 : decode cX6_seen 11 = .ok (.iconst 4, 1) := by decide +kernel
theorem dX6_seen_12 : decode cX6_seen 12 = .ok (.invokestatic 50, 3) := by decide +kernel
theorem dX6_seen_15 : decode cX6_seen 15 = .ok (.ifCond .ne 9, 3) := by decide +kernel
theorem dX6_seen_18 : decode cX6_seen 18 = .ok (.aload_n 0, 1) := by decide +kernel
theorem dX6_seen_19 : decode cX6_seen 19 = .ok (.iconst 1, 1) := by decide +kernel
theorem dX6_seen_20 : decode cX6_seen 20 = .ok (.invokevirtual 68, 3) := by decide +kernel
theorem dX6_seen_23 : decode cX6_seen 23 = .ok (.ireturn, 1) := by decide +kernel
theorem dX6_seen_24 : decode cX6_seen 24 = .ok (.iload_n 1, 1) := by decide +kernel
theorem dX6_seen_25 : decode cX6_seen 25 = .ok (.istore_n 3, 1) := by decide +kernel
theorem dX6_seen_26 : decode cX6_seen 26 = .ok (.iload_n 3, 1) := by decide +kernel
theorem dX6_seen_27 : decode cX6_seen 27 = .ok (.bipush 16, 2) := by decide +kernel
theorem dX6_seen_29 : decode cX6_seen 29 = .ok (.if_icmp .ge 25, 3) := by decide +kernel
theorem dX6_seen_32 : decode cX6_seen 32 = .ok (.aload_n 0, 1) := by decide +kernel
theorem dX6_seen_33 : decode cX6_seen 33 = .ok (.iload_n 3, 1) := by decide +kernel
theorem dX6_seen_34 : decode cX6_seen 34 = .ok (.invokevirtual 54, 3) := by decide +kernel
theorem dX6_seen_37 : decode cX6_seen 37 = .ok (.iload_n 2, 1) := by decide +kernel
theorem dX6_seen_38 : decode cX6_seen 38 = .ok (.if_icmp .le 10, 3) := by decide +kernel
theorem dX6_seen_41 : decode cX6_seen 41 = .ok (.aload_n 0, 1) := by decide +kernel
theorem dX6_seen_42 : decode cX6_seen 42 = .ok (.iload_n 3, 1) := by decide +kernel
theorem dX6_seen_43 : decode cX6_seen 43 = .ok (.iload_n 2, 1) := by decide +kernel
theorem dX6_seen_44 : decode cX6_seen 44 = .ok (.invokevirtual 58, 3) := by decide +kernel
theorem dX6_seen_47 : decode cX6_seen 47 = .ok (.ireturn, 1) := by decide +kernel
theorem dX6_seen_48 : decode cX6_seen 48 = .ok (.iinc 3 4, 3) := by decide +kernel
theorem dX6_seen_51 : decode cX6_seen 51 = .ok (.goto (-25), 3) := by decide +kernel
theorem dX6_seen_54 : decode cX6_seen 54 = .ok (.aload_n 0, 1) := by decide +kernel
theorem dX6_seen_55 : decode cX6_seen 55 = .ok (.iconst 2, 1) := by decide +kernel
theorem dX6_seen_56 : decode cX6_seen 56 = .ok (.invokevirtual 68, 3) := by decide +kernel
theorem dX6_seen_59 : decode cX6_seen 59 = .ok (.ireturn, 1) := by decide +kernel
theorem dX6_fill_0 : decode cX6_fill 0 = .ok (.iload_n 1, 1) := by decide +kernel
theorem dX6_fill_1 : decode cX6_fill 1 = .ok (.iconst 0, 1) := by decide +kernel
theorem dX6_fill_2 : decode cX6_fill 2 = .ok (.iconst 5, 1) := by decide +kernel
theorem dX6_fill_3 : decode cX6_fill 3 = .ok (.invokestatic 50, 3) := by decide +kernel
theorem dX6_fill_6 : decode cX6_fill 6 = .ok (.ifCond .ne 9, 3) := by decide +kernel
theorem dX6_fill_9 : decode cX6_fill 9 = .ok (.aload_n 0, 1) := by decide +kernel
theorem dX6_fill_10 : decode cX6_fill 10 = .ok (.iconst 1, 1) := by decide +kernel
theorem dX6_fill_11 : decode cX6_fill 11 = .ok (.invokevirtual 68, 3) := by decide +kernel
theorem dX6_fill_14 : decode cX6_fill 14 = .ok (.ireturn, 1) := by decide +kernel
theorem dX6_fill_15 : decode cX6_fill 15 = .ok (.iconst 0, 1) := by decide +kernel
theorem dX6_fill_16 : decode cX6_fill 16 = .ok (.istore_n 2, 1) := by decide +kernel
theorem dX6_fill_17 : decode cX6_fill 17 = .ok (.iconst 1, 1) := by decide +kernel
theorem dX6_fill_18 : decode cX6_fill 18 = .ok (.istore_n 3, 1) := by decide +kernel
theorem dX6_fill_19 : decode cX6_fill 19 = .ok (.iload_n 3, 1) := by decide +kernel
theorem dX6_fill_20 : decode cX6_fill 20 = .ok (.bipush 16, 2) := by decide +kernel
theorem dX6_fill_22 : decode cX6_fill 22 = .ok (.if_icmp .ge 32, 3) := by decide +kernel
theorem dX6_fill_25 : decode cX6_fill 25 = .ok (.iload_n 2, 1) := by decide +kernel
theorem dX6_fill_26 : decode cX6_fill 26 = .ok (.aload_n 0, 1) := by decide +kernel
theorem dX6_fill_27 : decode cX6_fill 27 = .ok (.iload_n 3, 1) := by decide +kernel
theorem dX6_fill_28 : decode cX6_fill 28 = .ok (.invokevirtual 54, 3) := by decide +kernel
theorem dX6_fill_31 : decode cX6_fill 31 = .ok (.iload_n 1, 1) := by decide +kernel
theorem dX6_fill_32 : decode cX6_fill 32 = .ok (.if_icmp .ge 13, 3) := by decide +kernel
theorem dX6_fill_35 : decode cX6_fill 35 = .ok (.iload_n 1, 1) := by decide +kernel
theorem dX6_fill_36 : decode cX6_fill 36 = .ok (.aload_n 0, 1) := by decide +kernel
theorem dX6_fill_37 : decode cX6_fill 37 = .ok (.iload_n 3, 1) := by decide +kernel
theorem dX6_fill_38 : decode cX6_fill 38 = .ok (.invokevirtual 54, 3) := by decide +kernel
theorem dX6_fill_41 : decode cX6_fill 41 = .ok (.isub, 1) := by decide +kernel
theorem dX6_fill_42 : decode cX6_fill 42 = .ok (.goto 4, 3) := by decide +kernel
theorem dX6_fill_45 : decode cX6_fill 45 = .ok (.iconst 0, 1) := by decide +kernel
theorem dX6_fill_46 : decode cX6_fill 46 = .ok (.iadd, 1) := by decide +kernel
theorem dX6_fill_47 : decode cX6_fill 47 = .ok (.istore_n 2, 1) := by decide +kernel
theorem dX6_fill_48 : decode cX6_fill 48 = .ok (.iinc 3 1, 3) := by decide +kernel
theorem dX6_fill_51 : decode cX6_fill 51 = .ok (.goto (-32), 3) := by decide +kernel
theorem dX6_fill_54 : decode cX6_fill 54 = .ok (.iload_n 2, 1) := by decide +kernel
theorem dX6_fill_55 : decode cX6_fill 55 = .ok (.ireturn, 1) := by decide +kernel
theorem dX6_begins_0 : decode cX6_begins 0 = .ok (.aload_n 0, 1) := by decide +kernel
theorem dX6_begins_1 : decode cX6_begins 1 = .ok (.getfield 227, 3) := by decide +kernel
theorem dX6_begins_4 : decode cX6_begins 4 = .ok (.bipush 30, 2) := by decide +kernel
theorem dX6_begins_6 : decode cX6_begins 6 = .ok (.if_icmp .ge 23, 3) := by decide +kernel
theorem dX6_begins_9 : decode cX6_begins 9 = .ok (.aload_n 0, 1) := by decide +kernel
theorem dX6_begins_10 : decode cX6_begins 10 = .ok (.getfield 34, 3) := by decide +kernel
theorem dX6_begins_13 : decode cX6_begins 13 = .ok (.aload_n 0, 1) := by decide +kernel
theorem dX6_begins_14 : decode cX6_begins 14 = .ok (.getfield 227, 3) := by decide +kernel
theorem dX6_begins_17 : decode cX6_begins 17 = .ok (.iload_n 1, 1) := by decide +kernel
theorem dX6_begins_18 : decode cX6_begins 18 = .ok (.iastore, 1) := by decide +kernel
theorem dX6_begins_19 : decode cX6_begins 19 = .ok (.aload_n 0, 1) := by decide +kernel
theorem dX6_begins_20 : decode cX6_begins 20 = .ok (.dup, 1) := by decide +kernel
theorem dX6_begins_21 : decode cX6_begins 21 = .ok (.getfield 227, 3) := by decide +kernel
theorem dX6_begins_24 : decode cX6_begins 24 = .ok (.iconst 1, 1) := by decide +kernel
theorem dX6_begins_25 : decode cX6_begins 25 = .ok (.iadd, 1) := by decide +kernel
theorem dX6_begins_26 : decode cX6_begins 26 = .ok (.putfield 227, 3) := by decide +kernel
theorem dX6_begins_29 : decode cX6_begins 29 = .ok (.return_, 1) := by decide +kernel
theorem dX6_above_0 : decode cX6_above 0 = .ok (.iload_n 0, 1) := by decide +kernel
theorem dX6_above_1 : decode cX6_above 1 = .ok (.iconst 4, 1) := by decide +kernel
theorem dX6_above_2 : decode cX6_above 2 = .ok (.if_icmp .ne 7, 3) := by decide +kernel
theorem dX6_above_5 : decode cX6_above 5 = .ok (.iconst 1, 1) := by decide +kernel
theorem dX6_above_6 : decode cX6_above 6 = .ok (.goto 13, 3) := by decide +kernel
theorem dX6_above_9 : decode cX6_above 9 = .ok (.iload_n 0, 1) := by decide +kernel
theorem dX6_above_10 : decode cX6_above 10 = .ok (.iconst 5, 1) := by decide +kernel
theorem dX6_above_11 : decode cX6_above 11 = .ok (.if_icmp .ne 7, 3) := by decide +kernel
theorem dX6_above_14 : decode cX6_above 14 = .ok (.iconst 2, 1) := by decide +kernel
theorem dX6_above_15 : decode cX6_above 15 = .ok (.goto 4, 3) := by decide +kernel
theorem dX6_above_18 : decode cX6_above 18 = .ok (.iconst 0, 1) := by decide +kernel
theorem dX6_above_19 : decode cX6_above 19 = .ok (.ireturn, 1) := by decide +kernel
theorem dX6_kindNow_0 : decode cX6_kindNow 0 = .ok (.aload_n 0, 1) := by decide +kernel
theorem dX6_kindNow_1 : decode cX6_kindNow 1 = .ok (.aload_n 0, 1) := by decide +kernel
theorem dX6_kindNow_2 : decode cX6_kindNow 2 = .ok (.getfield 230, 3) := by decide +kernel
theorem dX6_kindNow_5 : decode cX6_kindNow 5 = .ok (.iconst 0, 1) := by decide +kernel
theorem dX6_kindNow_6 : decode cX6_kindNow 6 = .ok (.invokevirtual 62, 3) := by decide +kernel
theorem dX6_kindNow_9 : decode cX6_kindNow 9 = .ok (.ireturn, 1) := by decide +kernel
theorem dX6_mNow_0 : decode cX6_mNow 0 = .ok (.aload_n 0, 1) := by decide +kernel
theorem dX6_mNow_1 : decode cX6_mNow 1 = .ok (.aload_n 0, 1) := by decide +kernel
theorem dX6_mNow_2 : decode cX6_mNow 2 = .ok (.getfield 230, 3) := by decide +kernel
theorem dX6_mNow_5 : decode cX6_mNow 5 = .ok (.iconst 1, 1) := by decide +kernel
theorem dX6_mNow_6 : decode cX6_mNow 6 = .ok (.invokevirtual 62, 3) := by decide +kernel
theorem dX6_mNow_9 : decode cX6_mNow 9 = .ok (.ireturn, 1) := by decide +kernel
theorem dX6_liesAs_0 : decode cX6_liesAs 0 = .ok (.iload_n 1, 1) := by decide +kernel
theorem dX6_liesAs_1 : decode cX6_liesAs 1 = .ok (.tableswitch 100 0 6 #[43, 56, 100, 100, 74, 100, 92], 43) := by decide +kernel
theorem dX6_liesAs_44 : decode cX6_liesAs 44 = .ok (.aload_n 0, 1) := by decide +kernel
theorem dX6_liesAs_45 : decode cX6_liesAs 45 = .ok (.bipush 10, 2) := by decide +kernel
theorem dX6_liesAs_47 : decode cX6_liesAs 47 = .ok (.invokevirtual 233, 3) := by decide +kernel
theorem dX6_liesAs_50 : decode cX6_liesAs 50 = .ok (.iload_n 2, 1) := by decide +kernel
theorem dX6_liesAs_51 : decode cX6_liesAs 51 = .ok (.aload_n 0, 1) := by decide +kernel
theorem dX6_liesAs_52 : decode cX6_liesAs 52 = .ok (.getfield 230, 3) := by decide +kernel
theorem dX6_liesAs_55 : decode cX6_liesAs 55 = .ok (.iadd, 1) := by decide +kernel
theorem dX6_liesAs_56 : decode cX6_liesAs 56 = .ok (.ireturn, 1) := by decide +kernel
theorem dX6_liesAs_57 : decode cX6_liesAs 57 = .ok (.aload_n 0, 1) := by decide +kernel
theorem dX6_liesAs_58 : decode cX6_liesAs 58 = .ok (.bipush 20, 2) := by decide +kernel
theorem dX6_liesAs_60 : decode cX6_liesAs 60 = .ok (.invokevirtual 233, 3) := by decide +kernel
theorem dX6_liesAs_63 : decode cX6_liesAs 63 = .ok (.aload_n 0, 1) := by decide +kernel
theorem dX6_liesAs_64 : decode cX6_liesAs 64 = .ok (.iconst 1, 1) := by decide +kernel
theorem dX6_liesAs_65 : decode cX6_liesAs 65 = .ok (.invokestatic 236, 3) := by decide +kernel
theorem dX6_liesAs_68 : decode cX6_liesAs 68 = .ok (.iload_n 2, 1) := by decide +kernel
theorem dX6_liesAs_69 : decode cX6_liesAs 69 = .ok (.invokevirtual 239, 3) := by decide +kernel
theorem dX6_liesAs_72 : decode cX6_liesAs 72 = .ok (.iconst 3, 1) := by decide +kernel
theorem dX6_liesAs_73 : decode cX6_liesAs 73 = .ok (.isub, 1) := by decide +kernel
theorem dX6_liesAs_74 : decode cX6_liesAs 74 = .ok (.ireturn, 1) := by decide +kernel
theorem dX6_liesAs_75 : decode cX6_liesAs 75 = .ok (.aload_n 0, 1) := by decide +kernel
theorem dX6_liesAs_76 : decode cX6_liesAs 76 = .ok (.bipush 50, 2) := by decide +kernel
theorem dX6_liesAs_78 : decode cX6_liesAs 78 = .ok (.invokevirtual 233, 3) := by decide +kernel
theorem dX6_liesAs_81 : decode cX6_liesAs 81 = .ok (.aload_n 0, 1) := by decide +kernel
theorem dX6_liesAs_82 : decode cX6_liesAs 82 = .ok (.iconst 4, 1) := by decide +kernel
theorem dX6_liesAs_83 : decode cX6_liesAs 83 = .ok (.invokestatic 236, 3) := by decide +kernel
theorem dX6_liesAs_86 : decode cX6_liesAs 86 = .ok (.iload_n 2, 1) := by decide +kernel
theorem dX6_liesAs_87 : decode cX6_liesAs 87 = .ok (.invokevirtual 239, 3) := by decide +kernel
theorem dX6_liesAs_90 : decode cX6_liesAs 90 = .ok (.iconst 3, 1) := by decide +kernel
theorem dX6_liesAs_91 : decode cX6_liesAs 91 = .ok (.imul, 1) := by decide +kernel
theorem dX6_liesAs_92 : decode cX6_liesAs 92 = .ok (.ireturn, 1) := by decide +kernel
theorem dX6_liesAs_93 : decode cX6_liesAs 93 = .ok (.aload_n 0, 1) := by decide +kernel
theorem dX6_liesAs_94 : decode cX6_liesAs 94 = .ok (.bipush 70, 2) := by decide +kernel
theorem dX6_liesAs_96 : decode cX6_liesAs 96 = .ok (.invokevirtual 233, 3) := by decide +kernel
theorem dX6_liesAs_99 : decode cX6_liesAs 99 = .ok (.iconst 4, 1) := by decide +kernel
theorem dX6_liesAs_100 : decode cX6_liesAs 100 = .ok (.ireturn, 1) := by decide +kernel
theorem dX6_liesAs_101 : decode cX6_liesAs 101 = .ok (.aload_n 0, 1) := by decide +kernel
theorem dX6_liesAs_102 : decode cX6_liesAs 102 = .ok (.iload_n 1, 1) := by decide +kernel
theorem dX6_liesAs_103 : decode cX6_liesAs 103 = .ok (.invokestatic 236, 3) := by decide +kernel
theorem dX6_liesAs_106 : decode cX6_liesAs 106 = .ok (.iload_n 2, 1) := by decide +kernel
theorem dX6_liesAs_107 : decode cX6_liesAs 107 = .ok (.invokevirtual 239, 3) := by decide +kernel
theorem dX6_liesAs_110 : decode cX6_liesAs 110 = .ok (.ireturn, 1) := by decide +kernel
theorem dX6_rollsAs_0 : decode cX6_rollsAs 0 = .ok (.iload_n 1, 1) := by decide +kernel
theorem dX6_rollsAs_1 : decode cX6_rollsAs 1 = .ok (.tableswitch 119 0 6 #[43, 119, 61, 119, 119, 79, 97], 43) := by decide +kernel
theorem dX6_rollsAs_44 : decode cX6_rollsAs 44 = .ok (.aload_n 0, 1) := by decide +kernel
theorem dX6_rollsAs_45 : decode cX6_rollsAs 45 = .ok (.bipush 11, 2) := by decide +kernel
theorem dX6_rollsAs_47 : decode cX6_rollsAs 47 = .ok (.invokevirtual 233, 3) := by decide +kernel
theorem dX6_rollsAs_50 : decode cX6_rollsAs 50 = .ok (.aload_n 0, 1) := by decide +kernel
theorem dX6_rollsAs_51 : decode cX6_rollsAs 51 = .ok (.aload_n 0, 1) := by decide +kernel
theorem dX6_rollsAs_52 : decode cX6_rollsAs 52 = .ok (.invokevirtual 242, 3) := by decide +kernel
theorem dX6_rollsAs_55 : decode cX6_rollsAs 55 = .ok (.iload_n 2, 1) := by decide +kernel
theorem dX6_rollsAs_56 : decode cX6_rollsAs 56 = .ok (.invokevirtual 239, 3) := by decide +kernel
theorem dX6_rollsAs_59 : decode cX6_rollsAs 59 = .ok (.iconst 2, 1) := by decide +kernel
theorem dX6_rollsAs_60 : decode cX6_rollsAs 60 = .ok (.imul, 1) := by decide +kernel
theorem dX6_rollsAs_61 : decode cX6_rollsAs 61 = .ok (.ireturn, 1) := by decide +kernel
theorem dX6_rollsAs_62 : decode cX6_rollsAs 62 = .ok (.aload_n 0, 1) := by decide +kernel
theorem dX6_rollsAs_63 : decode cX6_rollsAs 63 = .ok (.bipush 30, 2) := by decide +kernel
theorem dX6_rollsAs_65 : decode cX6_rollsAs 65 = .ok (.invokevirtual 233, 3) := by decide +kernel
theorem dX6_rollsAs_68 : decode cX6_rollsAs 68 = .ok (.iconst 0, 1) := by decide +kernel
theorem dX6_rollsAs_69 : decode cX6_rollsAs 69 = .ok (.aload_n 0, 1) := by decide +kernel
theorem dX6_rollsAs_70 : decode cX6_rollsAs 70 = .ok (.iconst 2, 1) := by decide +kernel
theorem dX6_rollsAs_71 : decode cX6_rollsAs 71 = .ok (.invokestatic 236, 3) := by decide +kernel
theorem dX6_rollsAs_74 : decode cX6_rollsAs 74 = .ok (.iload_n 2, 1) := by decide +kernel
theorem dX6_rollsAs_75 : decode cX6_rollsAs 75 = .ok (.invokevirtual 245, 3) := by decide +kernel
theorem dX6_rollsAs_78 : decode cX6_rollsAs 78 = .ok (.isub, 1) := by decide +kernel
theorem dX6_rollsAs_79 : decode cX6_rollsAs 79 = .ok (.ireturn, 1) := by decide +kernel
theorem dX6_rollsAs_80 : decode cX6_rollsAs 80 = .ok (.aload_n 0, 1) := by decide +kernel
theorem dX6_rollsAs_81 : decode cX6_rollsAs 81 = .ok (.bipush 60, 2) := by decide +kernel
theorem dX6_rollsAs_83 : decode cX6_rollsAs 83 = .ok (.invokevirtual 233, 3) := by decide +kernel
theorem dX6_rollsAs_86 : decode cX6_rollsAs 86 = .ok (.aload_n 0, 1) := by decide +kernel
theorem dX6_rollsAs_87 : decode cX6_rollsAs 87 = .ok (.iconst 5, 1) := by decide +kernel
theorem dX6_rollsAs_88 : decode cX6_rollsAs 88 = .ok (.invokestatic 236, 3) := by decide +kernel
theorem dX6_rollsAs_91 : decode cX6_rollsAs 91 = .ok (.iload_n 2, 1) := by decide +kernel
theorem dX6_rollsAs_92 : decode cX6_rollsAs 92 = .ok (.iconst 1, 1) := by decide +kernel
theorem dX6_rollsAs_93 : decode cX6_rollsAs 93 = .ok (.iadd, 1) := by decide +kernel
theorem dX6_rollsAs_94 : decode cX6_rollsAs 94 = .ok (.invokevirtual 245, 3) := by decide +kernel
theorem dX6_rollsAs_97 : decode cX6_rollsAs 97 = .ok (.ireturn, 1) := by decide +kernel
theorem dX6_rollsAs_98 : decode cX6_rollsAs 98 = .ok (.aload_n 0, 1) := by decide +kernel
theorem dX6_rollsAs_99 : decode cX6_rollsAs 99 = .ok (.bipush 71, 2) := by decide +kernel
theorem dX6_rollsAs_101 : decode cX6_rollsAs 101 = .ok (.invokevirtual 233, 3) := by decide +kernel
theorem dX6_rollsAs_104 : decode cX6_rollsAs 104 = .ok (.aload_n 0, 1) := by decide +kernel
theorem dX6_rollsAs_105 : decode cX6_rollsAs 105 = .ok (.bipush 6, 2) := by decide +kernel
theorem dX6_rollsAs_107 : decode cX6_rollsAs 107 = .ok (.invokestatic 236, 3) := by decide +kernel
theorem dX6_rollsAs_110 : decode cX6_rollsAs 110 = .ok (.iload_n 2, 1) := by decide +kernel
theorem dX6_rollsAs_111 : decode cX6_rollsAs 111 = .ok (.invokevirtual 245, 3) := by decide +kernel
theorem dX6_rollsAs_114 : decode cX6_rollsAs 114 = .ok (.aload_n 0, 1) := by decide +kernel
theorem dX6_rollsAs_115 : decode cX6_rollsAs 115 = .ok (.invokevirtual 248, 3) := by decide +kernel
theorem dX6_rollsAs_118 : decode cX6_rollsAs 118 = .ok (.iadd, 1) := by decide +kernel
theorem dX6_rollsAs_119 : decode cX6_rollsAs 119 = .ok (.ireturn, 1) := by decide +kernel
theorem dX6_rollsAs_120 : decode cX6_rollsAs 120 = .ok (.aload_n 0, 1) := by decide +kernel
theorem dX6_rollsAs_121 : decode cX6_rollsAs 121 = .ok (.iload_n 1, 1) := by decide +kernel
theorem dX6_rollsAs_122 : decode cX6_rollsAs 122 = .ok (.invokestatic 236, 3) := by decide +kernel
theorem dX6_rollsAs_125 : decode cX6_rollsAs 125 = .ok (.iload_n 2, 1) := by decide +kernel
theorem dX6_rollsAs_126 : decode cX6_rollsAs 126 = .ok (.invokevirtual 245, 3) := by decide +kernel
theorem dX6_rollsAs_129 : decode cX6_rollsAs 129 = .ok (.ireturn, 1) := by decide +kernel
theorem dX6_fallsAs_0 : decode cX6_fallsAs 0 = .ok (.iload_n 1, 1) := by decide +kernel
theorem dX6_fallsAs_1 : decode cX6_fallsAs 1 = .ok (.tableswitch 95 0 4 #[35, 95, 95, 56, 74], 35) := by decide +kernel
theorem dX6_fallsAs_36 : decode cX6_fallsAs 36 = .ok (.aload_n 0, 1) := by decide +kernel
theorem dX6_fallsAs_37 : decode cX6_fallsAs 37 = .ok (.bipush 12, 2) := by decide +kernel
theorem dX6_fallsAs_39 : decode cX6_fallsAs 39 = .ok (.invokevirtual 233, 3) := by decide +kernel
theorem dX6_fallsAs_42 : decode cX6_fallsAs 42 = .ok (.aload_n 0, 1) := by decide +kernel
theorem dX6_fallsAs_43 : decode cX6_fallsAs 43 = .ok (.aload_n 0, 1) := by decide +kernel
theorem dX6_fallsAs_44 : decode cX6_fallsAs 44 = .ok (.invokevirtual 242, 3) := by decide +kernel
theorem dX6_fallsAs_47 : decode cX6_fallsAs 47 = .ok (.iload_n 2, 1) := by decide +kernel
theorem dX6_fallsAs_48 : decode cX6_fallsAs 48 = .ok (.invokevirtual 245, 3) := by decide +kernel
theorem dX6_fallsAs_51 : decode cX6_fallsAs 51 = .ok (.aload_n 0, 1) := by decide +kernel
theorem dX6_fallsAs_52 : decode cX6_fallsAs 52 = .ok (.invokevirtual 248, 3) := by decide +kernel
theorem dX6_fallsAs_55 : decode cX6_fallsAs 55 = .ok (.isub, 1) := by decide +kernel
theorem dX6_fallsAs_56 : decode cX6_fallsAs 56 = .ok (.ireturn, 1) := by decide +kernel
theorem dX6_fallsAs_57 : decode cX6_fallsAs 57 = .ok (.aload_n 0, 1) := by decide +kernel
theorem dX6_fallsAs_58 : decode cX6_fallsAs 58 = .ok (.bipush 40, 2) := by decide +kernel
theorem dX6_fallsAs_60 : decode cX6_fallsAs 60 = .ok (.invokevirtual 233, 3) := by decide +kernel
theorem dX6_fallsAs_63 : decode cX6_fallsAs 63 = .ok (.aload_n 0, 1) := by decide +kernel
theorem dX6_fallsAs_64 : decode cX6_fallsAs 64 = .ok (.iconst 3, 1) := by decide +kernel
theorem dX6_fallsAs_65 : decode cX6_fallsAs 65 = .ok (.invokestatic 236, 3) := by decide +kernel
theorem dX6_fallsAs_68 : decode cX6_fallsAs 68 = .ok (.iload_n 2, 1) := by decide +kernel
theorem dX6_fallsAs_69 : decode cX6_fallsAs 69 = .ok (.iconst 2, 1) := by decide +kernel
theorem dX6_fallsAs_70 : decode cX6_fallsAs 70 = .ok (.idiv, 1) := by decide +kernel
theorem dX6_fallsAs_71 : decode cX6_fallsAs 71 = .ok (.invokevirtual 251, 3) := by decide +kernel
theorem dX6_fallsAs_74 : decode cX6_fallsAs 74 = .ok (.ireturn, 1) := by decide +kernel
theorem dX6_fallsAs_75 : decode cX6_fallsAs 75 = .ok (.aload_n 0, 1) := by decide +kernel
theorem dX6_fallsAs_76 : decode cX6_fallsAs 76 = .ok (.bipush 51, 2) := by decide +kernel
theorem dX6_fallsAs_78 : decode cX6_fallsAs 78 = .ok (.invokevirtual 233, 3) := by decide +kernel
theorem dX6_fallsAs_81 : decode cX6_fallsAs 81 = .ok (.aload_n 0, 1) := by decide +kernel
theorem dX6_fallsAs_82 : decode cX6_fallsAs 82 = .ok (.iconst 4, 1) := by decide +kernel
theorem dX6_fallsAs_83 : decode cX6_fallsAs 83 = .ok (.invokestatic 236, 3) := by decide +kernel
theorem dX6_fallsAs_86 : decode cX6_fallsAs 86 = .ok (.iload_n 2, 1) := by decide +kernel
theorem dX6_fallsAs_87 : decode cX6_fallsAs 87 = .ok (.invokevirtual 251, 3) := by decide +kernel
theorem dX6_fallsAs_90 : decode cX6_fallsAs 90 = .ok (.aload_n 0, 1) := by decide +kernel
theorem dX6_fallsAs_91 : decode cX6_fallsAs 91 = .ok (.getfield 230, 3) := by decide +kernel
theorem dX6_fallsAs_94 : decode cX6_fallsAs 94 = .ok (.ixor, 1) := by decide +kernel
theorem dX6_fallsAs_95 : decode cX6_fallsAs 95 = .ok (.ireturn, 1) := by decide +kernel
theorem dX6_fallsAs_96 : decode cX6_fallsAs 96 = .ok (.aload_n 0, 1) := by decide +kernel
theorem dX6_fallsAs_97 : decode cX6_fallsAs 97 = .ok (.iload_n 1, 1) := by decide +kernel
theorem dX6_fallsAs_98 : decode cX6_fallsAs 98 = .ok (.invokestatic 236, 3) := by decide +kernel
theorem dX6_fallsAs_101 : decode cX6_fallsAs 101 = .ok (.iload_n 2, 1) := by decide +kernel
theorem dX6_fallsAs_102 : decode cX6_fallsAs 102 = .ok (.invokevirtual 251, 3) := by decide +kernel
theorem dX6_fallsAs_105 : decode cX6_fallsAs 105 = .ok (.ireturn, 1) := by decide +kernel
theorem dX6_partsAs_0 : decode cX6_partsAs 0 = .ok (.iload_n 1, 1) := by decide +kernel
theorem dX6_partsAs_1 : decode cX6_partsAs 1 = .ok (.lookupswitch 119 #[(0, 27), (1, 78)], 27) := by decide +kernel
theorem dX6_partsAs_28 : decode cX6_partsAs 28 = .ok (.aload_n 0, 1) := by decide +kernel
theorem dX6_partsAs_29 : decode cX6_partsAs 29 = .ok (.bipush 13, 2) := by decide +kernel
theorem dX6_partsAs_31 : decode cX6_partsAs 31 = .ok (.invokevirtual 233, 3) := by decide +kernel
theorem dX6_partsAs_34 : decode cX6_partsAs 34 = .ok (.aload_n 0, 1) := by decide +kernel
theorem dX6_partsAs_35 : decode cX6_partsAs 35 = .ok (.invokevirtual 248, 3) := by decide +kernel
theorem dX6_partsAs_38 : decode cX6_partsAs 38 = .ok (.aload_n 0, 1) := by decide +kernel
theorem dX6_partsAs_39 : decode cX6_partsAs 39 = .ok (.getfield 230, 3) := by decide +kernel
theorem dX6_partsAs_42 : decode cX6_partsAs 42 = .ok (.isub, 1) := by decide +kernel
theorem dX6_partsAs_43 : decode cX6_partsAs 43 = .ok (.istore_n 3, 1) := by decide +kernel
theorem dX6_partsAs_44 : decode cX6_partsAs 44 = .ok (.aload_n 0, 1) := by decide +kernel
theorem dX6_partsAs_45 : decode cX6_partsAs 45 = .ok (.iload_n 3, 1) := by decide +kernel
theorem dX6_partsAs_46 : decode cX6_partsAs 46 = .ok (.ifCond .ne 7, 3) := by decide +kernel
theorem dX6_partsAs_49 : decode cX6_partsAs 49 = .ok (.iconst 1, 1) := by decide +kernel
theorem dX6_partsAs_50 : decode cX6_partsAs 50 = .ok (.goto 4, 3) := by decide +kernel
theorem dX6_partsAs_53 : decode cX6_partsAs 53 = .ok (.iconst 0, 1) := by decide +kernel
theorem dX6_partsAs_54 : decode cX6_partsAs 54 = .ok (.putfield 254, 3) := by decide +kernel
theorem dX6_partsAs_57 : decode cX6_partsAs 57 = .ok (.iload_n 3, 1) := by decide +kernel
theorem dX6_partsAs_58 : decode cX6_partsAs 58 = .ok (.ifCond .ne 7, 3) := by decide +kernel
theorem dX6_partsAs_61 : decode cX6_partsAs 61 = .ok (.iconst 0, 1) := by decide +kernel
theorem dX6_partsAs_62 : decode cX6_partsAs 62 = .ok (.goto 16, 3) := by decide +kernel
theorem dX6_partsAs_65 : decode cX6_partsAs 65 = .ok (.iload_n 3, 1) := by decide +kernel
theorem dX6_partsAs_66 : decode cX6_partsAs 66 = .ok (.iconst (-1), 1) := by decide +kernel
theorem dX6_partsAs_67 : decode cX6_partsAs 67 = .ok (.if_icmp .ne 8, 3) := by decide +kernel
theorem dX6_partsAs_70 : decode cX6_partsAs 70 = .ok (.iload_n 2, 1) := by decide +kernel
theorem dX6_partsAs_71 : decode cX6_partsAs 71 = .ok (.ineg, 1) := by decide +kernel
theorem dX6_partsAs_72 : decode cX6_partsAs 72 = .ok (.goto 6, 3) := by decide +kernel
theorem dX6_partsAs_75 : decode cX6_partsAs 75 = .ok (.iload_n 2, 1) := by decide +kernel
theorem dX6_partsAs_76 : decode cX6_partsAs 76 = .ok (.iload_n 3, 1) := by decide +kernel
theorem dX6_partsAs_77 : decode cX6_partsAs 77 = .ok (.idiv, 1) := by decide +kernel
theorem dX6_partsAs_78 : decode cX6_partsAs 78 = .ok (.ireturn, 1) := by decide +kernel
theorem dX6_partsAs_79 : decode cX6_partsAs 79 = .ok (.aload_n 0, 1) := by decide +kernel
theorem dX6_partsAs_80 : decode cX6_partsAs 80 = .ok (.bipush 21, 2) := by decide +kernel
theorem dX6_partsAs_82 : decode cX6_partsAs 82 = .ok (.invokevirtual 233, 3) := by decide +kernel
theorem dX6_partsAs_85 : decode cX6_partsAs 85 = .ok (.aload_n 0, 1) := by decide +kernel
theorem dX6_partsAs_86 : decode cX6_partsAs 86 = .ok (.iconst 1, 1) := by decide +kernel
theorem dX6_partsAs_87 : decode cX6_partsAs 87 = .ok (.invokestatic 236, 3) := by decide +kernel
theorem dX6_partsAs_90 : decode cX6_partsAs 90 = .ok (.iload_n 2, 1) := by decide +kernel
theorem dX6_partsAs_91 : decode cX6_partsAs 91 = .ok (.invokevirtual 258, 3) := by decide +kernel
theorem dX6_partsAs_94 : decode cX6_partsAs 94 = .ok (.istore 4, 2) := by decide +kernel
theorem dX6_partsAs_96 : decode cX6_partsAs 96 = .ok (.aload_n 0, 1) := by decide +kernel
theorem dX6_partsAs_97 : decode cX6_partsAs 97 = .ok (.getfield 254, 3) := by decide +kernel
theorem dX6_partsAs_100 : decode cX6_partsAs 100 = .ok (.ifCond .eq 7, 3) := by decide +kernel
theorem dX6_partsAs_103 : decode cX6_partsAs 103 = .ok (.iconst 0, 1) := by decide +kernel
theorem dX6_partsAs_104 : decode cX6_partsAs 104 = .ok (.goto 15, 3) := by decide +kernel
theorem dX6_partsAs_107 : decode cX6_partsAs 107 = .ok (.iload 4, 2) := by decide +kernel
theorem dX6_partsAs_109 : decode cX6_partsAs 109 = .ok (.aload_n 0, 1) := by decide +kernel
theorem dX6_partsAs_110 : decode cX6_partsAs 110 = .ok (.aload_n 0, 1) := by decide +kernel
theorem dX6_partsAs_111 : decode cX6_partsAs 111 = .ok (.invokevirtual 242, 3) := by decide +kernel
theorem dX6_partsAs_114 : decode cX6_partsAs 114 = .ok (.iconst 1, 1) := by decide +kernel
theorem dX6_partsAs_115 : decode cX6_partsAs 115 = .ok (.invokevirtual 245, 3) := by decide +kernel
theorem dX6_partsAs_118 : decode cX6_partsAs 118 = .ok (.iadd, 1) := by decide +kernel
theorem dX6_partsAs_119 : decode cX6_partsAs 119 = .ok (.ireturn, 1) := by decide +kernel
theorem dX6_partsAs_120 : decode cX6_partsAs 120 = .ok (.aload_n 0, 1) := by decide +kernel
theorem dX6_partsAs_121 : decode cX6_partsAs 121 = .ok (.iload_n 1, 1) := by decide +kernel
theorem dX6_partsAs_122 : decode cX6_partsAs 122 = .ok (.invokestatic 236, 3) := by decide +kernel
theorem dX6_partsAs_125 : decode cX6_partsAs 125 = .ok (.iload_n 2, 1) := by decide +kernel
theorem dX6_partsAs_126 : decode cX6_partsAs 126 = .ok (.invokevirtual 258, 3) := by decide +kernel
theorem dX6_partsAs_129 : decode cX6_partsAs 129 = .ok (.ireturn, 1) := by decide +kernel
theorem dX6_voice_0 : decode cX6_voice 0 = .ok (.aload_n 0, 1) := by decide +kernel
theorem dX6_voice_1 : decode cX6_voice 1 = .ok (.iload_n 1, 1) := by decide +kernel
theorem dX6_voice_2 : decode cX6_voice 2 = .ok (.invokevirtual 148, 3) := by decide +kernel
theorem dX6_voice_5 : decode cX6_voice 5 = .ok (.ifCond .eq 12, 3) := by decide +kernel
theorem dX6_voice_8 : decode cX6_voice 8 = .ok (.iload_n 2, 1) := by decide +kernel
theorem dX6_voice_9 : decode cX6_voice 9 = .ok (.iconst 0, 1) := by decide +kernel
theorem dX6_voice_10 : decode cX6_voice 10 = .ok (.iconst 3, 1) := by decide +kernel
theorem dX6_voice_11 : decode cX6_voice 11 = .ok (.invokestatic 50, 3) := by decide +kernel
theorem dX6_voice_14 : decode cX6_voice 14 = .ok (.ifCond .ne 9, 3) := by decide +kernel
theorem dX6_voice_17 : decode cX6_voice 17 = .ok (.aload_n 0, 1) := by decide +kernel
theorem dX6_voice_18 : decode cX6_voice 18 = .ok (.iconst 1, 1) := by decide +kernel
theorem dX6_voice_19 : decode cX6_voice 19 = .ok (.invokevirtual 68, 3) := by decide +kernel
theorem dX6_voice_22 : decode cX6_voice 22 = .ok (.ireturn, 1) := by decide +kernel
theorem dX6_voice_23 : decode cX6_voice 23 = .ok (.aload_n 0, 1) := by decide +kernel
theorem dX6_voice_24 : decode cX6_voice 24 = .ok (.iconst 0, 1) := by decide +kernel
theorem dX6_voice_25 : decode cX6_voice 25 = .ok (.putfield 227, 3) := by decide +kernel
theorem dX6_voice_28 : decode cX6_voice 28 = .ok (.aload_n 0, 1) := by decide +kernel
theorem dX6_voice_29 : decode cX6_voice 29 = .ok (.iload_n 1, 1) := by decide +kernel
theorem dX6_voice_30 : decode cX6_voice 30 = .ok (.putfield 230, 3) := by decide +kernel
theorem dX6_voice_33 : decode cX6_voice 33 = .ok (.aload_n 0, 1) := by decide +kernel
theorem dX6_voice_34 : decode cX6_voice 34 = .ok (.iconst 0, 1) := by decide +kernel
theorem dX6_voice_35 : decode cX6_voice 35 = .ok (.putfield 254, 3) := by decide +kernel
theorem dX6_voice_38 : decode cX6_voice 38 = .ok (.aload_n 0, 1) := by decide +kernel
theorem dX6_voice_39 : decode cX6_voice 39 = .ok (.invokevirtual 242, 3) := by decide +kernel
theorem dX6_voice_42 : decode cX6_voice 42 = .ok (.istore 4, 2) := by decide +kernel
theorem dX6_voice_44 : decode cX6_voice 44 = .ok (.iload_n 2, 1) := by decide +kernel
theorem dX6_voice_45 : decode cX6_voice 45 = .ok (.ifCond .ne 13, 3) := by decide +kernel
theorem dX6_voice_48 : decode cX6_voice 48 = .ok (.aload_n 0, 1) := by decide +kernel
theorem dX6_voice_49 : decode cX6_voice 49 = .ok (.iload 4, 2) := by decide +kernel
theorem dX6_voice_51 : decode cX6_voice 51 = .ok (.iload_n 3, 1) := by decide +kernel
theorem dX6_voice_52 : decode cX6_voice 52 = .ok (.invokevirtual 239, 3) := by decide +kernel
theorem dX6_voice_55 : decode cX6_voice 55 = .ok (.goto 40, 3) := by decide +kernel
theorem dX6_voice_58 : decode cX6_voice 58 = .ok (.iload_n 2, 1) := by decide +kernel
theorem dX6_voice_59 : decode cX6_voice 59 = .ok (.iconst 1, 1) := by decide +kernel
theorem dX6_voice_60 : decode cX6_voice 60 = .ok (.if_icmp .ne 13, 3) := by decide +kernel
theorem dX6_voice_63 : decode cX6_voice 63 = .ok (.aload_n 0, 1) := by decide +kernel
theorem dX6_voice_64 : decode cX6_voice 64 = .ok (.iload 4, 2) := by decide +kernel
theorem dX6_voice_66 : decode cX6_voice 66 = .ok (.iload_n 3, 1) := by decide +kernel
theorem dX6_voice_67 : decode cX6_voice 67 = .ok (.invokevirtual 245, 3) := by decide +kernel
theorem dX6_voice_70 : decode cX6_voice 70 = .ok (.goto 25, 3) := by decide +kernel
theorem dX6_voice_73 : decode cX6_voice 73 = .ok (.iload_n 2, 1) := by decide +kernel
theorem dX6_voice_74 : decode cX6_voice 74 = .ok (.iconst 2, 1) := by decide +kernel
theorem dX6_voice_75 : decode cX6_voice 75 = .ok (.if_icmp .ne 13, 3) := by decide +kernel
theorem dX6_voice_78 : decode cX6_voice 78 = .ok (.aload_n 0, 1) := by decide +kernel
theorem dX6_voice_79 : decode cX6_voice 79 = .ok (.iload 4, 2) := by decide +kernel
theorem dX6_voice_81 : decode cX6_voice 81 = .ok (.iload_n 3, 1) := by decide +kernel
theorem dX6_voice_82 : decode cX6_voice 82 = .ok (.invokevirtual 251, 3) := by decide +kernel
theorem dX6_voice_85 : decode cX6_voice 85 = .ok (.goto 10, 3) := by decide +kernel
theorem dX6_voice_88 : decode cX6_voice 88 = .ok (.aload_n 0, 1) := by decide +kernel
theorem dX6_voice_89 : decode cX6_voice 89 = .ok (.iload 4, 2) := by decide +kernel
theorem dX6_voice_91 : decode cX6_voice 91 = .ok (.iload_n 3, 1) := by decide +kernel
theorem dX6_voice_92 : decode cX6_voice 92 = .ok (.invokevirtual 258, 3) := by decide +kernel
theorem dX6_voice_95 : decode cX6_voice 95 = .ok (.istore 5, 2) := by decide +kernel
theorem dX6_voice_97 : decode cX6_voice 97 = .ok (.aload_n 0, 1) := by decide +kernel
theorem dX6_voice_98 : decode cX6_voice 98 = .ok (.getfield 254, 3) := by decide +kernel
theorem dX6_voice_101 : decode cX6_voice 101 = .ok (.ifCond .eq 12, 3) := by decide +kernel
theorem dX6_voice_104 : decode cX6_voice 104 = .ok (.aload_n 0, 1) := by decide +kernel
theorem dX6_voice_105 : decode cX6_voice 105 = .ok (.bipush 6, 2) := by decide +kernel
theorem dX6_voice_107 : decode cX6_voice 107 = .ok (.invokevirtual 68, 3) := by decide +kernel
theorem dX6_voice_110 : decode cX6_voice 110 = .ok (.goto 5, 3) := by decide +kernel
theorem dX6_voice_113 : decode cX6_voice 113 = .ok (.iload 5, 2) := by decide +kernel
theorem dX6_voice_115 : decode cX6_voice 115 = .ok (.ireturn, 1) := by decide +kernel
theorem dX6_body_0 : decode cX6_body 0 = .ok (.iload_n 1, 1) := by decide +kernel
theorem dX6_body_1 : decode cX6_body 1 = .ok (.iconst 0, 1) := by decide +kernel
theorem dX6_body_2 : decode cX6_body 2 = .ok (.aload_n 0, 1) := by decide +kernel
theorem dX6_body_3 : decode cX6_body 3 = .ok (.getfield 227, 3) := by decide +kernel
theorem dX6_body_6 : decode cX6_body 6 = .ok (.iconst 1, 1) := by decide +kernel
theorem dX6_body_7 : decode cX6_body 7 = .ok (.isub, 1) := by decide +kernel
theorem dX6_body_8 : decode cX6_body 8 = .ok (.invokestatic 50, 3) := by decide +kernel
theorem dX6_body_11 : decode cX6_body 11 = .ok (.ifCond .eq 12, 3) := by decide +kernel
theorem dX6_body_14 : decode cX6_body 14 = .ok (.aload_n 0, 1) := by decide +kernel
theorem dX6_body_15 : decode cX6_body 15 = .ok (.getfield 34, 3) := by decide +kernel
theorem dX6_body_18 : decode cX6_body 18 = .ok (.iload_n 1, 1) := by decide +kernel
theorem dX6_body_19 : decode cX6_body 19 = .ok (.iaload, 1) := by decide +kernel
theorem dX6_body_20 : decode cX6_body 20 = .ok (.goto 8, 3) := by decide +kernel
theorem dX6_body_23 : decode cX6_body 23 = .ok (.aload_n 0, 1) := by decide +kernel
theorem dX6_body_24 : decode cX6_body 24 = .ok (.iconst 2, 1) := by decide +kernel
theorem dX6_body_25 : decode cX6_body 25 = .ok (.invokevirtual 68, 3) := by decide +kernel
theorem dX6_body_28 : decode cX6_body 28 = .ok (.ireturn, 1) := by decide +kernel
theorem dX6_isSheet_0 : decode cX6_isSheet 0 = .ok (.iload_n 0, 1) := by decide +kernel
theorem dX6_isSheet_1 : decode cX6_isSheet 1 = .ok (.iconst 0, 1) := by decide +kernel
theorem dX6_isSheet_2 : decode cX6_isSheet 2 = .ok (.iconst 3, 1) := by decide +kernel
theorem dX6_isSheet_3 : decode cX6_isSheet 3 = .ok (.invokestatic 50, 3) := by decide +kernel
theorem dX6_isSheet_6 : decode cX6_isSheet 6 = .ok (.ireturn, 1) := by decide +kernel
theorem dX6_sheet_0 : decode cX6_sheet 0 = .ok (.iload_n 1, 1) := by decide +kernel
theorem dX6_sheet_1 : decode cX6_sheet 1 = .ok (.invokestatic 261, 3) := by decide +kernel
theorem dX6_sheet_4 : decode cX6_sheet 4 = .ok (.ifCond .eq 25, 3) := by decide +kernel
theorem dX6_sheet_7 : decode cX6_sheet 7 = .ok (.iload_n 2, 1) := by decide +kernel
theorem dX6_sheet_8 : decode cX6_sheet 8 = .ok (.ifCond .eq 27, 3) := by decide +kernel
theorem dX6_sheet_11 : decode cX6_sheet 11 = .ok (.iload_n 2, 1) := by decide +kernel
theorem dX6_sheet_12 : decode cX6_sheet 12 = .ok (.bipush 8, 2) := by decide +kernel
theorem dX6_sheet_14 : decode cX6_sheet 14 = .ok (.if_icmp .eq 21, 3) := by decide +kernel
theorem dX6_sheet_17 : decode cX6_sheet 17 = .ok (.iload_n 2, 1) := by decide +kernel
theorem dX6_sheet_18 : decode cX6_sheet 18 = .ok (.bipush 16, 2) := by decide +kernel
theorem dX6_sheet_20 : decode cX6_sheet 20 = .ok (.if_icmp .eq 15, 3) := by decide +kernel
theorem dX6_sheet_23 : decode cX6_sheet 23 = .ok (.iload_n 2, 1) := by decide +kernel
theorem dX6_sheet_24 : decode cX6_sheet 24 = .ok (.bipush 32, 2) := by decide +kernel
theorem dX6_sheet_26 : decode cX6_sheet 26 = .ok (.if_icmp .eq 9, 3) := by decide +kernel
theorem dX6_sheet_29 : decode cX6_sheet 29 = .ok (.aload_n 0, 1) := by decide +kernel
theorem dX6_sheet_30 : decode cX6_sheet 30 = .ok (.iconst 1, 1) := by decide +kernel
theorem dX6_sheet_31 : decode cX6_sheet 31 = .ok (.invokevirtual 68, 3) := by decide +kernel
theorem dX6_sheet_34 : decode cX6_sheet 34 = .ok (.ireturn, 1) := by decide +kernel
theorem dX6_sheet_35 : decode cX6_sheet 35 = .ok (.iload_n 2, 1) := by decide +kernel
theorem dX6_sheet_36 : decode cX6_sheet 36 = .ok (.ifCond .eq 13, 3) := by decide +kernel
theorem dX6_sheet_39 : decode cX6_sheet 39 = .ok (.iload_n 3, 1) := by decide +kernel
theorem dX6_sheet_40 : decode cX6_sheet 40 = .ok (.ifCond .ge 9, 3) := by decide +kernel
theorem dX6_sheet_43 : decode cX6_sheet 43 = .ok (.aload_n 0, 1) := by decide +kernel
theorem dX6_sheet_44 : decode cX6_sheet 44 = .ok (.iconst 3, 1) := by decide +kernel
theorem dX6_sheet_45 : decode cX6_sheet 45 = .ok (.invokevirtual 68, 3) := by decide +kernel
theorem dX6_sheet_48 : decode cX6_sheet 48 = .ok (.ireturn, 1) := by decide +kernel
theorem dX6_sheet_49 : decode cX6_sheet 49 = .ok (.iload_n 2, 1) := by decide +kernel
theorem dX6_sheet_50 : decode cX6_sheet 50 = .ok (.ifCond .eq 15, 3) := by decide +kernel
theorem dX6_sheet_53 : decode cX6_sheet 53 = .ok (.iload_n 3, 1) := by decide +kernel
theorem dX6_sheet_54 : decode cX6_sheet 54 = .ok (.bipush 24, 2) := by decide +kernel
theorem dX6_sheet_56 : decode cX6_sheet 56 = .ok (.if_icmp .le 9, 3) := by decide +kernel
theorem dX6_sheet_59 : decode cX6_sheet 59 = .ok (.aload_n 0, 1) := by decide +kernel
theorem dX6_sheet_60 : decode cX6_sheet 60 = .ok (.iconst 1, 1) := by decide +kernel
theorem dX6_sheet_61 : decode cX6_sheet 61 = .ok (.invokevirtual 68, 3) := by decide +kernel
theorem dX6_sheet_64 : decode cX6_sheet 64 = .ok (.ireturn, 1) := by decide +kernel
theorem dX6_sheet_65 : decode cX6_sheet 65 = .ok (.aload_n 0, 1) := by decide +kernel
theorem dX6_sheet_66 : decode cX6_sheet 66 = .ok (.getfield 37, 3) := by decide +kernel
theorem dX6_sheet_69 : decode cX6_sheet 69 = .ok (.iload_n 1, 1) := by decide +kernel
theorem dX6_sheet_70 : decode cX6_sheet 70 = .ok (.iload_n 2, 1) := by decide +kernel
theorem dX6_sheet_71 : decode cX6_sheet 71 = .ok (.iastore, 1) := by decide +kernel
theorem dX6_sheet_72 : decode cX6_sheet 72 = .ok (.aload_n 0, 1) := by decide +kernel
theorem dX6_sheet_73 : decode cX6_sheet 73 = .ok (.getfield 40, 3) := by decide +kernel
theorem dX6_sheet_76 : decode cX6_sheet 76 = .ok (.iload_n 1, 1) := by decide +kernel
theorem dX6_sheet_77 : decode cX6_sheet 77 = .ok (.iload_n 2, 1) := by decide +kernel
theorem dX6_sheet_78 : decode cX6_sheet 78 = .ok (.ifCond .ne 7, 3) := by decide +kernel
theorem dX6_sheet_81 : decode cX6_sheet 81 = .ok (.iconst 0, 1) := by decide +kernel
theorem dX6_sheet_82 : decode cX6_sheet 82 = .ok (.goto 4, 3) := by decide +kernel
theorem dX6_sheet_85 : decode cX6_sheet 85 = .ok (.iload_n 3, 1) := by decide +kernel
theorem dX6_sheet_86 : decode cX6_sheet 86 = .ok (.iastore, 1) := by decide +kernel
theorem dX6_sheet_87 : decode cX6_sheet 87 = .ok (.iconst 0, 1) := by decide +kernel
theorem dX6_sheet_88 : decode cX6_sheet 88 = .ok (.istore 4, 2) := by decide +kernel
theorem dX6_sheet_90 : decode cX6_sheet 90 = .ok (.iload 4, 2) := by decide +kernel
theorem dX6_sheet_92 : decode cX6_sheet 92 = .ok (.bipush 24, 2) := by decide +kernel
theorem dX6_sheet_94 : decode cX6_sheet 94 = .ok (.if_icmp .ge 22, 3) := by decide +kernel
theorem dX6_sheet_97 : decode cX6_sheet 97 = .ok (.aload_n 0, 1) := by decide +kernel
theorem dX6_sheet_98 : decode cX6_sheet 98 = .ok (.getfield 43, 3) := by decide +kernel
theorem dX6_sheet_101 : decode cX6_sheet 101 = .ok (.bipush 24, 2) := by decide +kernel
theorem dX6_sheet_103 : decode cX6_sheet 103 = .ok (.iload_n 1, 1) := by decide +kernel
theorem dX6_sheet_104 : decode cX6_sheet 104 = .ok (.imul, 1) := by decide +kernel
theorem dX6_sheet_105 : decode cX6_sheet 105 = .ok (.iload 4, 2) := by decide +kernel
theorem dX6_sheet_107 : decode cX6_sheet 107 = .ok (.iadd, 1) := by decide +kernel
theorem dX6_sheet_108 : decode cX6_sheet 108 = .ok (.iconst 0, 1) := by decide +kernel
theorem dX6_sheet_109 : decode cX6_sheet 109 = .ok (.iastore, 1) := by decide +kernel
theorem dX6_sheet_110 : decode cX6_sheet 110 = .ok (.iinc 4 1, 3) := by decide +kernel
theorem dX6_sheet_113 : decode cX6_sheet 113 = .ok (.goto (-23), 3) := by decide +kernel
theorem dX6_sheet_116 : decode cX6_sheet 116 = .ok (.iconst 1, 1) := by decide +kernel
theorem dX6_sheet_117 : decode cX6_sheet 117 = .ok (.ireturn, 1) := by decide +kernel
theorem dX6_put_0 : decode cX6_put 0 = .ok (.iload_n 1, 1) := by decide +kernel
theorem dX6_put_1 : decode cX6_put 1 = .ok (.invokestatic 261, 3) := by decide +kernel
theorem dX6_put_4 : decode cX6_put 4 = .ok (.ifCond .ne 9, 3) := by decide +kernel
theorem dX6_put_7 : decode cX6_put 7 = .ok (.aload_n 0, 1) := by decide +kernel
theorem dX6_put_8 : decode cX6_put 8 = .ok (.iconst 1, 1) := by decide +kernel
theorem dX6_put_9 : decode cX6_put 9 = .ok (.invokevirtual 68, 3) := by decide +kernel
theorem dX6_put_12 : decode cX6_put 12 = .ok (.ireturn, 1) := by decide +kernel
theorem dX6_put_13 : decode cX6_put 13 = .ok (.aload_n 0, 1) := by decide +kernel
theorem dX6_put_14 : decode cX6_put 14 = .ok (.getfield 37, 3) := by decide +kernel
theorem dX6_put_17 : decode cX6_put 17 = .ok (.iload_n 1, 1) := by decide +kernel
theorem dX6_put_18 : decode cX6_put 18 = .ok (.iaload, 1) := by decide +kernel
theorem dX6_put_19 : decode cX6_put 19 = .ok (.ifCond .ne 9, 3) := by decide +kernel
theorem dX6_put_22 : decode cX6_put 22 = .ok (.aload_n 0, 1) := by decide +kernel
theorem dX6_put_23 : decode cX6_put 23 = .ok (.iconst 2, 1) := by decide +kernel
theorem dX6_put_24 : decode cX6_put 24 = .ok (.invokevirtual 68, 3) := by decide +kernel
theorem dX6_put_27 : decode cX6_put 27 = .ok (.ireturn, 1) := by decide +kernel
theorem dX6_put_28 : decode cX6_put 28 = .ok (.iload_n 2, 1) := by decide +kernel
theorem dX6_put_29 : decode cX6_put 29 = .ok (.iconst 0, 1) := by decide +kernel
theorem dX6_put_30 : decode cX6_put 30 = .ok (.aload_n 0, 1) := by decide +kernel
theorem dX6_put_31 : decode cX6_put 31 = .ok (.getfield 40, 3) := by decide +kernel
theorem dX6_put_34 : decode cX6_put 34 = .ok (.iload_n 1, 1) := by decide +kernel
theorem dX6_put_35 : decode cX6_put 35 = .ok (.iaload, 1) := by decide +kernel
theorem dX6_put_36 : decode cX6_put 36 = .ok (.iconst 1, 1) := by decide +kernel
theorem dX6_put_37 : decode cX6_put 37 = .ok (.isub, 1) := by decide +kernel
theorem dX6_put_38 : decode cX6_put 38 = .ok (.invokestatic 50, 3) := by decide +kernel
theorem dX6_put_41 : decode cX6_put 41 = .ok (.ifCond .ne 9, 3) := by decide +kernel
theorem dX6_put_44 : decode cX6_put 44 = .ok (.aload_n 0, 1) := by decide +kernel
theorem dX6_put_45 : decode cX6_put 45 = .ok (.iconst 1, 1) := by decide +kernel
theorem dX6_put_46 : decode cX6_put 46 = .ok (.invokevirtual 68, 3) := by decide +kernel
theorem dX6_put_49 : decode cX6_put 49 = .ok (.ireturn, 1) := by decide +kernel
theorem dX6_put_50 : decode cX6_put 50 = .ok (.bipush 32, 2) := by decide +kernel
theorem dX6_put_52 : decode cX6_put 52 = .ok (.aload_n 0, 1) := by decide +kernel
theorem dX6_put_53 : decode cX6_put 53 = .ok (.getfield 37, 3) := by decide +kernel
theorem dX6_put_56 : decode cX6_put 56 = .ok (.iload_n 1, 1) := by decide +kernel
theorem dX6_put_57 : decode cX6_put 57 = .ok (.iaload, 1) := by decide +kernel
theorem dX6_put_58 : decode cX6_put 58 = .ok (.isub, 1) := by decide +kernel
theorem dX6_put_59 : decode cX6_put 59 = .ok (.istore 4, 2) := by decide +kernel
theorem dX6_put_61 : decode cX6_put 61 = .ok (.aload_n 0, 1) := by decide +kernel
theorem dX6_put_62 : decode cX6_put 62 = .ok (.getfield 43, 3) := by decide +kernel
theorem dX6_put_65 : decode cX6_put 65 = .ok (.bipush 24, 2) := by decide +kernel
theorem dX6_put_67 : decode cX6_put 67 = .ok (.iload_n 1, 1) := by decide +kernel
theorem dX6_put_68 : decode cX6_put 68 = .ok (.imul, 1) := by decide +kernel
theorem dX6_put_69 : decode cX6_put 69 = .ok (.iload_n 2, 1) := by decide +kernel
theorem dX6_put_70 : decode cX6_put 70 = .ok (.iadd, 1) := by decide +kernel
theorem dX6_put_71 : decode cX6_put 71 = .ok (.iload_n 3, 1) := by decide +kernel
theorem dX6_put_72 : decode cX6_put 72 = .ok (.iload 4, 2) := by decide +kernel
theorem dX6_put_74 : decode cX6_put 74 = .ok (.ishl, 1) := by decide +kernel
theorem dX6_put_75 : decode cX6_put 75 = .ok (.iload 4, 2) := by decide +kernel
theorem dX6_put_77 : decode cX6_put 77 = .ok (.ishr, 1) := by decide +kernel
theorem dX6_put_78 : decode cX6_put 78 = .ok (.iastore, 1) := by decide +kernel
theorem dX6_put_79 : decode cX6_put 79 = .ok (.iconst 1, 1) := by decide +kernel
theorem dX6_put_80 : decode cX6_put 80 = .ok (.ireturn, 1) := by decide +kernel
theorem dX6_move_0 : decode cX6_move 0 = .ok (.iload_n 1, 1) := by decide +kernel
theorem dX6_move_1 : decode cX6_move 1 = .ok (.invokestatic 261, 3) := by decide +kernel
theorem dX6_move_4 : decode cX6_move 4 = .ok (.ifCond .eq 10, 3) := by decide +kernel
theorem dX6_move_7 : decode cX6_move 7 = .ok (.iload_n 3, 1) := by decide +kernel
theorem dX6_move_8 : decode cX6_move 8 = .ok (.invokestatic 261, 3) := by decide +kernel
theorem dX6_move_11 : decode cX6_move 11 = .ok (.ifCond .ne 9, 3) := by decide +kernel
theorem dX6_move_14 : decode cX6_move 14 = .ok (.aload_n 0, 1) := by decide +kernel
theorem dX6_move_15 : decode cX6_move 15 = .ok (.iconst 1, 1) := by decide +kernel
theorem dX6_move_16 : decode cX6_move 16 = .ok (.invokevirtual 68, 3) := by decide +kernel
theorem dX6_move_19 : decode cX6_move 19 = .ok (.ireturn, 1) := by decide +kernel
theorem dX6_move_20 : decode cX6_move 20 = .ok (.aload_n 0, 1) := by decide +kernel
theorem dX6_move_21 : decode cX6_move 21 = .ok (.getfield 37, 3) := by decide +kernel
theorem dX6_move_24 : decode cX6_move 24 = .ok (.iload_n 1, 1) := by decide +kernel
theorem dX6_move_25 : decode cX6_move 25 = .ok (.iaload, 1) := by decide +kernel
theorem dX6_move_26 : decode cX6_move 26 = .ok (.ifCond .eq 12, 3) := by decide +kernel
theorem dX6_move_29 : decode cX6_move 29 = .ok (.aload_n 0, 1) := by decide +kernel
theorem dX6_move_30 : decode cX6_move 30 = .ok (.getfield 37, 3) := by decide +kernel
theorem dX6_move_33 : decode cX6_move 33 = .ok (.iload_n 3, 1) := by decide +kernel
theorem dX6_move_34 : decode cX6_move 34 = .ok (.iaload, 1) := by decide +kernel
theorem dX6_move_35 : decode cX6_move 35 = .ok (.ifCond .ne 9, 3) := by decide +kernel
theorem dX6_move_38 : decode cX6_move 38 = .ok (.aload_n 0, 1) := by decide +kernel
theorem dX6_move_39 : decode cX6_move 39 = .ok (.iconst 2, 1) := by decide +kernel
theorem dX6_move_40 : decode cX6_move 40 = .ok (.invokevirtual 68, 3) := by decide +kernel
theorem dX6_move_43 : decode cX6_move 43 = .ok (.ireturn, 1) := by decide +kernel
theorem dX6_move_44 : decode cX6_move 44 = .ok (.aload_n 0, 1) := by decide +kernel
theorem dX6_move_45 : decode cX6_move 45 = .ok (.getfield 37, 3) := by decide +kernel
theorem dX6_move_48 : decode cX6_move 48 = .ok (.iload_n 1, 1) := by decide +kernel
theorem dX6_move_49 : decode cX6_move 49 = .ok (.iaload, 1) := by decide +kernel
theorem dX6_move_50 : decode cX6_move 50 = .ok (.aload_n 0, 1) := by decide +kernel
theorem dX6_move_51 : decode cX6_move 51 = .ok (.getfield 37, 3) := by decide +kernel
theorem dX6_move_54 : decode cX6_move 54 = .ok (.iload_n 3, 1) := by decide +kernel
theorem dX6_move_55 : decode cX6_move 55 = .ok (.iaload, 1) := by decide +kernel
theorem dX6_move_56 : decode cX6_move 56 = .ok (.if_icmp .eq 9, 3) := by decide +kernel
theorem dX6_move_59 : decode cX6_move 59 = .ok (.aload_n 0, 1) := by decide +kernel
theorem dX6_move_60 : decode cX6_move 60 = .ok (.iconst 5, 1) := by decide +kernel
theorem dX6_move_61 : decode cX6_move 61 = .ok (.invokevirtual 68, 3) := by decide +kernel
theorem dX6_move_64 : decode cX6_move 64 = .ok (.ireturn, 1) := by decide +kernel
theorem dX6_move_65 : decode cX6_move 65 = .ok (.iload 5, 2) := by decide +kernel
theorem dX6_move_67 : decode cX6_move 67 = .ok (.ifCond .lt 39, 3) := by decide +kernel
theorem dX6_move_70 : decode cX6_move 70 = .ok (.iload_n 2, 1) := by decide +kernel
theorem dX6_move_71 : decode cX6_move 71 = .ok (.ifCond .lt 35, 3) := by decide +kernel
theorem dX6_move_74 : decode cX6_move 74 = .ok (.iload 4, 2) := by decide +kernel
theorem dX6_move_76 : decode cX6_move 76 = .ok (.ifCond .lt 30, 3) := by decide +kernel
theorem dX6_move_79 : decode cX6_move 79 = .ok (.iload_n 2, 1) := by decide +kernel
theorem dX6_move_80 : decode cX6_move 80 = .ok (.aload_n 0, 1) := by decide +kernel
theorem dX6_move_81 : decode cX6_move 81 = .ok (.getfield 40, 3) := by decide +kernel
theorem dX6_move_84 : decode cX6_move 84 = .ok (.iload_n 1, 1) := by decide +kernel
theorem dX6_move_85 : decode cX6_move 85 = .ok (.iaload, 1) := by decide +kernel
theorem dX6_move_86 : decode cX6_move 86 = .ok (.iload 5, 2) := by decide +kernel
theorem dX6_move_88 : decode cX6_move 88 = .ok (.isub, 1) := by decide +kernel
theorem dX6_move_89 : decode cX6_move 89 = .ok (.if_icmp .gt 17, 3) := by decide +kernel
theorem dX6_move_92 : decode cX6_move 92 = .ok (.iload 4, 2) := by decide +kernel
theorem dX6_move_94 : decode cX6_move 94 = .ok (.aload_n 0, 1) := by decide +kernel
theorem dX6_move_95 : decode cX6_move 95 = .ok (.getfield 40, 3) := by decide +kernel
theorem dX6_move_98 : decode cX6_move 98 = .ok (.iload_n 3, 1) := by decide +kernel
theorem dX6_move_99 : decode cX6_move 99 = .ok (.iaload, 1) := by decide +kernel
theorem dX6_move_100 : decode cX6_move 100 = .ok (.iload 5, 2) := by decide +kernel
theorem dX6_move_102 : decode cX6_move 102 = .ok (.isub, 1) := by decide +kernel
theorem dX6_move_103 : decode cX6_move 103 = .ok (.if_icmp .le 9, 3) := by decide +kernel
theorem dX6_move_106 : decode cX6_move 106 = .ok (.aload_n 0, 1) := by decide +kernel
theorem dX6_move_107 : decode cX6_move 107 = .ok (.iconst 1, 1) := by decide +kernel
theorem dX6_move_108 : decode cX6_move 108 = .ok (.invokevirtual 68, 3) := by decide +kernel
theorem dX6_move_111 : decode cX6_move 111 = .ok (.ireturn, 1) := by decide +kernel
theorem dX6_move_112 : decode cX6_move 112 = .ok (.iconst 0, 1) := by decide +kernel
theorem dX6_move_113 : decode cX6_move 113 = .ok (.istore 6, 2) := by decide +kernel
theorem dX6_move_115 : decode cX6_move 115 = .ok (.iload 6, 2) := by decide +kernel
theorem dX6_move_117 : decode cX6_move 117 = .ok (.iload 5, 2) := by decide +kernel
theorem dX6_move_119 : decode cX6_move 119 = .ok (.if_icmp .ge 30, 3) := by decide +kernel
theorem dX6_move_122 : decode cX6_move 122 = .ok (.aload_n 0, 1) := by decide +kernel
theorem dX6_move_123 : decode cX6_move 123 = .ok (.getfield 46, 3) := by decide +kernel
theorem dX6_move_126 : decode cX6_move 126 = .ok (.iload 6, 2) := by decide +kernel
theorem dX6_move_128 : decode cX6_move 128 = .ok (.aload_n 0, 1) := by decide +kernel
theorem dX6_move_129 : decode cX6_move 129 = .ok (.getfield 43, 3) := by decide +kernel
theorem dX6_move_132 : decode cX6_move 132 = .ok (.bipush 24, 2) := by decide +kernel
theorem dX6_move_134 : decode cX6_move 134 = .ok (.iload_n 1, 1) := by decide +kernel
theorem dX6_move_135 : decode cX6_move 135 = .ok (.imul, 1) := by decide +kernel
theorem dX6_move_136 : decode cX6_move 136 = .ok (.iload_n 2, 1) := by decide +kernel
theorem dX6_move_137 : decode cX6_move 137 = .ok (.iadd, 1) := by decide +kernel
theorem dX6_move_138 : decode cX6_move 138 = .ok (.iload 6, 2) := by decide +kernel
theorem dX6_move_140 : decode cX6_move 140 = .ok (.iadd, 1) := by decide +kernel
theorem dX6_move_141 : decode cX6_move 141 = .ok (.iaload, 1) := by decide +kernel
theorem dX6_move_142 : decode cX6_move 142 = .ok (.iastore, 1) := by decide +kernel
theorem dX6_move_143 : decode cX6_move 143 = .ok (.iinc 6 1, 3) := by decide +kernel
theorem dX6_move_146 : decode cX6_move 146 = .ok (.goto (-31), 3) := by decide +kernel
theorem dX6_move_149 : decode cX6_move 149 = .ok (.iconst 0, 1) := by decide +kernel
theorem dX6_move_150 : decode cX6_move 150 = .ok (.istore 6, 2) := by decide +kernel
theorem dX6_move_152 : decode cX6_move 152 = .ok (.iload 6, 2) := by decide +kernel
theorem dX6_move_154 : decode cX6_move 154 = .ok (.iload 5, 2) := by decide +kernel
theorem dX6_move_156 : decode cX6_move 156 = .ok (.if_icmp .ge 31, 3) := by decide +kernel
theorem dX6_move_159 : decode cX6_move 159 = .ok (.aload_n 0, 1) := by decide +kernel
theorem dX6_move_160 : decode cX6_move 160 = .ok (.getfield 43, 3) := by decide +kernel
theorem dX6_move_163 : decode cX6_move 163 = .ok (.bipush 24, 2) := by decide +kernel
theorem dX6_move_165 : decode cX6_move 165 = .ok (.iload_n 3, 1) := by decide +kernel
theorem dX6_move_166 : decode cX6_move 166 = .ok (.imul, 1) := by decide +kernel
theorem dX6_move_167 : decode cX6_move 167 = .ok (.iload 4, 2) := by decide +kernel
theorem dX6_move_169 : decode cX6_move 169 = .ok (.iadd, 1) := by decide +kernel
theorem dX6_move_170 : decode cX6_move 170 = .ok (.iload 6, 2) := by decide +kernel
theorem dX6_move_172 : decode cX6_move 172 = .ok (.iadd, 1) := by decide +kernel
theorem dX6_move_173 : decode cX6_move 173 = .ok (.aload_n 0, 1) := by decide +kernel
theorem dX6_move_174 : decode cX6_move 174 = .ok (.getfield 46, 3) := by decide +kernel
theorem dX6_move_177 : decode cX6_move 177 = .ok (.iload 6, 2) := by decide +kernel
theorem dX6_move_179 : decode cX6_move 179 = .ok (.iaload, 1) := by decide +kernel
theorem dX6_move_180 : decode cX6_move 180 = .ok (.iastore, 1) := by decide +kernel
theorem dX6_move_181 : decode cX6_move 181 = .ok (.iinc 6 1, 3) := by decide +kernel
theorem dX6_move_184 : decode cX6_move 184 = .ok (.goto (-32), 3) := by decide +kernel
theorem dX6_move_187 : decode cX6_move 187 = .ok (.iload 5, 2) := by decide +kernel
theorem dX6_move_189 : decode cX6_move 189 = .ok (.ireturn, 1) := by decide +kernel
theorem dX6_lacks_0 : decode cX6_lacks 0 = .ok (.iload_n 1, 1) := by decide +kernel
theorem dX6_lacks_1 : decode cX6_lacks 1 = .ok (.invokestatic 261, 3) := by decide +kernel
theorem dX6_lacks_4 : decode cX6_lacks 4 = .ok (.ifCond .ne 7, 3) := by decide +kernel
theorem dX6_lacks_7 : decode cX6_lacks 7 = .ok (.iconst 1, 1) := by decide +kernel
theorem dX6_lacks_8 : decode cX6_lacks 8 = .ok (.goto 17, 3) := by decide +kernel
theorem dX6_lacks_11 : decode cX6_lacks 11 = .ok (.aload_n 0, 1) := by decide +kernel
theorem dX6_lacks_12 : decode cX6_lacks 12 = .ok (.getfield 37, 3) := by decide +kernel
theorem dX6_lacks_15 : decode cX6_lacks 15 = .ok (.iload_n 1, 1) := by decide +kernel
theorem dX6_lacks_16 : decode cX6_lacks 16 = .ok (.iaload, 1) := by decide +kernel
theorem dX6_lacks_17 : decode cX6_lacks 17 = .ok (.ifCond .ne 7, 3) := by decide +kernel
theorem dX6_lacks_20 : decode cX6_lacks 20 = .ok (.iconst 2, 1) := by decide +kernel
theorem dX6_lacks_21 : decode cX6_lacks 21 = .ok (.goto 4, 3) := by decide +kernel
theorem dX6_lacks_24 : decode cX6_lacks 24 = .ok (.iconst 0, 1) := by decide +kernel
theorem dX6_lacks_25 : decode cX6_lacks 25 = .ok (.ireturn, 1) := by decide +kernel
theorem dX6_judge_0 : decode cX6_judge 0 = .ok (.iload_n 2, 1) := by decide +kernel
theorem dX6_judge_1 : decode cX6_judge 1 = .ok (.invokestatic 176, 3) := by decide +kernel
theorem dX6_judge_4 : decode cX6_judge 4 = .ok (.ifCond .eq 11, 3) := by decide +kernel
theorem dX6_judge_7 : decode cX6_judge 7 = .ok (.aload_n 0, 1) := by decide +kernel
theorem dX6_judge_8 : decode cX6_judge 8 = .ok (.iload_n 1, 1) := by decide +kernel
theorem dX6_judge_9 : decode cX6_judge 9 = .ok (.invokevirtual 186, 3) := by decide +kernel
theorem dX6_judge_12 : decode cX6_judge 12 = .ok (.goto 4, 3) := by decide +kernel
theorem dX6_judge_15 : decode cX6_judge 15 = .ok (.iconst 1, 1) := by decide +kernel
theorem dX6_judge_16 : decode cX6_judge 16 = .ok (.istore_n 3, 1) := by decide +kernel
theorem dX6_judge_17 : decode cX6_judge 17 = .ok (.iload_n 3, 1) := by decide +kernel
theorem dX6_judge_18 : decode cX6_judge 18 = .ok (.ifCond .le 9, 3) := by decide +kernel
theorem dX6_judge_21 : decode cX6_judge 21 = .ok (.aload_n 0, 1) := by decide +kernel
theorem dX6_judge_22 : decode cX6_judge 22 = .ok (.iload_n 3, 1) := by decide +kernel
theorem dX6_judge_23 : decode cX6_judge 23 = .ok (.invokevirtual 68, 3) := by decide +kernel
theorem dX6_judge_26 : decode cX6_judge 26 = .ok (.ireturn, 1) := by decide +kernel
theorem dX6_judge_27 : decode cX6_judge 27 = .ok (.iconst 0, 1) := by decide +kernel
theorem dX6_judge_28 : decode cX6_judge 28 = .ok (.istore 4, 2) := by decide +kernel
theorem dX6_judge_30 : decode cX6_judge 30 = .ok (.iload 4, 2) := by decide +kernel
theorem dX6_judge_32 : decode cX6_judge 32 = .ok (.aload_n 0, 1) := by decide +kernel
theorem dX6_judge_33 : decode cX6_judge 33 = .ok (.getfield 40, 3) := by decide +kernel
theorem dX6_judge_36 : decode cX6_judge 36 = .ok (.iload_n 1, 1) := by decide +kernel
theorem dX6_judge_37 : decode cX6_judge 37 = .ok (.iaload, 1) := by decide +kernel
theorem dX6_judge_38 : decode cX6_judge 38 = .ok (.if_icmp .ge 41, 3) := by decide +kernel
theorem dX6_judge_41 : decode cX6_judge 41 = .ok (.iload 4, 2) := by decide +kernel
theorem dX6_judge_43 : decode cX6_judge 43 = .ok (.aload_n 0, 1) := by decide +kernel
theorem dX6_judge_44 : decode cX6_judge 44 = .ok (.iload_n 2, 1) := by decide +kernel
theorem dX6_judge_45 : decode cX6_judge 45 = .ok (.invokevirtual 54, 3) := by decide +kernel
theorem dX6_judge_48 : decode cX6_judge 48 = .ok (.if_icmp .ge 31, 3) := by decide +kernel
theorem dX6_judge_51 : decode cX6_judge 51 = .ok (.aload_n 0, 1) := by decide +kernel
theorem dX6_judge_52 : decode cX6_judge 52 = .ok (.getfield 43, 3) := by decide +kernel
theorem dX6_judge_55 : decode cX6_judge 55 = .ok (.bipush 24, 2) := by decide +kernel
theorem dX6_judge_57 : decode cX6_judge 57 = .ok (.iload_n 1, 1) := by decide +kernel
theorem dX6_judge_58 : decode cX6_judge 58 = .ok (.imul, 1) := by decide +kernel
theorem dX6_judge_59 : decode cX6_judge 59 = .ok (.iload 4, 2) := by decide +kernel
theorem dX6_judge_61 : decode cX6_judge 61 = .ok (.iadd, 1) := by decide +kernel
theorem dX6_judge_62 : decode cX6_judge 62 = .ok (.iaload, 1) := by decide +kernel
theorem dX6_judge_63 : decode cX6_judge 63 = .ok (.aload_n 0, 1) := by decide +kernel
theorem dX6_judge_64 : decode cX6_judge 64 = .ok (.iload_n 2, 1) := by decide +kernel
theorem dX6_judge_65 : decode cX6_judge 65 = .ok (.iload 4, 2) := by decide +kernel
theorem dX6_judge_67 : decode cX6_judge 67 = .ok (.invokevirtual 58, 3) := by decide +kernel
theorem dX6_judge_70 : decode cX6_judge 70 = .ok (.if_icmp .ne 9, 3) := by decide +kernel
theorem dX6_judge_73 : decode cX6_judge 73 = .ok (.iinc 4 1, 3) := by decide +kernel
theorem dX6_judge_76 : decode cX6_judge 76 = .ok (.goto (-46), 3) := by decide +kernel
theorem dX6_judge_79 : decode cX6_judge 79 = .ok (.iload 4, 2) := by decide +kernel
theorem dX6_judge_81 : decode cX6_judge 81 = .ok (.aload_n 0, 1) := by decide +kernel
theorem dX6_judge_82 : decode cX6_judge 82 = .ok (.getfield 40, 3) := by decide +kernel
theorem dX6_judge_85 : decode cX6_judge 85 = .ok (.iload_n 1, 1) := by decide +kernel
theorem dX6_judge_86 : decode cX6_judge 86 = .ok (.iaload, 1) := by decide +kernel
theorem dX6_judge_87 : decode cX6_judge 87 = .ok (.if_icmp .ne 17, 3) := by decide +kernel
theorem dX6_judge_90 : decode cX6_judge 90 = .ok (.iload 4, 2) := by decide +kernel
theorem dX6_judge_92 : decode cX6_judge 92 = .ok (.aload_n 0, 1) := by decide +kernel
theorem dX6_judge_93 : decode cX6_judge 93 = .ok (.iload_n 2, 1) := by decide +kernel
theorem dX6_judge_94 : decode cX6_judge 94 = .ok (.invokevirtual 54, 3) := by decide +kernel
theorem dX6_judge_97 : decode cX6_judge 97 = .ok (.if_icmp .ne 7, 3) := by decide +kernel
theorem dX6_judge_100 : decode cX6_judge 100 = .ok (.iconst (-1), 1) := by decide +kernel
theorem dX6_judge_101 : decode cX6_judge 101 = .ok (.goto 5, 3) := by decide +kernel
theorem dX6_judge_104 : decode cX6_judge 104 = .ok (.iload 4, 2) := by decide +kernel
theorem dX6_judge_106 : decode cX6_judge 106 = .ok (.ireturn, 1) := by decide +kernel
theorem dX6_image_0 : decode cX6_image 0 = .ok (.aload_n 0, 1) := by decide +kernel
theorem dX6_image_1 : decode cX6_image 1 = .ok (.getfield 7, 3) := by decide +kernel
theorem dX6_image_4 : decode cX6_image 4 = .ok (.aload_n 0, 1) := by decide +kernel
theorem dX6_image_5 : decode cX6_image 5 = .ok (.getfield 13, 3) := by decide +kernel
theorem dX6_image_8 : decode cX6_image 8 = .ok (.invokestatic 264, 3) := by decide +kernel
theorem dX6_image_11 : decode cX6_image 11 = .ok (.aload_n 0, 1) := by decide +kernel
theorem dX6_image_12 : decode cX6_image 12 = .ok (.dup, 1) := by decide +kernel
theorem dX6_image_13 : decode cX6_image 13 = .ok (.getfield 268, 3) := by decide +kernel
theorem dX6_image_16 : decode cX6_image 16 = .ok (.iconst 1, 1) := by decide +kernel
theorem dX6_image_17 : decode cX6_image 17 = .ok (.iadd, 1) := by decide +kernel
theorem dX6_image_18 : decode cX6_image 18 = .ok (.putfield 268, 3) := by decide +kernel
theorem dX6_image_21 : decode cX6_image 21 = .ok (.aload_n 0, 1) := by decide +kernel
theorem dX6_image_22 : decode cX6_image 22 = .ok (.getfield 268, 3) := by decide +kernel
theorem dX6_image_25 : decode cX6_image 25 = .ok (.ireturn, 1) := by decide +kernel
theorem dX6_restore_0 : decode cX6_restore 0 = .ok (.aload_n 0, 1) := by decide +kernel
theorem dX6_restore_1 : decode cX6_restore 1 = .ok (.getfield 268, 3) := by decide +kernel
theorem dX6_restore_4 : decode cX6_restore 4 = .ok (.ifCond .ne 9, 3) := by decide +kernel
theorem dX6_restore_7 : decode cX6_restore 7 = .ok (.aload_n 0, 1) := by decide +kernel
theorem dX6_restore_8 : decode cX6_restore 8 = .ok (.iconst 2, 1) := by decide +kernel
theorem dX6_restore_9 : decode cX6_restore 9 = .ok (.invokevirtual 68, 3) := by decide +kernel
theorem dX6_restore_12 : decode cX6_restore 12 = .ok (.ireturn, 1) := by decide +kernel
theorem dX6_restore_13 : decode cX6_restore 13 = .ok (.aload_n 0, 1) := by decide +kernel
theorem dX6_restore_14 : decode cX6_restore 14 = .ok (.getfield 13, 3) := by decide +kernel
theorem dX6_restore_17 : decode cX6_restore 17 = .ok (.aload_n 0, 1) := by decide +kernel
theorem dX6_restore_18 : decode cX6_restore 18 = .ok (.getfield 7, 3) := by decide +kernel
theorem dX6_restore_21 : decode cX6_restore 21 = .ok (.invokestatic 264, 3) := by decide +kernel
theorem dX6_restore_24 : decode cX6_restore 24 = .ok (.aload_n 0, 1) := by decide +kernel
theorem dX6_restore_25 : decode cX6_restore 25 = .ok (.getfield 7, 3) := by decide +kernel
theorem dX6_restore_28 : decode cX6_restore 28 = .ok (.iconst 1, 1) := by decide +kernel
theorem dX6_restore_29 : decode cX6_restore 29 = .ok (.iaload, 1) := by decide +kernel
theorem dX6_restore_30 : decode cX6_restore 30 = .ok (.ireturn, 1) := by decide +kernel
theorem dX6_tell_0 : decode cX6_tell 0 = .ok (.aload_n 0, 1) := by decide +kernel
theorem dX6_tell_1 : decode cX6_tell 1 = .ok (.getfield 7, 3) := by decide +kernel
theorem dX6_tell_4 : decode cX6_tell 4 = .ok (.bipush 6, 2) := by decide +kernel
theorem dX6_tell_6 : decode cX6_tell 6 = .ok (.iaload, 1) := by decide +kernel
theorem dX6_tell_7 : decode cX6_tell 7 = .ok (.bipush 24, 2) := by decide +kernel
theorem dX6_tell_9 : decode cX6_tell 9 = .ok (.if_icmp .ne 9, 3) := by decide +kernel
theorem dX6_tell_12 : decode cX6_tell 12 = .ok (.aload_n 0, 1) := by decide +kernel
theorem dX6_tell_13 : decode cX6_tell 13 = .ok (.iconst 4, 1) := by decide +kernel
theorem dX6_tell_14 : decode cX6_tell 14 = .ok (.invokevirtual 68, 3) := by decide +kernel
theorem dX6_tell_17 : decode cX6_tell 17 = .ok (.ireturn, 1) := by decide +kernel
theorem dX6_tell_18 : decode cX6_tell 18 = .ok (.aload_n 0, 1) := by decide +kernel
theorem dX6_tell_19 : decode cX6_tell 19 = .ok (.getfield 7, 3) := by decide +kernel
theorem dX6_tell_22 : decode cX6_tell 22 = .ok (.sipush 478, 3) := by decide +kernel
theorem dX6_tell_25 : decode cX6_tell 25 = .ok (.aload_n 0, 1) := by decide +kernel
theorem dX6_tell_26 : decode cX6_tell 26 = .ok (.getfield 7, 3) := by decide +kernel
theorem dX6_tell_29 : decode cX6_tell 29 = .ok (.bipush 6, 2) := by decide +kernel
theorem dX6_tell_31 : decode cX6_tell 31 = .ok (.iaload, 1) := by decide +kernel
theorem dX6_tell_32 : decode cX6_tell 32 = .ok (.iadd, 1) := by decide +kernel
theorem dX6_tell_33 : decode cX6_tell 33 = .ok (.iload_n 1, 1) := by decide +kernel
theorem dX6_tell_34 : decode cX6_tell 34 = .ok (.iastore, 1) := by decide +kernel
theorem dX6_tell_35 : decode cX6_tell 35 = .ok (.aload_n 0, 1) := by decide +kernel
theorem dX6_tell_36 : decode cX6_tell 36 = .ok (.getfield 7, 3) := by decide +kernel
theorem dX6_tell_39 : decode cX6_tell 39 = .ok (.bipush 6, 2) := by decide +kernel
theorem dX6_tell_41 : decode cX6_tell 41 = .ok (.dup2, 1) := by decide +kernel
theorem dX6_tell_42 : decode cX6_tell 42 = .ok (.iaload, 1) := by decide +kernel
theorem dX6_tell_43 : decode cX6_tell 43 = .ok (.iconst 1, 1) := by decide +kernel
theorem dX6_tell_44 : decode cX6_tell 44 = .ok (.iadd, 1) := by decide +kernel
theorem dX6_tell_45 : decode cX6_tell 45 = .ok (.iastore, 1) := by decide +kernel
theorem dX6_tell_46 : decode cX6_tell 46 = .ok (.aload_n 0, 1) := by decide +kernel
theorem dX6_tell_47 : decode cX6_tell 47 = .ok (.getfield 7, 3) := by decide +kernel
theorem dX6_tell_50 : decode cX6_tell 50 = .ok (.bipush 6, 2) := by decide +kernel
theorem dX6_tell_52 : decode cX6_tell 52 = .ok (.iaload, 1) := by decide +kernel
theorem dX6_tell_53 : decode cX6_tell 53 = .ok (.ireturn, 1) := by decide +kernel
theorem dX6_check_0 : decode cX6_check 0 = .ok (.aload_n 0, 1) := by decide +kernel
theorem dX6_check_1 : decode cX6_check 1 = .ok (.getfield 7, 3) := by decide +kernel
theorem dX6_check_4 : decode cX6_check 4 = .ok (.bipush 6, 2) := by decide +kernel
theorem dX6_check_6 : decode cX6_check 6 = .ok (.iaload, 1) := by decide +kernel
theorem dX6_check_7 : decode cX6_check 7 = .ok (.istore_n 2, 1) := by decide +kernel
theorem dX6_check_8 : decode cX6_check 8 = .ok (.aload_n 0, 1) := by decide +kernel
theorem dX6_check_9 : decode cX6_check 9 = .ok (.getfield 7, 3) := by decide +kernel
theorem dX6_check_12 : decode cX6_check 12 = .ok (.bipush 6, 2) := by decide +kernel
theorem dX6_check_14 : decode cX6_check 14 = .ok (.iconst 0, 1) := by decide +kernel
theorem dX6_check_15 : decode cX6_check 15 = .ok (.iastore, 1) := by decide +kernel
theorem dX6_check_16 : decode cX6_check 16 = .ok (.iload_n 1, 1) := by decide +kernel
theorem dX6_check_17 : decode cX6_check 17 = .ok (.invokestatic 142, 3) := by decide +kernel
theorem dX6_check_20 : decode cX6_check 20 = .ok (.ifCond .ne 9, 3) := by decide +kernel
theorem dX6_check_23 : decode cX6_check 23 = .ok (.aload_n 0, 1) := by decide +kernel
theorem dX6_check_24 : decode cX6_check 24 = .ok (.iconst 1, 1) := by decide +kernel
theorem dX6_check_25 : decode cX6_check 25 = .ok (.invokevirtual 68, 3) := by decide +kernel
theorem dX6_check_28 : decode cX6_check 28 = .ok (.ireturn, 1) := by decide +kernel
theorem dX6_check_29 : decode cX6_check 29 = .ok (.aload_n 0, 1) := by decide +kernel
theorem dX6_check_30 : decode cX6_check 30 = .ok (.iconst 0, 1) := by decide +kernel
theorem dX6_check_31 : decode cX6_check 31 = .ok (.invokevirtual 196, 3) := by decide +kernel
theorem dX6_check_34 : decode cX6_check 34 = .ok (.iconst 0, 1) := by decide +kernel
theorem dX6_check_35 : decode cX6_check 35 = .ok (.istore_n 3, 1) := by decide +kernel
theorem dX6_check_36 : decode cX6_check 36 = .ok (.iload_n 3, 1) := by decide +kernel
theorem dX6_check_37 : decode cX6_check 37 = .ok (.iload_n 2, 1) := by decide +kernel
theorem dX6_check_38 : decode cX6_check 38 = .ok (.if_icmp .ge 34, 3) := by decide +kernel
theorem dX6_check_41 : decode cX6_check 41 = .ok (.aload_n 0, 1) := by decide +kernel
theorem dX6_check_42 : decode cX6_check 42 = .ok (.getfield 7, 3) := by decide +kernel
theorem dX6_check_45 : decode cX6_check 45 = .ok (.sipush 478, 3) := by decide +kernel
theorem dX6_check_48 : decode cX6_check 48 = .ok (.iload_n 3, 1) := by decide +kernel
theorem dX6_check_49 : decode cX6_check 49 = .ok (.iadd, 1) := by decide +kernel
theorem dX6_check_50 : decode cX6_check 50 = .ok (.iaload, 1) := by decide +kernel
theorem dX6_check_51 : decode cX6_check 51 = .ok (.aload_n 0, 1) := by decide +kernel
theorem dX6_check_52 : decode cX6_check 52 = .ok (.iload_n 1, 1) := by decide +kernel
theorem dX6_check_53 : decode cX6_check 53 = .ok (.invokevirtual 179, 3) := by decide +kernel
theorem dX6_check_56 : decode cX6_check 56 = .ok (.if_icmp .ne 16, 3) := by decide +kernel
theorem dX6_check_59 : decode cX6_check 59 = .ok (.aload_n 0, 1) := by decide +kernel
theorem dX6_check_60 : decode cX6_check 60 = .ok (.iload_n 1, 1) := by decide +kernel
theorem dX6_check_61 : decode cX6_check 61 = .ok (.invokevirtual 183, 3) := by decide +kernel
theorem dX6_check_64 : decode cX6_check 64 = .ok (.istore 4, 2) := by decide +kernel
theorem dX6_check_66 : decode cX6_check 66 = .ok (.iinc 3 1, 3) := by decide +kernel
theorem dX6_check_69 : decode cX6_check 69 = .ok (.goto (-33), 3) := by decide +kernel
theorem dX6_check_72 : decode cX6_check 72 = .ok (.aload_n 0, 1) := by decide +kernel
theorem dX6_check_73 : decode cX6_check 73 = .ok (.iconst 0, 1) := by decide +kernel
theorem dX6_check_74 : decode cX6_check 74 = .ok (.invokevirtual 203, 3) := by decide +kernel
theorem dX6_check_77 : decode cX6_check 77 = .ok (.iload_n 3, 1) := by decide +kernel
theorem dX6_check_78 : decode cX6_check 78 = .ok (.iload_n 2, 1) := by decide +kernel
theorem dX6_check_79 : decode cX6_check 79 = .ok (.if_icmp .ne 7, 3) := by decide +kernel
theorem dX6_check_82 : decode cX6_check 82 = .ok (.iconst 0, 1) := by decide +kernel
theorem dX6_check_83 : decode cX6_check 83 = .ok (.goto 6, 3) := by decide +kernel
theorem dX6_check_86 : decode cX6_check 86 = .ok (.iconst 1, 1) := by decide +kernel
theorem dX6_check_87 : decode cX6_check 87 = .ok (.iload_n 3, 1) := by decide +kernel
theorem dX6_check_88 : decode cX6_check 88 = .ok (.iadd, 1) := by decide +kernel
theorem dX6_check_89 : decode cX6_check 89 = .ok (.ireturn, 1) := by decide +kernel
theorem dX6_ofWon_0 : decode cX6_ofWon 0 = .ok (.iconst 0, 1) := by decide +kernel
theorem dX6_ofWon_1 : decode cX6_ofWon 1 = .ok (.istore_n 2, 1) := by decide +kernel
theorem dX6_ofWon_2 : decode cX6_ofWon 2 = .ok (.iconst 0, 1) := by decide +kernel
theorem dX6_ofWon_3 : decode cX6_ofWon 3 = .ok (.istore_n 3, 1) := by decide +kernel
theorem dX6_ofWon_4 : decode cX6_ofWon 4 = .ok (.iload_n 3, 1) := by decide +kernel
theorem dX6_ofWon_5 : decode cX6_ofWon 5 = .ok (.aload_n 0, 1) := by decide +kernel
theorem dX6_ofWon_6 : decode cX6_ofWon 6 = .ok (.getfield 7, 3) := by decide +kernel
theorem dX6_ofWon_9 : decode cX6_ofWon 9 = .ok (.iconst 0, 1) := by decide +kernel
theorem dX6_ofWon_10 : decode cX6_ofWon 10 = .ok (.iaload, 1) := by decide +kernel
theorem dX6_ofWon_11 : decode cX6_ofWon 11 = .ok (.if_icmp .ge 40, 3) := by decide +kernel
theorem dX6_ofWon_14 : decode cX6_ofWon 14 = .ok (.iload_n 2, 1) := by decide +kernel
theorem dX6_ofWon_15 : decode cX6_ofWon 15 = .ok (.aload_n 0, 1) := by decide +kernel
theorem dX6_ofWon_16 : decode cX6_ofWon 16 = .ok (.iload_n 3, 1) := by decide +kernel
theorem dX6_ofWon_17 : decode cX6_ofWon 17 = .ok (.iconst 3, 1) := by decide +kernel
theorem dX6_ofWon_18 : decode cX6_ofWon 18 = .ok (.invokevirtual 62, 3) := by decide +kernel
theorem dX6_ofWon_21 : decode cX6_ofWon 21 = .ok (.iconst (-1), 1) := by decide +kernel
theorem dX6_ofWon_22 : decode cX6_ofWon 22 = .ok (.if_icmp .eq 7, 3) := by decide +kernel
theorem dX6_ofWon_25 : decode cX6_ofWon 25 = .ok (.iconst 0, 1) := by decide +kernel
theorem dX6_ofWon_26 : decode cX6_ofWon 26 = .ok (.goto 17, 3) := by decide +kernel
theorem dX6_ofWon_29 : decode cX6_ofWon 29 = .ok (.iload_n 1, 1) := by decide +kernel
theorem dX6_ofWon_30 : decode cX6_ofWon 30 = .ok (.ifCond .eq 12, 3) := by decide +kernel
theorem dX6_ofWon_33 : decode cX6_ofWon 33 = .ok (.aload_n 0, 1) := by decide +kernel
theorem dX6_ofWon_34 : decode cX6_ofWon 34 = .ok (.iload_n 3, 1) := by decide +kernel
theorem dX6_ofWon_35 : decode cX6_ofWon 35 = .ok (.iconst 2, 1) := by decide +kernel
theorem dX6_ofWon_36 : decode cX6_ofWon 36 = .ok (.invokevirtual 62, 3) := by decide +kernel
theorem dX6_ofWon_39 : decode cX6_ofWon 39 = .ok (.goto 4, 3) := by decide +kernel
theorem dX6_ofWon_42 : decode cX6_ofWon 42 = .ok (.iconst 1, 1) := by decide +kernel
theorem dX6_ofWon_43 : decode cX6_ofWon 43 = .ok (.iadd, 1) := by decide +kernel
theorem dX6_ofWon_44 : decode cX6_ofWon 44 = .ok (.istore_n 2, 1) := by decide +kernel
theorem dX6_ofWon_45 : decode cX6_ofWon 45 = .ok (.iinc 3 1, 3) := by decide +kernel
theorem dX6_ofWon_48 : decode cX6_ofWon 48 = .ok (.goto (-44), 3) := by decide +kernel
theorem dX6_ofWon_51 : decode cX6_ofWon 51 = .ok (.iload_n 2, 1) := by decide +kernel
theorem dX6_ofWon_52 : decode cX6_ofWon 52 = .ok (.ireturn, 1) := by decide +kernel
theorem dX6_count_0 : decode cX6_count 0 = .ok (.iload_n 1, 1) := by decide +kernel
theorem dX6_count_1 : decode cX6_count 1 = .ok (.tableswitch 144 0 11 #[63, 70, 77, 84, 90, 97, 104, 110, 116, 123, 131, 136], 63) := by decide +kernel
theorem dX6_count_64 : decode cX6_count 64 = .ok (.aload_n 0, 1) := by decide +kernel
theorem dX6_count_65 : decode cX6_count 65 = .ok (.getfield 7, 3) := by decide +kernel
theorem dX6_count_68 : decode cX6_count 68 = .ok (.iconst 0, 1) := by decide +kernel
theorem dX6_count_69 : decode cX6_count 69 = .ok (.iaload, 1) := by decide +kernel
theorem dX6_count_70 : decode cX6_count 70 = .ok (.ireturn, 1) := by decide +kernel
theorem dX6_count_71 : decode cX6_count 71 = .ok (.aload_n 0, 1) := by decide +kernel
theorem dX6_count_72 : decode cX6_count 72 = .ok (.getfield 7, 3) := by decide +kernel
theorem dX6_count_75 : decode cX6_count 75 = .ok (.iconst 1, 1) := by decide +kernel
theorem dX6_count_76 : decode cX6_count 76 = .ok (.iaload, 1) := by decide +kernel
theorem dX6_count_77 : decode cX6_count 77 = .ok (.ireturn, 1) := by decide +kernel
theorem dX6_count_78 : decode cX6_count 78 = .ok (.aload_n 0, 1) := by decide +kernel
theorem dX6_count_79 : decode cX6_count 79 = .ok (.getfield 7, 3) := by decide +kernel
theorem dX6_count_82 : decode cX6_count 82 = .ok (.iconst 2, 1) := by decide +kernel
theorem dX6_count_83 : decode cX6_count 83 = .ok (.iaload, 1) := by decide +kernel
theorem dX6_count_84 : decode cX6_count 84 = .ok (.ireturn, 1) := by decide +kernel
theorem dX6_count_85 : decode cX6_count 85 = .ok (.aload_n 0, 1) := by decide +kernel
theorem dX6_count_86 : decode cX6_count 86 = .ok (.iconst 0, 1) := by decide +kernel
theorem dX6_count_87 : decode cX6_count 87 = .ok (.invokevirtual 170, 3) := by decide +kernel
theorem dX6_count_90 : decode cX6_count 90 = .ok (.ireturn, 1) := by decide +kernel
theorem dX6_count_91 : decode cX6_count 91 = .ok (.aload_n 0, 1) := by decide +kernel
theorem dX6_count_92 : decode cX6_count 92 = .ok (.getfield 7, 3) := by decide +kernel
theorem dX6_count_95 : decode cX6_count 95 = .ok (.iconst 3, 1) := by decide +kernel
theorem dX6_count_96 : decode cX6_count 96 = .ok (.iaload, 1) := by decide +kernel
theorem dX6_count_97 : decode cX6_count 97 = .ok (.ireturn, 1) := by decide +kernel
theorem dX6_count_98 : decode cX6_count 98 = .ok (.aload_n 0, 1) := by decide +kernel
theorem dX6_count_99 : decode cX6_count 99 = .ok (.getfield 7, 3) := by decide +kernel
theorem dX6_count_102 : decode cX6_count 102 = .ok (.iconst 4, 1) := by decide +kernel
theorem dX6_count_103 : decode cX6_count 103 = .ok (.iaload, 1) := by decide +kernel
theorem dX6_count_104 : decode cX6_count 104 = .ok (.ireturn, 1) := by decide +kernel
theorem dX6_count_105 : decode cX6_count 105 = .ok (.aload_n 0, 1) := by decide +kernel
theorem dX6_count_106 : decode cX6_count 106 = .ok (.iconst 0, 1) := by decide +kernel
theorem dX6_count_107 : decode cX6_count 107 = .ok (.invokevirtual 271, 3) := by decide +kernel
theorem dX6_count_110 : decode cX6_count 110 = .ok (.ireturn, 1) := by decide +kernel
theorem dX6_count_111 : decode cX6_count 111 = .ok (.aload_n 0, 1) := by decide +kernel
theorem dX6_count_112 : decode cX6_count 112 = .ok (.iconst 1, 1) := by decide +kernel
theorem dX6_count_113 : decode cX6_count 113 = .ok (.invokevirtual 271, 3) := by decide +kernel
theorem dX6_count_116 : decode cX6_count 116 = .ok (.ireturn, 1) := by decide +kernel
theorem dX6_count_117 : decode cX6_count 117 = .ok (.aload_n 0, 1) := by decide +kernel
theorem dX6_count_118 : decode cX6_count 118 = .ok (.getfield 7, 3) := by decide +kernel
theorem dX6_count_121 : decode cX6_count 121 = .ok (.iconst 5, 1) := by decide +kernel
theorem dX6_count_122 : decode cX6_count 122 = .ok (.iaload, 1) := by decide +kernel
theorem dX6_count_123 : decode cX6_count 123 = .ok (.ireturn, 1) := by decide +kernel
theorem dX6_count_124 : decode cX6_count 124 = .ok (.aload_n 0, 1) := by decide +kernel
theorem dX6_count_125 : decode cX6_count 125 = .ok (.getfield 7, 3) := by decide +kernel
theorem dX6_count_128 : decode cX6_count 128 = .ok (.bipush 6, 2) := by decide +kernel
theorem dX6_count_130 : decode cX6_count 130 = .ok (.iaload, 1) := by decide +kernel
theorem dX6_count_131 : decode cX6_count 131 = .ok (.ireturn, 1) := by decide +kernel
theorem dX6_count_132 : decode cX6_count 132 = .ok (.aload_n 0, 1) := by decide +kernel
theorem dX6_count_133 : decode cX6_count 133 = .ok (.getfield 227, 3) := by decide +kernel
theorem dX6_count_136 : decode cX6_count 136 = .ok (.ireturn, 1) := by decide +kernel
theorem dX6_count_137 : decode cX6_count 137 = .ok (.aload_n 0, 1) := by decide +kernel
theorem dX6_count_138 : decode cX6_count 138 = .ok (.getfield 7, 3) := by decide +kernel
theorem dX6_count_141 : decode cX6_count 141 = .ok (.bipush 7, 2) := by decide +kernel
theorem dX6_count_143 : decode cX6_count 143 = .ok (.iaload, 1) := by decide +kernel
theorem dX6_count_144 : decode cX6_count 144 = .ok (.ireturn, 1) := by decide +kernel
theorem dX6_count_145 : decode cX6_count 145 = .ok (.aload_n 0, 1) := by decide +kernel
theorem dX6_count_146 : decode cX6_count 146 = .ok (.iconst 1, 1) := by decide +kernel
theorem dX6_count_147 : decode cX6_count 147 = .ok (.invokevirtual 68, 3) := by decide +kernel
theorem dX6_count_150 : decode cX6_count 150 = .ok (.ireturn, 1) := by decide +kernel
theorem dX6_told_0 : decode cX6_told 0 = .ok (.iload_n 1, 1) := by decide +kernel
theorem dX6_told_1 : decode cX6_told 1 = .ok (.iconst 1, 1) := by decide +kernel
theorem dX6_told_2 : decode cX6_told 2 = .ok (.bipush 6, 2) := by decide +kernel
theorem dX6_told_4 : decode cX6_told 4 = .ok (.invokestatic 50, 3) := by decide +kernel
theorem dX6_told_7 : decode cX6_told 7 = .ok (.ifCond .eq 12, 3) := by decide +kernel
theorem dX6_told_10 : decode cX6_told 10 = .ok (.aload_n 0, 1) := by decide +kernel
theorem dX6_told_11 : decode cX6_told 11 = .ok (.getfield 19, 3) := by decide +kernel
theorem dX6_told_14 : decode cX6_told 14 = .ok (.iload_n 1, 1) := by decide +kernel
theorem dX6_told_15 : decode cX6_told 15 = .ok (.iaload, 1) := by decide +kernel
theorem dX6_told_16 : decode cX6_told 16 = .ok (.goto 8, 3) := by decide +kernel
theorem dX6_told_19 : decode cX6_told 19 = .ok (.aload_n 0, 1) := by decide +kernel
theorem dX6_told_20 : decode cX6_told 20 = .ok (.iconst 1, 1) := by decide +kernel
theorem dX6_told_21 : decode cX6_told 21 = .ok (.invokevirtual 68, 3) := by decide +kernel
theorem dX6_told_24 : decode cX6_told 24 = .ok (.ireturn, 1) := by decide +kernel
theorem dL_law_0 : decode cL_law 0 = .ok (.new 7, 3) := by decide +kernel
theorem dL_law_3 : decode cL_law 3 = .ok (.dup, 1) := by decide +kernel
theorem dL_law_4 : decode cL_law 4 = .ok (.invokespecial 9, 3) := by decide +kernel
theorem dL_law_7 : decode cL_law 7 = .ok (.astore_n 1, 1) := by decide +kernel
theorem dL_law_8 : decode cL_law 8 = .ok (.new 10, 3) := by decide +kernel
theorem dL_law_11 : decode cL_law 11 = .ok (.dup, 1) := by decide +kernel
theorem dL_law_12 : decode cL_law 12 = .ok (.invokespecial 12, 3) := by decide +kernel
theorem dL_law_15 : decode cL_law 15 = .ok (.astore_n 2, 1) := by decide +kernel
theorem dL_law_16 : decode cL_law 16 = .ok (.iconst 0, 1) := by decide +kernel
theorem dL_law_17 : decode cL_law 17 = .ok (.istore_n 3, 1) := by decide +kernel
theorem dL_law_18 : decode cL_law 18 = .ok (.iload_n 3, 1) := by decide +kernel
theorem dL_law_19 : decode cL_law 19 = .ok (.aload_n 0, 1) := by decide +kernel
theorem dL_law_20 : decode cL_law 20 = .ok (.arraylength, 1) := by decide +kernel
theorem dL_law_21 : decode cL_law 21 = .ok (.bipush 6, 2) := by decide +kernel
theorem dL_law_23 : decode cL_law 23 = .ok (.isub, 1) := by decide +kernel
theorem dL_law_24 : decode cL_law 24 = .ok (.if_icmp .gt 1263, 3) := by decide +kernel
theorem dL_law_27 : decode cL_law 27 = .ok (.aload_n 0, 1) := by decide +kernel
theorem dL_law_28 : decode cL_law 28 = .ok (.iload_n 3, 1) := by decide +kernel
theorem dL_law_29 : decode cL_law 29 = .ok (.iaload, 1) := by decide +kernel
theorem dL_law_30 : decode cL_law 30 = .ok (.bipush 63, 2) := by decide +kernel
theorem dL_law_32 : decode cL_law 32 = .ok (.iand, 1) := by decide +kernel
theorem dL_law_33 : decode cL_law 33 = .ok (.tableswitch 1248 0 35 #[159, 192, 225, 258, 301, 324, 357, 390, 403, 436, 499, 522, 545, 568, 591, 614, 637, 680, 713, 736, 759, 792, 826, 859, 882, 925, 948, 991, 1034, 1097, 1130, 1143, 1156, 1179, 1202, 1225], 159) := by decide +kernel
theorem dL_law_192 : decode cL_law 192 = .ok (.aload_n 1, 1) := by decide +kernel
theorem dL_law_193 : decode cL_law 193 = .ok (.aload_n 0, 1) := by decide +kernel
theorem dL_law_194 : decode cL_law 194 = .ok (.iload_n 3, 1) := by decide +kernel
theorem dL_law_195 : decode cL_law 195 = .ok (.iconst 1, 1) := by decide +kernel
theorem dL_law_196 : decode cL_law 196 = .ok (.iadd, 1) := by decide +kernel
theorem dL_law_197 : decode cL_law 197 = .ok (.iaload, 1) := by decide +kernel
theorem dL_law_198 : decode cL_law 198 = .ok (.aload_n 0, 1) := by decide +kernel
theorem dL_law_199 : decode cL_law 199 = .ok (.iload_n 3, 1) := by decide +kernel
theorem dL_law_200 : decode cL_law 200 = .ok (.iconst 2, 1) := by decide +kernel
theorem dL_law_201 : decode cL_law 201 = .ok (.iadd, 1) := by decide +kernel
theorem dL_law_202 : decode cL_law 202 = .ok (.iaload, 1) := by decide +kernel
theorem dL_law_203 : decode cL_law 203 = .ok (.invokevirtual 13, 3) := by decide +kernel
theorem dL_law_206 : decode cL_law 206 = .ok (.aload_n 2, 1) := by decide +kernel
theorem dL_law_207 : decode cL_law 207 = .ok (.aload_n 0, 1) := by decide +kernel
theorem dL_law_208 : decode cL_law 208 = .ok (.iload_n 3, 1) := by decide +kernel
theorem dL_law_209 : decode cL_law 209 = .ok (.iconst 1, 1) := by decide +kernel
theorem dL_law_210 : decode cL_law 210 = .ok (.iadd, 1) := by decide +kernel
theorem dL_law_211 : decode cL_law 211 = .ok (.iaload, 1) := by decide +kernel
theorem dL_law_212 : decode cL_law 212 = .ok (.aload_n 0, 1) := by decide +kernel
theorem dL_law_213 : decode cL_law 213 = .ok (.iload_n 3, 1) := by decide +kernel
theorem dL_law_214 : decode cL_law 214 = .ok (.iconst 2, 1) := by decide +kernel
theorem dL_law_215 : decode cL_law 215 = .ok (.iadd, 1) := by decide +kernel
theorem dL_law_216 : decode cL_law 216 = .ok (.iaload, 1) := by decide +kernel
theorem dL_law_217 : decode cL_law 217 = .ok (.invokevirtual 17, 3) := by decide +kernel
theorem dL_law_220 : decode cL_law 220 = .ok (.if_icmp .eq 1061, 3) := by decide +kernel
theorem dL_law_223 : decode cL_law 223 = .ok (.iconst 0, 1) := by decide +kernel
theorem dL_law_224 : decode cL_law 224 = .ok (.ireturn, 1) := by decide +kernel
theorem dL_law_225 : decode cL_law 225 = .ok (.aload_n 1, 1) := by decide +kernel
theorem dL_law_226 : decode cL_law 226 = .ok (.aload_n 0, 1) := by decide +kernel
theorem dL_law_227 : decode cL_law 227 = .ok (.iload_n 3, 1) := by decide +kernel
theorem dL_law_228 : decode cL_law 228 = .ok (.iconst 1, 1) := by decide +kernel
theorem dL_law_229 : decode cL_law 229 = .ok (.iadd, 1) := by decide +kernel
theorem dL_law_230 : decode cL_law 230 = .ok (.iaload, 1) := by decide +kernel
theorem dL_law_231 : decode cL_law 231 = .ok (.aload_n 0, 1) := by decide +kernel
theorem dL_law_232 : decode cL_law 232 = .ok (.iload_n 3, 1) := by decide +kernel
theorem dL_law_233 : decode cL_law 233 = .ok (.iconst 2, 1) := by decide +kernel
theorem dL_law_234 : decode cL_law 234 = .ok (.iadd, 1) := by decide +kernel
theorem dL_law_235 : decode cL_law 235 = .ok (.iaload, 1) := by decide +kernel
theorem dL_law_236 : decode cL_law 236 = .ok (.invokevirtual 18, 3) := by decide +kernel
theorem dL_law_239 : decode cL_law 239 = .ok (.aload_n 2, 1) := by decide +kernel
theorem dL_law_240 : decode cL_law 240 = .ok (.aload_n 0, 1) := by decide +kernel
theorem dL_law_241 : decode cL_law 241 = .ok (.iload_n 3, 1) := by decide +kernel
theorem dL_law_242 : decode cL_law 242 = .ok (.iconst 1, 1) := by decide +kernel
theorem dL_law_243 : decode cL_law 243 = .ok (.iadd, 1) := by decide +kernel
theorem dL_law_244 : decode cL_law 244 = .ok (.iaload, 1) := by decide +kernel
theorem dL_law_245 : decode cL_law 245 = .ok (.aload_n 0, 1) := by decide +kernel
theorem dL_law_246 : decode cL_law 246 = .ok (.iload_n 3, 1) := by decide +kernel
theorem dL_law_247 : decode cL_law 247 = .ok (.iconst 2, 1) := by decide +kernel
theorem dL_law_248 : decode cL_law 248 = .ok (.iadd, 1) := by decide +kernel
theorem dL_law_249 : decode cL_law 249 = .ok (.iaload, 1) := by decide +kernel
theorem dL_law_250 : decode cL_law 250 = .ok (.invokevirtual 21, 3) := by decide +kernel
theorem dL_law_253 : decode cL_law 253 = .ok (.if_icmp .eq 1028, 3) := by decide +kernel
theorem dL_law_256 : decode cL_law 256 = .ok (.iconst 0, 1) := by decide +kernel
theorem dL_law_257 : decode cL_law 257 = .ok (.ireturn, 1) := by decide +kernel
theorem dL_law_258 : decode cL_law 258 = .ok (.aload_n 1, 1) := by decide +kernel
theorem dL_law_259 : decode cL_law 259 = .ok (.aload_n 0, 1) := by decide +kernel
theorem dL_law_260 : decode cL_law 260 = .ok (.iload_n 3, 1) := by decide +kernel
theorem dL_law_261 : decode cL_law 261 = .ok (.iconst 1, 1) := by decide +kernel
theorem dL_law_262 : decode cL_law 262 = .ok (.iadd, 1) := by decide +kernel
theorem dL_law_263 : decode cL_law 263 = .ok (.iaload, 1) := by decide +kernel
theorem dL_law_264 : decode cL_law 264 = .ok (.aload_n 0, 1) := by decide +kernel
theorem dL_law_265 : decode cL_law 265 = .ok (.iload_n 3, 1) := by decide +kernel
theorem dL_law_266 : decode cL_law 266 = .ok (.iconst 2, 1) := by decide +kernel
theorem dL_law_267 : decode cL_law 267 = .ok (.iadd, 1) := by decide +kernel
theorem dL_law_268 : decode cL_law 268 = .ok (.iaload, 1) := by decide +kernel
theorem dL_law_269 : decode cL_law 269 = .ok (.invokevirtual 22, 3) := by decide +kernel
theorem dL_law_272 : decode cL_law 272 = .ok (.aload_n 2, 1) := by decide +kernel
theorem dL_law_273 : decode cL_law 273 = .ok (.aload_n 0, 1) := by decide +kernel
theorem dL_law_274 : decode cL_law 274 = .ok (.iload_n 3, 1) := by decide +kernel
theorem dL_law_275 : decode cL_law 275 = .ok (.iconst 1, 1) := by decide +kernel
theorem dL_law_276 : decode cL_law 276 = .ok (.iadd, 1) := by decide +kernel
theorem dL_law_277 : decode cL_law 277 = .ok (.iaload, 1) := by decide +kernel
theorem dL_law_278 : decode cL_law 278 = .ok (.aload_n 0, 1) := by decide +kernel
theorem dL_law_279 : decode cL_law 279 = .ok (.iload_n 3, 1) := by decide +kernel
theorem dL_law_280 : decode cL_law 280 = .ok (.iconst 2, 1) := by decide +kernel
theorem dL_law_281 : decode cL_law 281 = .ok (.iadd, 1) := by decide +kernel
theorem dL_law_282 : decode cL_law 282 = .ok (.iaload, 1) := by decide +kernel
theorem dL_law_283 : decode cL_law 283 = .ok (.invokevirtual 25, 3) := by decide +kernel
theorem dL_law_286 : decode cL_law 286 = .ok (.if_icmp .eq 995, 3) := by decide +kernel
theorem dL_law_289 : decode cL_law 289 = .ok (.iconst 0, 1) := by decide +kernel
theorem dL_law_290 : decode cL_law 290 = .ok (.ireturn, 1) := by decide +kernel
theorem dL_law_291 : decode cL_law 291 = .ok (.aload_n 1, 1) := by decide +kernel
theorem dL_law_292 : decode cL_law 292 = .ok (.aload_n 0, 1) := by decide +kernel
theorem dL_law_293 : decode cL_law 293 = .ok (.iload_n 3, 1) := by decide +kernel
theorem dL_law_294 : decode cL_law 294 = .ok (.iconst 1, 1) := by decide +kernel
theorem dL_law_295 : decode cL_law 295 = .ok (.iadd, 1) := by decide +kernel
theorem dL_law_296 : decode cL_law 296 = .ok (.iaload, 1) := by decide +kernel
theorem dL_law_297 : decode cL_law 297 = .ok (.aload_n 0, 1) := by decide +kernel
theorem dL_law_298 : decode cL_law 298 = .ok (.iload_n 3, 1) := by decide +kernel
theorem dL_law_299 : decode cL_law 299 = .ok (.iconst 2, 1) := by decide +kernel
theorem dL_law_300 : decode cL_law 300 = .ok (.iadd, 1) := by decide +kernel
theorem dL_law_301 : decode cL_law 301 = .ok (.iaload, 1) := by decide +kernel
theorem dL_law_302 : decode cL_law 302 = .ok (.aload_n 0, 1) := by decide +kernel
theorem dL_law_303 : decode cL_law 303 = .ok (.iload_n 3, 1) := by decide +kernel
theorem dL_law_304 : decode cL_law 304 = .ok (.iconst 3, 1) := by decide +kernel
theorem dL_law_305 : decode cL_law 305 = .ok (.iadd, 1) := by decide +kernel
theorem dL_law_306 : decode cL_law 306 = .ok (.iaload, 1) := by decide +kernel
theorem dL_law_307 : decode cL_law 307 = .ok (.invokevirtual 26, 3) := by decide +kernel
theorem dL_law_310 : decode cL_law 310 = .ok (.aload_n 2, 1) := by decide +kernel
theorem dL_law_311 : decode cL_law 311 = .ok (.aload_n 0, 1) := by decide +kernel
theorem dL_law_312 : decode cL_law 312 = .ok (.iload_n 3, 1) := by decide +kernel
theorem dL_law_313 : decode cL_law 313 = .ok (.iconst 1, 1) := by decide +kernel
theorem dL_law_314 : decode cL_law 314 = .ok (.iadd, 1) := by decide +kernel
theorem dL_law_315 : decode cL_law 315 = .ok (.iaload, 1) := by decide +kernel
theorem dL_law_316 : decode cL_law 316 = .ok (.aload_n 0, 1) := by decide +kernel
theorem dL_law_317 : decode cL_law 317 = .ok (.iload_n 3, 1) := by decide +kernel
theorem dL_law_318 : decode cL_law 318 = .ok (.iconst 2, 1) := by decide +kernel
theorem dL_law_319 : decode cL_law 319 = .ok (.iadd, 1) := by decide +kernel
theorem dL_law_320 : decode cL_law 320 = .ok (.iaload, 1) := by decide +kernel
theorem dL_law_321 : decode cL_law 321 = .ok (.aload_n 0, 1) := by decide +kernel
theorem dL_law_322 : decode cL_law 322 = .ok (.iload_n 3, 1) := by decide +kernel
theorem dL_law_323 : decode cL_law 323 = .ok (.iconst 3, 1) := by decide +kernel
theorem dL_law_324 : decode cL_law 324 = .ok (.iadd, 1) := by decide +kernel
theorem dL_law_325 : decode cL_law 325 = .ok (.iaload, 1) := by decide +kernel
theorem dL_law_326 : decode cL_law 326 = .ok (.invokevirtual 30, 3) := by decide +kernel
theorem dL_law_329 : decode cL_law 329 = .ok (.if_icmp .eq 952, 3) := by decide +kernel
theorem dL_law_332 : decode cL_law 332 = .ok (.iconst 0, 1) := by decide +kernel
theorem dL_law_333 : decode cL_law 333 = .ok (.ireturn, 1) := by decide +kernel
theorem dL_law_334 : decode cL_law 334 = .ok (.aload_n 1, 1) := by decide +kernel
theorem dL_law_335 : decode cL_law 335 = .ok (.aload_n 0, 1) := by decide +kernel
theorem dL_law_336 : decode cL_law 336 = .ok (.iload_n 3, 1) := by decide +kernel
theorem dL_law_337 : decode cL_law 337 = .ok (.iconst 1, 1) := by decide +kernel
theorem dL_law_338 : decode cL_law 338 = .ok (.iadd, 1) := by decide +kernel
theorem dL_law_339 : decode cL_law 339 = .ok (.iaload, 1) := by decide +kernel
theorem dL_law_340 : decode cL_law 340 = .ok (.invokevirtual 31, 3) := by decide +kernel
theorem dL_law_343 : decode cL_law 343 = .ok (.aload_n 2, 1) := by decide +kernel
theorem dL_law_344 : decode cL_law 344 = .ok (.aload_n 0, 1) := by decide +kernel
theorem dL_law_345 : decode cL_law 345 = .ok (.iload_n 3, 1) := by decide +kernel
theorem dL_law_346 : decode cL_law 346 = .ok (.iconst 1, 1) := by decide +kernel
theorem dL_law_347 : decode cL_law 347 = .ok (.iadd, 1) := by decide +kernel
theorem dL_law_348 : decode cL_law 348 = .ok (.iaload, 1) := by decide +kernel
theorem dL_law_349 : decode cL_law 349 = .ok (.invokevirtual 35, 3) := by decide +kernel
theorem dL_law_352 : decode cL_law 352 = .ok (.if_icmp .eq 929, 3) := by decide +kernel
theorem dL_law_355 : decode cL_law 355 = .ok (.iconst 0, 1) := by decide +kernel
theorem dL_law_356 : decode cL_law 356 = .ok (.ireturn, 1) := by decide +kernel
theorem dL_law_357 : decode cL_law 357 = .ok (.aload_n 1, 1) := by decide +kernel
theorem dL_law_358 : decode cL_law 358 = .ok (.aload_n 0, 1) := by decide +kernel
theorem dL_law_359 : decode cL_law 359 = .ok (.iload_n 3, 1) := by decide +kernel
theorem dL_law_360 : decode cL_law 360 = .ok (.iconst 1, 1) := by decide +kernel
theorem dL_law_361 : decode cL_law 361 = .ok (.iadd, 1) := by decide +kernel
theorem dL_law_362 : decode cL_law 362 = .ok (.iaload, 1) := by decide +kernel
theorem dL_law_363 : decode cL_law 363 = .ok (.aload_n 0, 1) := by decide +kernel
theorem dL_law_364 : decode cL_law 364 = .ok (.iload_n 3, 1) := by decide +kernel
theorem dL_law_365 : decode cL_law 365 = .ok (.iconst 2, 1) := by decide +kernel
theorem dL_law_366 : decode cL_law 366 = .ok (.iadd, 1) := by decide +kernel
theorem dL_law_367 : decode cL_law 367 = .ok (.iaload, 1) := by decide +kernel
theorem dL_law_368 : decode cL_law 368 = .ok (.invokevirtual 36, 3) := by decide +kernel
theorem dL_law_371 : decode cL_law 371 = .ok (.aload_n 2, 1) := by decide +kernel
theorem dL_law_372 : decode cL_law 372 = .ok (.aload_n 0, 1) := by decide +kernel
theorem dL_law_373 : decode cL_law 373 = .ok (.iload_n 3, 1) := by decide +kernel
theorem dL_law_374 : decode cL_law 374 = .ok (.iconst 1, 1) := by decide +kernel
theorem dL_law_375 : decode cL_law 375 = .ok (.iadd, 1) := by decide +kernel
theorem dL_law_376 : decode cL_law 376 = .ok (.iaload, 1) := by decide +kernel
theorem dL_law_377 : decode cL_law 377 = .ok (.aload_n 0, 1) := by decide +kernel
theorem dL_law_378 : decode cL_law 378 = .ok (.iload_n 3, 1) := by decide +kernel
theorem dL_law_379 : decode cL_law 379 = .ok (.iconst 2, 1) := by decide +kernel
theorem dL_law_380 : decode cL_law 380 = .ok (.iadd, 1) := by decide +kernel
theorem dL_law_381 : decode cL_law 381 = .ok (.iaload, 1) := by decide +kernel
theorem dL_law_382 : decode cL_law 382 = .ok (.invokevirtual 39, 3) := by decide +kernel
theorem dL_law_385 : decode cL_law 385 = .ok (.if_icmp .eq 896, 3) := by decide +kernel
theorem dL_law_388 : decode cL_law 388 = .ok (.iconst 0, 1) := by decide +kernel
theorem dL_law_389 : decode cL_law 389 = .ok (.ireturn, 1) := by decide +kernel
theorem dL_law_390 : decode cL_law 390 = .ok (.aload_n 1, 1) := by decide +kernel
theorem dL_law_391 : decode cL_law 391 = .ok (.aload_n 0, 1) := by decide +kernel
theorem dL_law_392 : decode cL_law 392 = .ok (.iload_n 3, 1) := by decide +kernel
theorem dL_law_393 : decode cL_law 393 = .ok (.iconst 1, 1) := by decide +kernel
theorem dL_law_394 : decode cL_law 394 = .ok (.iadd, 1) := by decide +kernel
theorem dL_law_395 : decode cL_law 395 = .ok (.iaload, 1) := by decide +kernel
theorem dL_law_396 : decode cL_law 396 = .ok (.aload_n 0, 1) := by decide +kernel
theorem dL_law_397 : decode cL_law 397 = .ok (.iload_n 3, 1) := by decide +kernel
theorem dL_law_398 : decode cL_law 398 = .ok (.iconst 2, 1) := by decide +kernel
theorem dL_law_399 : decode cL_law 399 = .ok (.iadd, 1) := by decide +kernel
theorem dL_law_400 : decode cL_law 400 = .ok (.iaload, 1) := by decide +kernel
theorem dL_law_401 : decode cL_law 401 = .ok (.invokevirtual 40, 3) := by decide +kernel
theorem dL_law_404 : decode cL_law 404 = .ok (.aload_n 2, 1) := by decide +kernel
theorem dL_law_405 : decode cL_law 405 = .ok (.aload_n 0, 1) := by decide +kernel
theorem dL_law_406 : decode cL_law 406 = .ok (.iload_n 3, 1) := by decide +kernel
theorem dL_law_407 : decode cL_law 407 = .ok (.iconst 1, 1) := by decide +kernel
theorem dL_law_408 : decode cL_law 408 = .ok (.iadd, 1) := by decide +kernel
theorem dL_law_409 : decode cL_law 409 = .ok (.iaload, 1) := by decide +kernel
theorem dL_law_410 : decode cL_law 410 = .ok (.aload_n 0, 1) := by decide +kernel
theorem dL_law_411 : decode cL_law 411 = .ok (.iload_n 3, 1) := by decide +kernel
theorem dL_law_412 : decode cL_law 412 = .ok (.iconst 2, 1) := by decide +kernel
theorem dL_law_413 : decode cL_law 413 = .ok (.iadd, 1) := by decide +kernel
theorem dL_law_414 : decode cL_law 414 = .ok (.iaload, 1) := by decide +kernel
theorem dL_law_415 : decode cL_law 415 = .ok (.invokevirtual 43, 3) := by decide +kernel
theorem dL_law_418 : decode cL_law 418 = .ok (.if_icmp .eq 863, 3) := by decide +kernel
theorem dL_law_421 : decode cL_law 421 = .ok (.iconst 0, 1) := by decide +kernel
theorem dL_law_422 : decode cL_law 422 = .ok (.ireturn, 1) := by decide +kernel
theorem dL_law_423 : decode cL_law 423 = .ok (.aload_n 1, 1) := by decide +kernel
theorem dL_law_424 : decode cL_law 424 = .ok (.invokevirtual 44, 3) := by decide +kernel
theorem dL_law_427 : decode cL_law 427 = .ok (.aload_n 2, 1) := by decide +kernel
theorem dL_law_428 : decode cL_law 428 = .ok (.invokevirtual 48, 3) := by decide +kernel
theorem dL_law_431 : decode cL_law 431 = .ok (.if_icmp .eq 850, 3) := by decide +kernel
theorem dL_law_434 : decode cL_law 434 = .ok (.iconst 0, 1) := by decide +kernel
theorem dL_law_435 : decode cL_law 435 = .ok (.ireturn, 1) := by decide +kernel
theorem dL_law_436 : decode cL_law 436 = .ok (.aload_n 1, 1) := by decide +kernel
theorem dL_law_437 : decode cL_law 437 = .ok (.aload_n 0, 1) := by decide +kernel
theorem dL_law_438 : decode cL_law 438 = .ok (.iload_n 3, 1) := by decide +kernel
theorem dL_law_439 : decode cL_law 439 = .ok (.iconst 1, 1) := by decide +kernel
theorem dL_law_440 : decode cL_law 440 = .ok (.iadd, 1) := by decide +kernel
theorem dL_law_441 : decode cL_law 441 = .ok (.iaload, 1) := by decide +kernel
theorem dL_law_442 : decode cL_law 442 = .ok (.aload_n 0, 1) := by decide +kernel
theorem dL_law_443 : decode cL_law 443 = .ok (.iload_n 3, 1) := by decide +kernel
theorem dL_law_444 : decode cL_law 444 = .ok (.iconst 2, 1) := by decide +kernel
theorem dL_law_445 : decode cL_law 445 = .ok (.iadd, 1) := by decide +kernel
theorem dL_law_446 : decode cL_law 446 = .ok (.iaload, 1) := by decide +kernel
theorem dL_law_447 : decode cL_law 447 = .ok (.invokevirtual 49, 3) := by decide +kernel
theorem dL_law_450 : decode cL_law 450 = .ok (.aload_n 2, 1) := by decide +kernel
theorem dL_law_451 : decode cL_law 451 = .ok (.aload_n 0, 1) := by decide +kernel
theorem dL_law_452 : decode cL_law 452 = .ok (.iload_n 3, 1) := by decide +kernel
theorem dL_law_453 : decode cL_law 453 = .ok (.iconst 1, 1) := by decide +kernel
theorem dL_law_454 : decode cL_law 454 = .ok (.iadd, 1) := by decide +kernel
theorem dL_law_455 : decode cL_law 455 = .ok (.iaload, 1) := by decide +kernel
theorem dL_law_456 : decode cL_law 456 = .ok (.aload_n 0, 1) := by decide +kernel
theorem dL_law_457 : decode cL_law 457 = .ok (.iload_n 3, 1) := by decide +kernel
theorem dL_law_458 : decode cL_law 458 = .ok (.iconst 2, 1) := by decide +kernel
theorem dL_law_459 : decode cL_law 459 = .ok (.iadd, 1) := by decide +kernel
theorem dL_law_460 : decode cL_law 460 = .ok (.iaload, 1) := by decide +kernel
theorem dL_law_461 : decode cL_law 461 = .ok (.invokevirtual 52, 3) := by decide +kernel
theorem dL_law_464 : decode cL_law 464 = .ok (.if_icmp .eq 817, 3) := by decide +kernel
theorem dL_law_467 : decode cL_law 467 = .ok (.iconst 0, 1) := by decide +kernel
theorem dL_law_468 : decode cL_law 468 = .ok (.ireturn, 1) := by decide +kernel
theorem dL_law_469 : decode cL_law 469 = .ok (.aload_n 1, 1) := by decide +kernel
theorem dL_law_470 : decode cL_law 470 = .ok (.aload_n 0, 1) := by decide +kernel
theorem dL_law_471 : decode cL_law 471 = .ok (.iload_n 3, 1) := by decide +kernel
theorem dL_law_472 : decode cL_law 472 = .ok (.iconst 1, 1) := by decide +kernel
theorem dL_law_473 : decode cL_law 473 = .ok (.iadd, 1) := by decide +kernel
theorem dL_law_474 : decode cL_law 474 = .ok (.iaload, 1) := by decide +kernel
theorem dL_law_475 : decode cL_law 475 = .ok (.i2l, 1) := by decide +kernel
theorem dL_law_476 : decode cL_law 476 = .ok (.bipush 32, 2) := by decide +kernel
theorem dL_law_478 : decode cL_law 478 = .ok (.lshl, 1) := by decide +kernel
theorem dL_law_479 : decode cL_law 479 = .ok (.aload_n 0, 1) := by decide +kernel
theorem dL_law_480 : decode cL_law 480 = .ok (.iload_n 3, 1) := by decide +kernel
theorem dL_law_481 : decode cL_law 481 = .ok (.iconst 2, 1) := by decide +kernel
theorem dL_law_482 : decode cL_law 482 = .ok (.iadd, 1) := by decide +kernel
theorem dL_law_483 : decode cL_law 483 = .ok (.iaload, 1) := by decide +kernel
theorem dL_law_484 : decode cL_law 484 = .ok (.i2l, 1) := by decide +kernel
theorem dL_law_485 : decode cL_law 485 = .ok (.ldc2_w 53, 3) := by decide +kernel
theorem dL_law_488 : decode cL_law 488 = .ok (.land, 1) := by decide +kernel
theorem dL_law_489 : decode cL_law 489 = .ok (.lor, 1) := by decide +kernel
theorem dL_law_490 : decode cL_law 490 = .ok (.aload_n 0, 1) := by decide +kernel
theorem dL_law_491 : decode cL_law 491 = .ok (.iload_n 3, 1) := by decide +kernel
theorem dL_law_492 : decode cL_law 492 = .ok (.iconst 3, 1) := by decide +kernel
theorem dL_law_493 : decode cL_law 493 = .ok (.iadd, 1) := by decide +kernel
theorem dL_law_494 : decode cL_law 494 = .ok (.iaload, 1) := by decide +kernel
theorem dL_law_495 : decode cL_law 495 = .ok (.invokevirtual 55, 3) := by decide +kernel
theorem dL_law_498 : decode cL_law 498 = .ok (.aload_n 2, 1) := by decide +kernel
theorem dL_law_499 : decode cL_law 499 = .ok (.aload_n 0, 1) := by decide +kernel
theorem dL_law_500 : decode cL_law 500 = .ok (.iload_n 3, 1) := by decide +kernel
theorem dL_law_501 : decode cL_law 501 = .ok (.iconst 1, 1) := by decide +kernel
theorem dL_law_502 : decode cL_law 502 = .ok (.iadd, 1) := by decide +kernel
theorem dL_law_503 : decode cL_law 503 = .ok (.iaload, 1) := by decide +kernel
theorem dL_law_504 : decode cL_law 504 = .ok (.i2l, 1) := by decide +kernel
theorem dL_law_505 : decode cL_law 505 = .ok (.bipush 32, 2) := by decide +kernel
theorem dL_law_507 : decode cL_law 507 = .ok (.lshl, 1) := by decide +kernel
theorem dL_law_508 : decode cL_law 508 = .ok (.aload_n 0, 1) := by decide +kernel
theorem dL_law_509 : decode cL_law 509 = .ok (.iload_n 3, 1) := by decide +kernel
theorem dL_law_510 : decode cL_law 510 = .ok (.iconst 2, 1) := by decide +kernel
theorem dL_law_511 : decode cL_law 511 = .ok (.iadd, 1) := by decide +kernel
theorem dL_law_512 : decode cL_law 512 = .ok (.iaload, 1) := by decide +kernel
theorem dL_law_513 : decode cL_law 513 = .ok (.i2l, 1) := by decide +kernel
theorem dL_law_514 : decode cL_law 514 = .ok (.ldc2_w 53, 3) := by decide +kernel
theorem dL_law_517 : decode cL_law 517 = .ok (.land, 1) := by decide +kernel
theorem dL_law_518 : decode cL_law 518 = .ok (.lor, 1) := by decide +kernel
theorem dL_law_519 : decode cL_law 519 = .ok (.aload_n 0, 1) := by decide +kernel
theorem dL_law_520 : decode cL_law 520 = .ok (.iload_n 3, 1) := by decide +kernel
theorem dL_law_521 : decode cL_law 521 = .ok (.iconst 3, 1) := by decide +kernel
theorem dL_law_522 : decode cL_law 522 = .ok (.iadd, 1) := by decide +kernel
theorem dL_law_523 : decode cL_law 523 = .ok (.iaload, 1) := by decide +kernel
theorem dL_law_524 : decode cL_law 524 = .ok (.invokevirtual 59, 3) := by decide +kernel
theorem dL_law_527 : decode cL_law 527 = .ok (.if_icmp .eq 754, 3) := by decide +kernel
theorem dL_law_530 : decode cL_law 530 = .ok (.iconst 0, 1) := by decide +kernel
theorem dL_law_531 : decode cL_law 531 = .ok (.ireturn, 1) := by decide +kernel
theorem dL_law_532 : decode cL_law 532 = .ok (.aload_n 1, 1) := by decide +kernel
theorem dL_law_533 : decode cL_law 533 = .ok (.aload_n 0, 1) := by decide +kernel
theorem dL_law_534 : decode cL_law 534 = .ok (.iload_n 3, 1) := by decide +kernel
theorem dL_law_535 : decode cL_law 535 = .ok (.iconst 1, 1) := by decide +kernel
theorem dL_law_536 : decode cL_law 536 = .ok (.iadd, 1) := by decide +kernel
theorem dL_law_537 : decode cL_law 537 = .ok (.iaload, 1) := by decide +kernel
theorem dL_law_538 : decode cL_law 538 = .ok (.invokevirtual 60, 3) := by decide +kernel
theorem dL_law_541 : decode cL_law 541 = .ok (.aload_n 2, 1) := by decide +kernel
theorem dL_law_542 : decode cL_law 542 = .ok (.aload_n 0, 1) := by decide +kernel
theorem dL_law_543 : decode cL_law 543 = .ok (.iload_n 3, 1) := by decide +kernel
theorem dL_law_544 : decode cL_law 544 = .ok (.iconst 1, 1) := by decide +kernel
theorem dL_law_545 : decode cL_law 545 = .ok (.iadd, 1) := by decide +kernel
theorem dL_law_546 : decode cL_law 546 = .ok (.iaload, 1) := by decide +kernel
theorem dL_law_547 : decode cL_law 547 = .ok (.invokevirtual 63, 3) := by decide +kernel
theorem dL_law_550 : decode cL_law 550 = .ok (.if_icmp .eq 731, 3) := by decide +kernel
theorem dL_law_553 : decode cL_law 553 = .ok (.iconst 0, 1) := by decide +kernel
theorem dL_law_554 : decode cL_law 554 = .ok (.ireturn, 1) := by decide +kernel
theorem dL_law_555 : decode cL_law 555 = .ok (.aload_n 1, 1) := by decide +kernel
theorem dL_law_556 : decode cL_law 556 = .ok (.aload_n 0, 1) := by decide +kernel
theorem dL_law_557 : decode cL_law 557 = .ok (.iload_n 3, 1) := by decide +kernel
theorem dL_law_558 : decode cL_law 558 = .ok (.iconst 1, 1) := by decide +kernel
theorem dL_law_559 : decode cL_law 559 = .ok (.iadd, 1) := by decide +kernel
theorem dL_law_560 : decode cL_law 560 = .ok (.iaload, 1) := by decide +kernel
theorem dL_law_561 : decode cL_law 561 = .ok (.invokevirtual 64, 3) := by decide +kernel
theorem dL_law_564 : decode cL_law 564 = .ok (.aload_n 2, 1) := by decide +kernel
theorem dL_law_565 : decode cL_law 565 = .ok (.aload_n 0, 1) := by decide +kernel
theorem dL_law_566 : decode cL_law 566 = .ok (.iload_n 3, 1) := by decide +kernel
theorem dL_law_567 : decode cL_law 567 = .ok (.iconst 1, 1) := by decide +kernel
theorem dL_law_568 : decode cL_law 568 = .ok (.iadd, 1) := by decide +kernel
theorem dL_law_569 : decode cL_law 569 = .ok (.iaload, 1) := by decide +kernel
theorem dL_law_570 : decode cL_law 570 = .ok (.invokevirtual 67, 3) := by decide +kernel
theorem dL_law_573 : decode cL_law 573 = .ok (.if_icmp .eq 708, 3) := by decide +kernel
theorem dL_law_576 : decode cL_law 576 = .ok (.iconst 0, 1) := by decide +kernel
theorem dL_law_577 : decode cL_law 577 = .ok (.ireturn, 1) := by decide +kernel
theorem dL_law_578 : decode cL_law 578 = .ok (.aload_n 1, 1) := by decide +kernel
theorem dL_law_579 : decode cL_law 579 = .ok (.aload_n 0, 1) := by decide +kernel
theorem dL_law_580 : decode cL_law 580 = .ok (.iload_n 3, 1) := by decide +kernel
theorem dL_law_581 : decode cL_law 581 = .ok (.iconst 1, 1) := by decide +kernel
theorem dL_law_582 : decode cL_law 582 = .ok (.iadd, 1) := by decide +kernel
theorem dL_law_583 : decode cL_law 583 = .ok (.iaload, 1) := by decide +kernel
theorem dL_law_584 : decode cL_law 584 = .ok (.invokevirtual 68, 3) := by decide +kernel
theorem dL_law_587 : decode cL_law 587 = .ok (.aload_n 2, 1) := by decide +kernel
theorem dL_law_588 : decode cL_law 588 = .ok (.aload_n 0, 1) := by decide +kernel
theorem dL_law_589 : decode cL_law 589 = .ok (.iload_n 3, 1) := by decide +kernel
theorem dL_law_590 : decode cL_law 590 = .ok (.iconst 1, 1) := by decide +kernel
theorem dL_law_591 : decode cL_law 591 = .ok (.iadd, 1) := by decide +kernel
theorem dL_law_592 : decode cL_law 592 = .ok (.iaload, 1) := by decide +kernel
theorem dL_law_593 : decode cL_law 593 = .ok (.invokevirtual 71, 3) := by decide +kernel
theorem dL_law_596 : decode cL_law 596 = .ok (.if_icmp .eq 685, 3) := by decide +kernel
theorem dL_law_599 : decode cL_law 599 = .ok (.iconst 0, 1) := by decide +kernel
theorem dL_law_600 : decode cL_law 600 = .ok (.ireturn, 1) := by decide +kernel
theorem dL_law_601 : decode cL_law 601 = .ok (.aload_n 1, 1) := by decide +kernel
theorem dL_law_602 : decode cL_law 602 = .ok (.aload_n 0, 1) := by decide +kernel
theorem dL_law_603 : decode cL_law 603 = .ok (.iload_n 3, 1) := by decide +kernel
theorem dL_law_604 : decode cL_law 604 = .ok (.iconst 1, 1) := by decide +kernel
theorem dL_law_605 : decode cL_law 605 = .ok (.iadd, 1) := by decide +kernel
theorem dL_law_606 : decode cL_law 606 = .ok (.iaload, 1) := by decide +kernel
theorem dL_law_607 : decode cL_law 607 = .ok (.invokevirtual 72, 3) := by decide +kernel
theorem dL_law_610 : decode cL_law 610 = .ok (.aload_n 2, 1) := by decide +kernel
theorem dL_law_611 : decode cL_law 611 = .ok (.aload_n 0, 1) := by decide +kernel
theorem dL_law_612 : decode cL_law 612 = .ok (.iload_n 3, 1) := by decide +kernel
theorem dL_law_613 : decode cL_law 613 = .ok (.iconst 1, 1) := by decide +kernel
theorem dL_law_614 : decode cL_law 614 = .ok (.iadd, 1) := by decide +kernel
theorem dL_law_615 : decode cL_law 615 = .ok (.iaload, 1) := by decide +kernel
theorem dL_law_616 : decode cL_law 616 = .ok (.invokevirtual 75, 3) := by decide +kernel
theorem dL_law_619 : decode cL_law 619 = .ok (.if_icmp .eq 662, 3) := by decide +kernel
theorem dL_law_622 : decode cL_law 622 = .ok (.iconst 0, 1) := by decide +kernel
theorem dL_law_623 : decode cL_law 623 = .ok (.ireturn, 1) := by decide +kernel
theorem dL_law_624 : decode cL_law 624 = .ok (.aload_n 1, 1) := by decide +kernel
theorem dL_law_625 : decode cL_law 625 = .ok (.aload_n 0, 1) := by decide +kernel
theorem dL_law_626 : decode cL_law 626 = .ok (.iload_n 3, 1) := by decide +kernel
theorem dL_law_627 : decode cL_law 627 = .ok (.iconst 1, 1) := by decide +kernel
theorem dL_law_628 : decode cL_law 628 = .ok (.iadd, 1) := by decide +kernel
theorem dL_law_629 : decode cL_law 629 = .ok (.iaload, 1) := by decide +kernel
theorem dL_law_630 : decode cL_law 630 = .ok (.invokevirtual 76, 3) := by decide +kernel
theorem dL_law_633 : decode cL_law 633 = .ok (.aload_n 2, 1) := by decide +kernel
theorem dL_law_634 : decode cL_law 634 = .ok (.aload_n 0, 1) := by decide +kernel
theorem dL_law_635 : decode cL_law 635 = .ok (.iload_n 3, 1) := by decide +kernel
theorem dL_law_636 : decode cL_law 636 = .ok (.iconst 1, 1) := by decide +kernel
theorem dL_law_637 : decode cL_law 637 = .ok (.iadd, 1) := by decide +kernel
theorem dL_law_638 : decode cL_law 638 = .ok (.iaload, 1) := by decide +kernel
theorem dL_law_639 : decode cL_law 639 = .ok (.invokevirtual 79, 3) := by decide +kernel
theorem dL_law_642 : decode cL_law 642 = .ok (.if_icmp .eq 639, 3) := by decide +kernel
theorem dL_law_645 : decode cL_law 645 = .ok (.iconst 0, 1) := by decide +kernel
theorem dL_law_646 : decode cL_law 646 = .ok (.ireturn, 1) := by decide +kernel
theorem dL_law_647 : decode cL_law 647 = .ok (.aload_n 1, 1) := by decide +kernel
theorem dL_law_648 : decode cL_law 648 = .ok (.aload_n 0, 1) := by decide +kernel
theorem dL_law_649 : decode cL_law 649 = .ok (.iload_n 3, 1) := by decide +kernel
theorem dL_law_650 : decode cL_law 650 = .ok (.iconst 1, 1) := by decide +kernel
theorem dL_law_651 : decode cL_law 651 = .ok (.iadd, 1) := by decide +kernel
theorem dL_law_652 : decode cL_law 652 = .ok (.iaload, 1) := by decide +kernel
theorem dL_law_653 : decode cL_law 653 = .ok (.invokevirtual 80, 3) := by decide +kernel
theorem dL_law_656 : decode cL_law 656 = .ok (.aload_n 2, 1) := by decide +kernel
theorem dL_law_657 : decode cL_law 657 = .ok (.aload_n 0, 1) := by decide +kernel
theorem dL_law_658 : decode cL_law 658 = .ok (.iload_n 3, 1) := by decide +kernel
theorem dL_law_659 : decode cL_law 659 = .ok (.iconst 1, 1) := by decide +kernel
theorem dL_law_660 : decode cL_law 660 = .ok (.iadd, 1) := by decide +kernel
theorem dL_law_661 : decode cL_law 661 = .ok (.iaload, 1) := by decide +kernel
theorem dL_law_662 : decode cL_law 662 = .ok (.invokevirtual 83, 3) := by decide +kernel
theorem dL_law_665 : decode cL_law 665 = .ok (.if_icmp .eq 616, 3) := by decide +kernel
theorem dL_law_668 : decode cL_law 668 = .ok (.iconst 0, 1) := by decide +kernel
theorem dL_law_669 : decode cL_law 669 = .ok (.ireturn, 1) := by decide +kernel
theorem dL_law_670 : decode cL_law 670 = .ok (.aload_n 1, 1) := by decide +kernel
theorem dL_law_671 : decode cL_law 671 = .ok (.aload_n 0, 1) := by decide +kernel
theorem dL_law_672 : decode cL_law 672 = .ok (.iload_n 3, 1) := by decide +kernel
theorem dL_law_673 : decode cL_law 673 = .ok (.iconst 1, 1) := by decide +kernel
theorem dL_law_674 : decode cL_law 674 = .ok (.iadd, 1) := by decide +kernel
theorem dL_law_675 : decode cL_law 675 = .ok (.iaload, 1) := by decide +kernel
theorem dL_law_676 : decode cL_law 676 = .ok (.aload_n 0, 1) := by decide +kernel
theorem dL_law_677 : decode cL_law 677 = .ok (.iload_n 3, 1) := by decide +kernel
theorem dL_law_678 : decode cL_law 678 = .ok (.iconst 2, 1) := by decide +kernel
theorem dL_law_679 : decode cL_law 679 = .ok (.iadd, 1) := by decide +kernel
theorem dL_law_680 : decode cL_law 680 = .ok (.iaload, 1) := by decide +kernel
theorem dL_law_681 : decode cL_law 681 = .ok (.aload_n 0, 1) := by decide +kernel
theorem dL_law_682 : decode cL_law 682 = .ok (.iload_n 3, 1) := by decide +kernel
theorem dL_law_683 : decode cL_law 683 = .ok (.iconst 3, 1) := by decide +kernel
theorem dL_law_684 : decode cL_law 684 = .ok (.iadd, 1) := by decide +kernel
theorem dL_law_685 : decode cL_law 685 = .ok (.iaload, 1) := by decide +kernel
theorem dL_law_686 : decode cL_law 686 = .ok (.invokevirtual 84, 3) := by decide +kernel
theorem dL_law_689 : decode cL_law 689 = .ok (.aload_n 2, 1) := by decide +kernel
theorem dL_law_690 : decode cL_law 690 = .ok (.aload_n 0, 1) := by decide +kernel
theorem dL_law_691 : decode cL_law 691 = .ok (.iload_n 3, 1) := by decide +kernel
theorem dL_law_692 : decode cL_law 692 = .ok (.iconst 1, 1) := by decide +kernel
theorem dL_law_693 : decode cL_law 693 = .ok (.iadd, 1) := by decide +kernel
theorem dL_law_694 : decode cL_law 694 = .ok (.iaload, 1) := by decide +kernel
theorem dL_law_695 : decode cL_law 695 = .ok (.aload_n 0, 1) := by decide +kernel
theorem dL_law_696 : decode cL_law 696 = .ok (.iload_n 3, 1) := by decide +kernel
theorem dL_law_697 : decode cL_law 697 = .ok (.iconst 2, 1) := by decide +kernel
theorem dL_law_698 : decode cL_law 698 = .ok (.iadd, 1) := by decide +kernel
theorem dL_law_699 : decode cL_law 699 = .ok (.iaload, 1) := by decide +kernel
theorem dL_law_700 : decode cL_law 700 = .ok (.aload_n 0, 1) := by decide +kernel
theorem dL_law_701 : decode cL_law 701 = .ok (.iload_n 3, 1) := by decide +kernel
theorem dL_law_702 : decode cL_law 702 = .ok (.iconst 3, 1) := by decide +kernel
theorem dL_law_703 : decode cL_law 703 = .ok (.iadd, 1) := by decide +kernel
theorem dL_law_704 : decode cL_law 704 = .ok (.iaload, 1) := by decide +kernel
theorem dL_law_705 : decode cL_law 705 = .ok (.invokevirtual 87, 3) := by decide +kernel
theorem dL_law_708 : decode cL_law 708 = .ok (.if_icmp .eq 573, 3) := by decide +kernel
theorem dL_law_711 : decode cL_law 711 = .ok (.iconst 0, 1) := by decide +kernel
theorem dL_law_712 : decode cL_law 712 = .ok (.ireturn, 1) := by decide +kernel
theorem dL_law_713 : decode cL_law 713 = .ok (.aload_n 1, 1) := by decide +kernel
theorem dL_law_714 : decode cL_law 714 = .ok (.aload_n 0, 1) := by decide +kernel
theorem dL_law_715 : decode cL_law 715 = .ok (.iload_n 3, 1) := by decide +kernel
theorem dL_law_716 : decode cL_law 716 = .ok (.iconst 1, 1) := by decide +kernel
theorem dL_law_717 : decode cL_law 717 = .ok (.iadd, 1) := by decide +kernel
theorem dL_law_718 : decode cL_law 718 = .ok (.iaload, 1) := by decide +kernel
theorem dL_law_719 : decode cL_law 719 = .ok (.aload_n 0, 1) := by decide +kernel
theorem dL_law_720 : decode cL_law 720 = .ok (.iload_n 3, 1) := by decide +kernel
theorem dL_law_721 : decode cL_law 721 = .ok (.iconst 2, 1) := by decide +kernel
theorem dL_law_722 : decode cL_law 722 = .ok (.iadd, 1) := by decide +kernel
theorem dL_law_723 : decode cL_law 723 = .ok (.iaload, 1) := by decide +kernel
theorem dL_law_724 : decode cL_law 724 = .ok (.invokevirtual 88, 3) := by decide +kernel
theorem dL_law_727 : decode cL_law 727 = .ok (.aload_n 2, 1) := by decide +kernel
theorem dL_law_728 : decode cL_law 728 = .ok (.aload_n 0, 1) := by decide +kernel
theorem dL_law_729 : decode cL_law 729 = .ok (.iload_n 3, 1) := by decide +kernel
theorem dL_law_730 : decode cL_law 730 = .ok (.iconst 1, 1) := by decide +kernel
theorem dL_law_731 : decode cL_law 731 = .ok (.iadd, 1) := by decide +kernel
theorem dL_law_732 : decode cL_law 732 = .ok (.iaload, 1) := by decide +kernel
theorem dL_law_733 : decode cL_law 733 = .ok (.aload_n 0, 1) := by decide +kernel
theorem dL_law_734 : decode cL_law 734 = .ok (.iload_n 3, 1) := by decide +kernel
theorem dL_law_735 : decode cL_law 735 = .ok (.iconst 2, 1) := by decide +kernel
theorem dL_law_736 : decode cL_law 736 = .ok (.iadd, 1) := by decide +kernel
theorem dL_law_737 : decode cL_law 737 = .ok (.iaload, 1) := by decide +kernel
theorem dL_law_738 : decode cL_law 738 = .ok (.invokevirtual 91, 3) := by decide +kernel
theorem dL_law_741 : decode cL_law 741 = .ok (.if_icmp .eq 540, 3) := by decide +kernel
theorem dL_law_744 : decode cL_law 744 = .ok (.iconst 0, 1) := by decide +kernel
theorem dL_law_745 : decode cL_law 745 = .ok (.ireturn, 1) := by decide +kernel
theorem dL_law_746 : decode cL_law 746 = .ok (.aload_n 1, 1) := by decide +kernel
theorem dL_law_747 : decode cL_law 747 = .ok (.aload_n 0, 1) := by decide +kernel
theorem dL_law_748 : decode cL_law 748 = .ok (.iload_n 3, 1) := by decide +kernel
theorem dL_law_749 : decode cL_law 749 = .ok (.iconst 1, 1) := by decide +kernel
theorem dL_law_750 : decode cL_law 750 = .ok (.iadd, 1) := by decide +kernel
theorem dL_law_751 : decode cL_law 751 = .ok (.iaload, 1) := by decide +kernel
theorem dL_law_752 : decode cL_law 752 = .ok (.invokevirtual 92, 3) := by decide +kernel
theorem dL_law_755 : decode cL_law 755 = .ok (.aload_n 2, 1) := by decide +kernel
theorem dL_law_756 : decode cL_law 756 = .ok (.aload_n 0, 1) := by decide +kernel
theorem dL_law_757 : decode cL_law 757 = .ok (.iload_n 3, 1) := by decide +kernel
theorem dL_law_758 : decode cL_law 758 = .ok (.iconst 1, 1) := by decide +kernel
theorem dL_law_759 : decode cL_law 759 = .ok (.iadd, 1) := by decide +kernel
theorem dL_law_760 : decode cL_law 760 = .ok (.iaload, 1) := by decide +kernel
theorem dL_law_761 : decode cL_law 761 = .ok (.invokevirtual 95, 3) := by decide +kernel
theorem dL_law_764 : decode cL_law 764 = .ok (.if_icmp .eq 517, 3) := by decide +kernel
theorem dL_law_767 : decode cL_law 767 = .ok (.iconst 0, 1) := by decide +kernel
theorem dL_law_768 : decode cL_law 768 = .ok (.ireturn, 1) := by decide +kernel
theorem dL_law_769 : decode cL_law 769 = .ok (.aload_n 1, 1) := by decide +kernel
theorem dL_law_770 : decode cL_law 770 = .ok (.aload_n 0, 1) := by decide +kernel
theorem dL_law_771 : decode cL_law 771 = .ok (.iload_n 3, 1) := by decide +kernel
theorem dL_law_772 : decode cL_law 772 = .ok (.iconst 1, 1) := by decide +kernel
theorem dL_law_773 : decode cL_law 773 = .ok (.iadd, 1) := by decide +kernel
theorem dL_law_774 : decode cL_law 774 = .ok (.iaload, 1) := by decide +kernel
theorem dL_law_775 : decode cL_law 775 = .ok (.invokevirtual 96, 3) := by decide +kernel
theorem dL_law_778 : decode cL_law 778 = .ok (.aload_n 2, 1) := by decide +kernel
theorem dL_law_779 : decode cL_law 779 = .ok (.aload_n 0, 1) := by decide +kernel
theorem dL_law_780 : decode cL_law 780 = .ok (.iload_n 3, 1) := by decide +kernel
theorem dL_law_781 : decode cL_law 781 = .ok (.iconst 1, 1) := by decide +kernel
theorem dL_law_782 : decode cL_law 782 = .ok (.iadd, 1) := by decide +kernel
theorem dL_law_783 : decode cL_law 783 = .ok (.iaload, 1) := by decide +kernel
theorem dL_law_784 : decode cL_law 784 = .ok (.invokevirtual 99, 3) := by decide +kernel
theorem dL_law_787 : decode cL_law 787 = .ok (.if_icmp .eq 494, 3) := by decide +kernel
theorem dL_law_790 : decode cL_law 790 = .ok (.iconst 0, 1) := by decide +kernel
theorem dL_law_791 : decode cL_law 791 = .ok (.ireturn, 1) := by decide +kernel
theorem dL_law_792 : decode cL_law 792 = .ok (.aload_n 1, 1) := by decide +kernel
theorem dL_law_793 : decode cL_law 793 = .ok (.aload_n 0, 1) := by decide +kernel
theorem dL_law_794 : decode cL_law 794 = .ok (.iload_n 3, 1) := by decide +kernel
theorem dL_law_795 : decode cL_law 795 = .ok (.iconst 1, 1) := by decide +kernel
theorem dL_law_796 : decode cL_law 796 = .ok (.iadd, 1) := by decide +kernel
theorem dL_law_797 : decode cL_law 797 = .ok (.iaload, 1) := by decide +kernel
theorem dL_law_798 : decode cL_law 798 = .ok (.aload_n 0, 1) := by decide +kernel
theorem dL_law_799 : decode cL_law 799 = .ok (.iload_n 3, 1) := by decide +kernel
theorem dL_law_800 : decode cL_law 800 = .ok (.iconst 2, 1) := by decide +kernel
theorem dL_law_801 : decode cL_law 801 = .ok (.iadd, 1) := by decide +kernel
theorem dL_law_802 : decode cL_law 802 = .ok (.iaload, 1) := by decide +kernel
theorem dL_law_803 : decode cL_law 803 = .ok (.invokevirtual 100, 3) := by decide +kernel
theorem dL_law_806 : decode cL_law 806 = .ok (.aload_n 2, 1) := by decide +kernel
theorem dL_law_807 : decode cL_law 807 = .ok (.aload_n 0, 1) := by decide +kernel
theorem dL_law_808 : decode cL_law 808 = .ok (.iload_n 3, 1) := by decide +kernel
theorem dL_law_809 : decode cL_law 809 = .ok (.iconst 1, 1) := by decide +kernel
theorem dL_law_810 : decode cL_law 810 = .ok (.iadd, 1) := by decide +kernel
theorem dL_law_811 : decode cL_law 811 = .ok (.iaload, 1) := by decide +kernel
theorem dL_law_812 : decode cL_law 812 = .ok (.aload_n 0, 1) := by decide +kernel
theorem dL_law_813 : decode cL_law 813 = .ok (.iload_n 3, 1) := by decide +kernel
theorem dL_law_814 : decode cL_law 814 = .ok (.iconst 2, 1) := by decide +kernel
theorem dL_law_815 : decode cL_law 815 = .ok (.iadd, 1) := by decide +kernel
theorem dL_law_816 : decode cL_law 816 = .ok (.iaload, 1) := by decide +kernel
theorem dL_law_817 : decode cL_law 817 = .ok (.invokevirtual 103, 3) := by decide +kernel
theorem dL_law_820 : decode cL_law 820 = .ok (.if_icmp .eq 461, 3) := by decide +kernel
theorem dL_law_823 : decode cL_law 823 = .ok (.iconst 0, 1) := by decide +kernel
theorem dL_law_824 : decode cL_law 824 = .ok (.ireturn, 1) := by decide +kernel
theorem dL_law_825 : decode cL_law 825 = .ok (.aload_n 1, 1) := by decide +kernel
theorem dL_law_826 : decode cL_law 826 = .ok (.aload_n 0, 1) := by decide +kernel
theorem dL_law_827 : decode cL_law 827 = .ok (.iload_n 3, 1) := by decide +kernel
theorem dL_law_828 : decode cL_law 828 = .ok (.iconst 1, 1) := by decide +kernel
theorem dL_law_829 : decode cL_law 829 = .ok (.iadd, 1) := by decide +kernel
theorem dL_law_830 : decode cL_law 830 = .ok (.iaload, 1) := by decide +kernel
theorem dL_law_831 : decode cL_law 831 = .ok (.aload_n 0, 1) := by decide +kernel
theorem dL_law_832 : decode cL_law 832 = .ok (.iload_n 3, 1) := by decide +kernel
theorem dL_law_833 : decode cL_law 833 = .ok (.iconst 2, 1) := by decide +kernel
theorem dL_law_834 : decode cL_law 834 = .ok (.iadd, 1) := by decide +kernel
theorem dL_law_835 : decode cL_law 835 = .ok (.iaload, 1) := by decide +kernel
theorem dL_law_836 : decode cL_law 836 = .ok (.invokevirtual 104, 3) := by decide +kernel
theorem dL_law_839 : decode cL_law 839 = .ok (.aload_n 2, 1) := by decide +kernel
theorem dL_law_840 : decode cL_law 840 = .ok (.aload_n 0, 1) := by decide +kernel
theorem dL_law_841 : decode cL_law 841 = .ok (.iload_n 3, 1) := by decide +kernel
theorem dL_law_842 : decode cL_law 842 = .ok (.iconst 1, 1) := by decide +kernel
theorem dL_law_843 : decode cL_law 843 = .ok (.iadd, 1) := by decide +kernel
theorem dL_law_844 : decode cL_law 844 = .ok (.iaload, 1) := by decide +kernel
theorem dL_law_845 : decode cL_law 845 = .ok (.aload_n 0, 1) := by decide +kernel
theorem dL_law_846 : decode cL_law 846 = .ok (.iload_n 3, 1) := by decide +kernel
theorem dL_law_847 : decode cL_law 847 = .ok (.iconst 2, 1) := by decide +kernel
theorem dL_law_848 : decode cL_law 848 = .ok (.iadd, 1) := by decide +kernel
theorem dL_law_849 : decode cL_law 849 = .ok (.iaload, 1) := by decide +kernel
theorem dL_law_850 : decode cL_law 850 = .ok (.invokevirtual 108, 3) := by decide +kernel
theorem dL_law_853 : decode cL_law 853 = .ok (.lcmp, 1) := by decide +kernel
theorem dL_law_854 : decode cL_law 854 = .ok (.ifCond .eq 427, 3) := by decide +kernel
theorem dL_law_857 : decode cL_law 857 = .ok (.iconst 0, 1) := by decide +kernel
theorem dL_law_858 : decode cL_law 858 = .ok (.ireturn, 1) := by decide +kernel
theorem dL_law_859 : decode cL_law 859 = .ok (.aload_n 1, 1) := by decide +kernel
theorem dL_law_860 : decode cL_law 860 = .ok (.aload_n 0, 1) := by decide +kernel
theorem dL_law_861 : decode cL_law 861 = .ok (.iload_n 3, 1) := by decide +kernel
theorem dL_law_862 : decode cL_law 862 = .ok (.iconst 1, 1) := by decide +kernel
theorem dL_law_863 : decode cL_law 863 = .ok (.iadd, 1) := by decide +kernel
theorem dL_law_864 : decode cL_law 864 = .ok (.iaload, 1) := by decide +kernel
theorem dL_law_865 : decode cL_law 865 = .ok (.aload_n 0, 1) := by decide +kernel
theorem dL_law_866 : decode cL_law 866 = .ok (.iload_n 3, 1) := by decide +kernel
theorem dL_law_867 : decode cL_law 867 = .ok (.iconst 2, 1) := by decide +kernel
theorem dL_law_868 : decode cL_law 868 = .ok (.iadd, 1) := by decide +kernel
theorem dL_law_869 : decode cL_law 869 = .ok (.iaload, 1) := by decide +kernel
theorem dL_law_870 : decode cL_law 870 = .ok (.invokevirtual 109, 3) := by decide +kernel
theorem dL_law_873 : decode cL_law 873 = .ok (.aload_n 2, 1) := by decide +kernel
theorem dL_law_874 : decode cL_law 874 = .ok (.aload_n 0, 1) := by decide +kernel
theorem dL_law_875 : decode cL_law 875 = .ok (.iload_n 3, 1) := by decide +kernel
theorem dL_law_876 : decode cL_law 876 = .ok (.iconst 1, 1) := by decide +kernel
theorem dL_law_877 : decode cL_law 877 = .ok (.iadd, 1) := by decide +kernel
theorem dL_law_878 : decode cL_law 878 = .ok (.iaload, 1) := by decide +kernel
theorem dL_law_879 : decode cL_law 879 = .ok (.aload_n 0, 1) := by decide +kernel
theorem dL_law_880 : decode cL_law 880 = .ok (.iload_n 3, 1) := by decide +kernel
theorem dL_law_881 : decode cL_law 881 = .ok (.iconst 2, 1) := by decide +kernel
theorem dL_law_882 : decode cL_law 882 = .ok (.iadd, 1) := by decide +kernel
theorem dL_law_883 : decode cL_law 883 = .ok (.iaload, 1) := by decide +kernel
theorem dL_law_884 : decode cL_law 884 = .ok (.invokevirtual 112, 3) := by decide +kernel
theorem dL_law_887 : decode cL_law 887 = .ok (.if_icmp .eq 394, 3) := by decide +kernel
theorem dL_law_890 : decode cL_law 890 = .ok (.iconst 0, 1) := by decide +kernel
theorem dL_law_891 : decode cL_law 891 = .ok (.ireturn, 1) := by decide +kernel
theorem dL_law_892 : decode cL_law 892 = .ok (.aload_n 1, 1) := by decide +kernel
theorem dL_law_893 : decode cL_law 893 = .ok (.aload_n 0, 1) := by decide +kernel
theorem dL_law_894 : decode cL_law 894 = .ok (.iload_n 3, 1) := by decide +kernel
theorem dL_law_895 : decode cL_law 895 = .ok (.iconst 1, 1) := by decide +kernel
theorem dL_law_896 : decode cL_law 896 = .ok (.iadd, 1) := by decide +kernel
theorem dL_law_897 : decode cL_law 897 = .ok (.iaload, 1) := by decide +kernel
theorem dL_law_898 : decode cL_law 898 = .ok (.invokevirtual 113, 3) := by decide +kernel
theorem dL_law_901 : decode cL_law 901 = .ok (.aload_n 2, 1) := by decide +kernel
theorem dL_law_902 : decode cL_law 902 = .ok (.aload_n 0, 1) := by decide +kernel
theorem dL_law_903 : decode cL_law 903 = .ok (.iload_n 3, 1) := by decide +kernel
theorem dL_law_904 : decode cL_law 904 = .ok (.iconst 1, 1) := by decide +kernel
theorem dL_law_905 : decode cL_law 905 = .ok (.iadd, 1) := by decide +kernel
theorem dL_law_906 : decode cL_law 906 = .ok (.iaload, 1) := by decide +kernel
theorem dL_law_907 : decode cL_law 907 = .ok (.invokevirtual 116, 3) := by decide +kernel
theorem dL_law_910 : decode cL_law 910 = .ok (.if_icmp .eq 371, 3) := by decide +kernel
theorem dL_law_913 : decode cL_law 913 = .ok (.iconst 0, 1) := by decide +kernel
theorem dL_law_914 : decode cL_law 914 = .ok (.ireturn, 1) := by decide +kernel
theorem dL_law_915 : decode cL_law 915 = .ok (.aload_n 1, 1) := by decide +kernel
theorem dL_law_916 : decode cL_law 916 = .ok (.aload_n 0, 1) := by decide +kernel
theorem dL_law_917 : decode cL_law 917 = .ok (.iload_n 3, 1) := by decide +kernel
theorem dL_law_918 : decode cL_law 918 = .ok (.iconst 1, 1) := by decide +kernel
theorem dL_law_919 : decode cL_law 919 = .ok (.iadd, 1) := by decide +kernel
theorem dL_law_920 : decode cL_law 920 = .ok (.iaload, 1) := by decide +kernel
theorem dL_law_921 : decode cL_law 921 = .ok (.aload_n 0, 1) := by decide +kernel
theorem dL_law_922 : decode cL_law 922 = .ok (.iload_n 3, 1) := by decide +kernel
theorem dL_law_923 : decode cL_law 923 = .ok (.iconst 2, 1) := by decide +kernel
theorem dL_law_924 : decode cL_law 924 = .ok (.iadd, 1) := by decide +kernel
theorem dL_law_925 : decode cL_law 925 = .ok (.iaload, 1) := by decide +kernel
theorem dL_law_926 : decode cL_law 926 = .ok (.aload_n 0, 1) := by decide +kernel
theorem dL_law_927 : decode cL_law 927 = .ok (.iload_n 3, 1) := by decide +kernel
theorem dL_law_928 : decode cL_law 928 = .ok (.iconst 3, 1) := by decide +kernel
theorem dL_law_929 : decode cL_law 929 = .ok (.iadd, 1) := by decide +kernel
theorem dL_law_930 : decode cL_law 930 = .ok (.iaload, 1) := by decide +kernel
theorem dL_law_931 : decode cL_law 931 = .ok (.invokevirtual 117, 3) := by decide +kernel
theorem dL_law_934 : decode cL_law 934 = .ok (.aload_n 2, 1) := by decide +kernel
theorem dL_law_935 : decode cL_law 935 = .ok (.aload_n 0, 1) := by decide +kernel
theorem dL_law_936 : decode cL_law 936 = .ok (.iload_n 3, 1) := by decide +kernel
theorem dL_law_937 : decode cL_law 937 = .ok (.iconst 1, 1) := by decide +kernel
theorem dL_law_938 : decode cL_law 938 = .ok (.iadd, 1) := by decide +kernel
theorem dL_law_939 : decode cL_law 939 = .ok (.iaload, 1) := by decide +kernel
theorem dL_law_940 : decode cL_law 940 = .ok (.aload_n 0, 1) := by decide +kernel
theorem dL_law_941 : decode cL_law 941 = .ok (.iload_n 3, 1) := by decide +kernel
theorem dL_law_942 : decode cL_law 942 = .ok (.iconst 2, 1) := by decide +kernel
theorem dL_law_943 : decode cL_law 943 = .ok (.iadd, 1) := by decide +kernel
theorem dL_law_944 : decode cL_law 944 = .ok (.iaload, 1) := by decide +kernel
theorem dL_law_945 : decode cL_law 945 = .ok (.aload_n 0, 1) := by decide +kernel
theorem dL_law_946 : decode cL_law 946 = .ok (.iload_n 3, 1) := by decide +kernel
theorem dL_law_947 : decode cL_law 947 = .ok (.iconst 3, 1) := by decide +kernel
theorem dL_law_948 : decode cL_law 948 = .ok (.iadd, 1) := by decide +kernel
theorem dL_law_949 : decode cL_law 949 = .ok (.iaload, 1) := by decide +kernel
theorem dL_law_950 : decode cL_law 950 = .ok (.invokevirtual 120, 3) := by decide +kernel
theorem dL_law_953 : decode cL_law 953 = .ok (.if_icmp .eq 328, 3) := by decide +kernel
theorem dL_law_956 : decode cL_law 956 = .ok (.iconst 0, 1) := by decide +kernel
theorem dL_law_957 : decode cL_law 957 = .ok (.ireturn, 1) := by decide +kernel
theorem dL_law_958 : decode cL_law 958 = .ok (.aload_n 1, 1) := by decide +kernel
theorem dL_law_959 : decode cL_law 959 = .ok (.aload_n 0, 1) := by decide +kernel
theorem dL_law_960 : decode cL_law 960 = .ok (.iload_n 3, 1) := by decide +kernel
theorem dL_law_961 : decode cL_law 961 = .ok (.iconst 1, 1) := by decide +kernel
theorem dL_law_962 : decode cL_law 962 = .ok (.iadd, 1) := by decide +kernel
theorem dL_law_963 : decode cL_law 963 = .ok (.iaload, 1) := by decide +kernel
theorem dL_law_964 : decode cL_law 964 = .ok (.invokevirtual 121, 3) := by decide +kernel
theorem dL_law_967 : decode cL_law 967 = .ok (.aload_n 2, 1) := by decide +kernel
theorem dL_law_968 : decode cL_law 968 = .ok (.aload_n 0, 1) := by decide +kernel
theorem dL_law_969 : decode cL_law 969 = .ok (.iload_n 3, 1) := by decide +kernel
theorem dL_law_970 : decode cL_law 970 = .ok (.iconst 1, 1) := by decide +kernel
theorem dL_law_971 : decode cL_law 971 = .ok (.iadd, 1) := by decide +kernel
theorem dL_law_972 : decode cL_law 972 = .ok (.iaload, 1) := by decide +kernel
theorem dL_law_973 : decode cL_law 973 = .ok (.invokevirtual 124, 3) := by decide +kernel
theorem dL_law_976 : decode cL_law 976 = .ok (.if_icmp .eq 305, 3) := by decide +kernel
theorem dL_law_979 : decode cL_law 979 = .ok (.iconst 0, 1) := by decide +kernel
theorem dL_law_980 : decode cL_law 980 = .ok (.ireturn, 1) := by decide +kernel
theorem dL_law_981 : decode cL_law 981 = .ok (.aload_n 1, 1) := by decide +kernel
theorem dL_law_982 : decode cL_law 982 = .ok (.aload_n 0, 1) := by decide +kernel
theorem dL_law_983 : decode cL_law 983 = .ok (.iload_n 3, 1) := by decide +kernel
theorem dL_law_984 : decode cL_law 984 = .ok (.iconst 1, 1) := by decide +kernel
theorem dL_law_985 : decode cL_law 985 = .ok (.iadd, 1) := by decide +kernel
theorem dL_law_986 : decode cL_law 986 = .ok (.iaload, 1) := by decide +kernel
theorem dL_law_987 : decode cL_law 987 = .ok (.aload_n 0, 1) := by decide +kernel
theorem dL_law_988 : decode cL_law 988 = .ok (.iload_n 3, 1) := by decide +kernel
theorem dL_law_989 : decode cL_law 989 = .ok (.iconst 2, 1) := by decide +kernel
theorem dL_law_990 : decode cL_law 990 = .ok (.iadd, 1) := by decide +kernel
theorem dL_law_991 : decode cL_law 991 = .ok (.iaload, 1) := by decide +kernel
theorem dL_law_992 : decode cL_law 992 = .ok (.aload_n 0, 1) := by decide +kernel
theorem dL_law_993 : decode cL_law 993 = .ok (.iload_n 3, 1) := by decide +kernel
theorem dL_law_994 : decode cL_law 994 = .ok (.iconst 3, 1) := by decide +kernel
theorem dL_law_995 : decode cL_law 995 = .ok (.iadd, 1) := by decide +kernel
theorem dL_law_996 : decode cL_law 996 = .ok (.iaload, 1) := by decide +kernel
theorem dL_law_997 : decode cL_law 997 = .ok (.invokevirtual 125, 3) := by decide +kernel
theorem dL_law_1000 : decode cL_law 1000 = .ok (.aload_n 2, 1) := by decide +kernel
theorem dL_law_1001 : decode cL_law 1001 = .ok (.aload_n 0, 1) := by decide +kernel
theorem dL_law_1002 : decode cL_law 1002 = .ok (.iload_n 3, 1) := by decide +kernel
theorem dL_law_1003 : decode cL_law 1003 = .ok (.iconst 1, 1) := by decide +kernel
theorem dL_law_1004 : decode cL_law 1004 = .ok (.iadd, 1) := by decide +kernel
theorem dL_law_1005 : decode cL_law 1005 = .ok (.iaload, 1) := by decide +kernel
theorem dL_law_1006 : decode cL_law 1006 = .ok (.aload_n 0, 1) := by decide +kernel
theorem dL_law_1007 : decode cL_law 1007 = .ok (.iload_n 3, 1) := by decide +kernel
theorem dL_law_1008 : decode cL_law 1008 = .ok (.iconst 2, 1) := by decide +kernel
theorem dL_law_1009 : decode cL_law 1009 = .ok (.iadd, 1) := by decide +kernel
theorem dL_law_1010 : decode cL_law 1010 = .ok (.iaload, 1) := by decide +kernel
theorem dL_law_1011 : decode cL_law 1011 = .ok (.aload_n 0, 1) := by decide +kernel
theorem dL_law_1012 : decode cL_law 1012 = .ok (.iload_n 3, 1) := by decide +kernel
theorem dL_law_1013 : decode cL_law 1013 = .ok (.iconst 3, 1) := by decide +kernel
theorem dL_law_1014 : decode cL_law 1014 = .ok (.iadd, 1) := by decide +kernel
theorem dL_law_1015 : decode cL_law 1015 = .ok (.iaload, 1) := by decide +kernel
theorem dL_law_1016 : decode cL_law 1016 = .ok (.invokevirtual 128, 3) := by decide +kernel
theorem dL_law_1019 : decode cL_law 1019 = .ok (.if_icmp .eq 262, 3) := by decide +kernel
theorem dL_law_1022 : decode cL_law 1022 = .ok (.iconst 0, 1) := by decide +kernel
theorem dL_law_1023 : decode cL_law 1023 = .ok (.ireturn, 1) := by decide +kernel
theorem dL_law_1024 : decode cL_law 1024 = .ok (.aload_n 1, 1) := by decide +kernel
theorem dL_law_1025 : decode cL_law 1025 = .ok (.aload_n 0, 1) := by decide +kernel
theorem dL_law_1026 : decode cL_law 1026 = .ok (.iload_n 3, 1) := by decide +kernel
theorem dL_law_1027 : decode cL_law 1027 = .ok (.iconst 1, 1) := by decide +kernel
theorem dL_law_1028 : decode cL_law 1028 = .ok (.iadd, 1) := by decide +kernel
theorem dL_law_1029 : decode cL_law 1029 = .ok (.iaload, 1) := by decide +kernel
theorem dL_law_1030 : decode cL_law 1030 = .ok (.aload_n 0, 1) := by decide +kernel
theorem dL_law_1031 : decode cL_law 1031 = .ok (.iload_n 3, 1) := by decide +kernel
theorem dL_law_1032 : decode cL_law 1032 = .ok (.iconst 2, 1) := by decide +kernel
theorem dL_law_1033 : decode cL_law 1033 = .ok (.iadd, 1) := by decide +kernel
theorem dL_law_1034 : decode cL_law 1034 = .ok (.iaload, 1) := by decide +kernel
theorem dL_law_1035 : decode cL_law 1035 = .ok (.aload_n 0, 1) := by decide +kernel
theorem dL_law_1036 : decode cL_law 1036 = .ok (.iload_n 3, 1) := by decide +kernel
theorem dL_law_1037 : decode cL_law 1037 = .ok (.iconst 3, 1) := by decide +kernel
theorem dL_law_1038 : decode cL_law 1038 = .ok (.iadd, 1) := by decide +kernel
theorem dL_law_1039 : decode cL_law 1039 = .ok (.iaload, 1) := by decide +kernel
theorem dL_law_1040 : decode cL_law 1040 = .ok (.invokevirtual 129, 3) := by decide +kernel
theorem dL_law_1043 : decode cL_law 1043 = .ok (.aload_n 2, 1) := by decide +kernel
theorem dL_law_1044 : decode cL_law 1044 = .ok (.aload_n 0, 1) := by decide +kernel
theorem dL_law_1045 : decode cL_law 1045 = .ok (.iload_n 3, 1) := by decide +kernel
theorem dL_law_1046 : decode cL_law 1046 = .ok (.iconst 1, 1) := by decide +kernel
theorem dL_law_1047 : decode cL_law 1047 = .ok (.iadd, 1) := by decide +kernel
theorem dL_law_1048 : decode cL_law 1048 = .ok (.iaload, 1) := by decide +kernel
theorem dL_law_1049 : decode cL_law 1049 = .ok (.aload_n 0, 1) := by decide +kernel
theorem dL_law_1050 : decode cL_law 1050 = .ok (.iload_n 3, 1) := by decide +kernel
theorem dL_law_1051 : decode cL_law 1051 = .ok (.iconst 2, 1) := by decide +kernel
theorem dL_law_1052 : decode cL_law 1052 = .ok (.iadd, 1) := by decide +kernel
theorem dL_law_1053 : decode cL_law 1053 = .ok (.iaload, 1) := by decide +kernel
theorem dL_law_1054 : decode cL_law 1054 = .ok (.aload_n 0, 1) := by decide +kernel
theorem dL_law_1055 : decode cL_law 1055 = .ok (.iload_n 3, 1) := by decide +kernel
theorem dL_law_1056 : decode cL_law 1056 = .ok (.iconst 3, 1) := by decide +kernel
theorem dL_law_1057 : decode cL_law 1057 = .ok (.iadd, 1) := by decide +kernel
theorem dL_law_1058 : decode cL_law 1058 = .ok (.iaload, 1) := by decide +kernel
theorem dL_law_1059 : decode cL_law 1059 = .ok (.invokevirtual 132, 3) := by decide +kernel
theorem dL_law_1062 : decode cL_law 1062 = .ok (.if_icmp .eq 219, 3) := by decide +kernel
theorem dL_law_1065 : decode cL_law 1065 = .ok (.iconst 0, 1) := by decide +kernel
theorem dL_law_1066 : decode cL_law 1066 = .ok (.ireturn, 1) := by decide +kernel
theorem dL_law_1067 : decode cL_law 1067 = .ok (.aload_n 1, 1) := by decide +kernel
theorem dL_law_1068 : decode cL_law 1068 = .ok (.aload_n 0, 1) := by decide +kernel
theorem dL_law_1069 : decode cL_law 1069 = .ok (.iload_n 3, 1) := by decide +kernel
theorem dL_law_1070 : decode cL_law 1070 = .ok (.iconst 1, 1) := by decide +kernel
theorem dL_law_1071 : decode cL_law 1071 = .ok (.iadd, 1) := by decide +kernel
theorem dL_law_1072 : decode cL_law 1072 = .ok (.iaload, 1) := by decide +kernel
theorem dL_law_1073 : decode cL_law 1073 = .ok (.aload_n 0, 1) := by decide +kernel
theorem dL_law_1074 : decode cL_law 1074 = .ok (.iload_n 3, 1) := by decide +kernel
theorem dL_law_1075 : decode cL_law 1075 = .ok (.iconst 2, 1) := by decide +kernel
theorem dL_law_1076 : decode cL_law 1076 = .ok (.iadd, 1) := by decide +kernel
theorem dL_law_1077 : decode cL_law 1077 = .ok (.iaload, 1) := by decide +kernel
theorem dL_law_1078 : decode cL_law 1078 = .ok (.aload_n 0, 1) := by decide +kernel
theorem dL_law_1079 : decode cL_law 1079 = .ok (.iload_n 3, 1) := by decide +kernel
theorem dL_law_1080 : decode cL_law 1080 = .ok (.iconst 3, 1) := by decide +kernel
theorem dL_law_1081 : decode cL_law 1081 = .ok (.iadd, 1) := by decide +kernel
theorem dL_law_1082 : decode cL_law 1082 = .ok (.iaload, 1) := by decide +kernel
theorem dL_law_1083 : decode cL_law 1083 = .ok (.aload_n 0, 1) := by decide +kernel
theorem dL_law_1084 : decode cL_law 1084 = .ok (.iload_n 3, 1) := by decide +kernel
theorem dL_law_1085 : decode cL_law 1085 = .ok (.iconst 4, 1) := by decide +kernel
theorem dL_law_1086 : decode cL_law 1086 = .ok (.iadd, 1) := by decide +kernel
theorem dL_law_1087 : decode cL_law 1087 = .ok (.iaload, 1) := by decide +kernel
theorem dL_law_1088 : decode cL_law 1088 = .ok (.aload_n 0, 1) := by decide +kernel
theorem dL_law_1089 : decode cL_law 1089 = .ok (.iload_n 3, 1) := by decide +kernel
theorem dL_law_1090 : decode cL_law 1090 = .ok (.iconst 5, 1) := by decide +kernel
theorem dL_law_1091 : decode cL_law 1091 = .ok (.iadd, 1) := by decide +kernel
theorem dL_law_1092 : decode cL_law 1092 = .ok (.iaload, 1) := by decide +kernel
theorem dL_law_1093 : decode cL_law 1093 = .ok (.invokevirtual 133, 3) := by decide +kernel
theorem dL_law_1096 : decode cL_law 1096 = .ok (.aload_n 2, 1) := by decide +kernel
theorem dL_law_1097 : decode cL_law 1097 = .ok (.aload_n 0, 1) := by decide +kernel
theorem dL_law_1098 : decode cL_law 1098 = .ok (.iload_n 3, 1) := by decide +kernel
theorem dL_law_1099 : decode cL_law 1099 = .ok (.iconst 1, 1) := by decide +kernel
theorem dL_law_1100 : decode cL_law 1100 = .ok (.iadd, 1) := by decide +kernel
theorem dL_law_1101 : decode cL_law 1101 = .ok (.iaload, 1) := by decide +kernel
theorem dL_law_1102 : decode cL_law 1102 = .ok (.aload_n 0, 1) := by decide +kernel
theorem dL_law_1103 : decode cL_law 1103 = .ok (.iload_n 3, 1) := by decide +kernel
theorem dL_law_1104 : decode cL_law 1104 = .ok (.iconst 2, 1) := by decide +kernel
theorem dL_law_1105 : decode cL_law 1105 = .ok (.iadd, 1) := by decide +kernel
theorem dL_law_1106 : decode cL_law 1106 = .ok (.iaload, 1) := by decide +kernel
theorem dL_law_1107 : decode cL_law 1107 = .ok (.aload_n 0, 1) := by decide +kernel
theorem dL_law_1108 : decode cL_law 1108 = .ok (.iload_n 3, 1) := by decide +kernel
theorem dL_law_1109 : decode cL_law 1109 = .ok (.iconst 3, 1) := by decide +kernel
theorem dL_law_1110 : decode cL_law 1110 = .ok (.iadd, 1) := by decide +kernel
theorem dL_law_1111 : decode cL_law 1111 = .ok (.iaload, 1) := by decide +kernel
theorem dL_law_1112 : decode cL_law 1112 = .ok (.aload_n 0, 1) := by decide +kernel
theorem dL_law_1113 : decode cL_law 1113 = .ok (.iload_n 3, 1) := by decide +kernel
theorem dL_law_1114 : decode cL_law 1114 = .ok (.iconst 4, 1) := by decide +kernel
theorem dL_law_1115 : decode cL_law 1115 = .ok (.iadd, 1) := by decide +kernel
theorem dL_law_1116 : decode cL_law 1116 = .ok (.iaload, 1) := by decide +kernel
theorem dL_law_1117 : decode cL_law 1117 = .ok (.aload_n 0, 1) := by decide +kernel
theorem dL_law_1118 : decode cL_law 1118 = .ok (.iload_n 3, 1) := by decide +kernel
theorem dL_law_1119 : decode cL_law 1119 = .ok (.iconst 5, 1) := by decide +kernel
theorem dL_law_1120 : decode cL_law 1120 = .ok (.iadd, 1) := by decide +kernel
theorem dL_law_1121 : decode cL_law 1121 = .ok (.iaload, 1) := by decide +kernel
theorem dL_law_1122 : decode cL_law 1122 = .ok (.invokevirtual 137, 3) := by decide +kernel
theorem dL_law_1125 : decode cL_law 1125 = .ok (.if_icmp .eq 156, 3) := by decide +kernel
theorem dL_law_1128 : decode cL_law 1128 = .ok (.iconst 0, 1) := by decide +kernel
theorem dL_law_1129 : decode cL_law 1129 = .ok (.ireturn, 1) := by decide +kernel
theorem dL_law_1130 : decode cL_law 1130 = .ok (.aload_n 1, 1) := by decide +kernel
theorem dL_law_1131 : decode cL_law 1131 = .ok (.aload_n 0, 1) := by decide +kernel
theorem dL_law_1132 : decode cL_law 1132 = .ok (.iload_n 3, 1) := by decide +kernel
theorem dL_law_1133 : decode cL_law 1133 = .ok (.iconst 1, 1) := by decide +kernel
theorem dL_law_1134 : decode cL_law 1134 = .ok (.iadd, 1) := by decide +kernel
theorem dL_law_1135 : decode cL_law 1135 = .ok (.iaload, 1) := by decide +kernel
theorem dL_law_1136 : decode cL_law 1136 = .ok (.aload_n 0, 1) := by decide +kernel
theorem dL_law_1137 : decode cL_law 1137 = .ok (.iload_n 3, 1) := by decide +kernel
theorem dL_law_1138 : decode cL_law 1138 = .ok (.iconst 2, 1) := by decide +kernel
theorem dL_law_1139 : decode cL_law 1139 = .ok (.iadd, 1) := by decide +kernel
theorem dL_law_1140 : decode cL_law 1140 = .ok (.iaload, 1) := by decide +kernel
theorem dL_law_1141 : decode cL_law 1141 = .ok (.invokevirtual 138, 3) := by decide +kernel
theorem dL_law_1144 : decode cL_law 1144 = .ok (.aload_n 2, 1) := by decide +kernel
theorem dL_law_1145 : decode cL_law 1145 = .ok (.aload_n 0, 1) := by decide +kernel
theorem dL_law_1146 : decode cL_law 1146 = .ok (.iload_n 3, 1) := by decide +kernel
theorem dL_law_1147 : decode cL_law 1147 = .ok (.iconst 1, 1) := by decide +kernel
theorem dL_law_1148 : decode cL_law 1148 = .ok (.iadd, 1) := by decide +kernel
theorem dL_law_1149 : decode cL_law 1149 = .ok (.iaload, 1) := by decide +kernel
theorem dL_law_1150 : decode cL_law 1150 = .ok (.aload_n 0, 1) := by decide +kernel
theorem dL_law_1151 : decode cL_law 1151 = .ok (.iload_n 3, 1) := by decide +kernel
theorem dL_law_1152 : decode cL_law 1152 = .ok (.iconst 2, 1) := by decide +kernel
theorem dL_law_1153 : decode cL_law 1153 = .ok (.iadd, 1) := by decide +kernel
theorem dL_law_1154 : decode cL_law 1154 = .ok (.iaload, 1) := by decide +kernel
theorem dL_law_1155 : decode cL_law 1155 = .ok (.invokevirtual 141, 3) := by decide +kernel
theorem dL_law_1158 : decode cL_law 1158 = .ok (.if_icmp .eq 123, 3) := by decide +kernel
theorem dL_law_1161 : decode cL_law 1161 = .ok (.iconst 0, 1) := by decide +kernel
theorem dL_law_1162 : decode cL_law 1162 = .ok (.ireturn, 1) := by decide +kernel
theorem dL_law_1163 : decode cL_law 1163 = .ok (.aload_n 1, 1) := by decide +kernel
theorem dL_law_1164 : decode cL_law 1164 = .ok (.invokevirtual 142, 3) := by decide +kernel
theorem dL_law_1167 : decode cL_law 1167 = .ok (.aload_n 2, 1) := by decide +kernel
theorem dL_law_1168 : decode cL_law 1168 = .ok (.invokevirtual 145, 3) := by decide +kernel
theorem dL_law_1171 : decode cL_law 1171 = .ok (.if_icmp .eq 110, 3) := by decide +kernel
theorem dL_law_1174 : decode cL_law 1174 = .ok (.iconst 0, 1) := by decide +kernel
theorem dL_law_1175 : decode cL_law 1175 = .ok (.ireturn, 1) := by decide +kernel
theorem dL_law_1176 : decode cL_law 1176 = .ok (.aload_n 1, 1) := by decide +kernel
theorem dL_law_1177 : decode cL_law 1177 = .ok (.invokevirtual 146, 3) := by decide +kernel
theorem dL_law_1180 : decode cL_law 1180 = .ok (.aload_n 2, 1) := by decide +kernel
theorem dL_law_1181 : decode cL_law 1181 = .ok (.invokevirtual 149, 3) := by decide +kernel
theorem dL_law_1184 : decode cL_law 1184 = .ok (.if_icmp .eq 97, 3) := by decide +kernel
theorem dL_law_1187 : decode cL_law 1187 = .ok (.iconst 0, 1) := by decide +kernel
theorem dL_law_1188 : decode cL_law 1188 = .ok (.ireturn, 1) := by decide +kernel
theorem dL_law_1189 : decode cL_law 1189 = .ok (.aload_n 1, 1) := by decide +kernel
theorem dL_law_1190 : decode cL_law 1190 = .ok (.aload_n 0, 1) := by decide +kernel
theorem dL_law_1191 : decode cL_law 1191 = .ok (.iload_n 3, 1) := by decide +kernel
theorem dL_law_1192 : decode cL_law 1192 = .ok (.iconst 1, 1) := by decide +kernel
theorem dL_law_1193 : decode cL_law 1193 = .ok (.iadd, 1) := by decide +kernel
theorem dL_law_1194 : decode cL_law 1194 = .ok (.iaload, 1) := by decide +kernel
theorem dL_law_1195 : decode cL_law 1195 = .ok (.invokevirtual 150, 3) := by decide +kernel
theorem dL_law_1198 : decode cL_law 1198 = .ok (.aload_n 2, 1) := by decide +kernel
theorem dL_law_1199 : decode cL_law 1199 = .ok (.aload_n 0, 1) := by decide +kernel
theorem dL_law_1200 : decode cL_law 1200 = .ok (.iload_n 3, 1) := by decide +kernel
theorem dL_law_1201 : decode cL_law 1201 = .ok (.iconst 1, 1) := by decide +kernel
theorem dL_law_1202 : decode cL_law 1202 = .ok (.iadd, 1) := by decide +kernel
theorem dL_law_1203 : decode cL_law 1203 = .ok (.iaload, 1) := by decide +kernel
theorem dL_law_1204 : decode cL_law 1204 = .ok (.invokevirtual 153, 3) := by decide +kernel
theorem dL_law_1207 : decode cL_law 1207 = .ok (.if_icmp .eq 74, 3) := by decide +kernel
theorem dL_law_1210 : decode cL_law 1210 = .ok (.iconst 0, 1) := by decide +kernel
theorem dL_law_1211 : decode cL_law 1211 = .ok (.ireturn, 1) := by decide +kernel
theorem dL_law_1212 : decode cL_law 1212 = .ok (.aload_n 1, 1) := by decide +kernel
theorem dL_law_1213 : decode cL_law 1213 = .ok (.aload_n 0, 1) := by decide +kernel
theorem dL_law_1214 : decode cL_law 1214 = .ok (.iload_n 3, 1) := by decide +kernel
theorem dL_law_1215 : decode cL_law 1215 = .ok (.iconst 1, 1) := by decide +kernel
theorem dL_law_1216 : decode cL_law 1216 = .ok (.iadd, 1) := by decide +kernel
theorem dL_law_1217 : decode cL_law 1217 = .ok (.iaload, 1) := by decide +kernel
theorem dL_law_1218 : decode cL_law 1218 = .ok (.invokevirtual 154, 3) := by decide +kernel
theorem dL_law_1221 : decode cL_law 1221 = .ok (.aload_n 2, 1) := by decide +kernel
theorem dL_law_1222 : decode cL_law 1222 = .ok (.aload_n 0, 1) := by decide +kernel
theorem dL_law_1223 : decode cL_law 1223 = .ok (.iload_n 3, 1) := by decide +kernel
theorem dL_law_1224 : decode cL_law 1224 = .ok (.iconst 1, 1) := by decide +kernel
theorem dL_law_1225 : decode cL_law 1225 = .ok (.iadd, 1) := by decide +kernel
theorem dL_law_1226 : decode cL_law 1226 = .ok (.iaload, 1) := by decide +kernel
theorem dL_law_1227 : decode cL_law 1227 = .ok (.invokevirtual 157, 3) := by decide +kernel
theorem dL_law_1230 : decode cL_law 1230 = .ok (.if_icmp .eq 51, 3) := by decide +kernel
theorem dL_law_1233 : decode cL_law 1233 = .ok (.iconst 0, 1) := by decide +kernel
theorem dL_law_1234 : decode cL_law 1234 = .ok (.ireturn, 1) := by decide +kernel
theorem dL_law_1235 : decode cL_law 1235 = .ok (.aload_n 1, 1) := by decide +kernel
theorem dL_law_1236 : decode cL_law 1236 = .ok (.aload_n 0, 1) := by decide +kernel
theorem dL_law_1237 : decode cL_law 1237 = .ok (.iload_n 3, 1) := by decide +kernel
theorem dL_law_1238 : decode cL_law 1238 = .ok (.iconst 1, 1) := by decide +kernel
theorem dL_law_1239 : decode cL_law 1239 = .ok (.iadd, 1) := by decide +kernel
theorem dL_law_1240 : decode cL_law 1240 = .ok (.iaload, 1) := by decide +kernel
theorem dL_law_1241 : decode cL_law 1241 = .ok (.invokevirtual 158, 3) := by decide +kernel
theorem dL_law_1244 : decode cL_law 1244 = .ok (.aload_n 2, 1) := by decide +kernel
theorem dL_law_1245 : decode cL_law 1245 = .ok (.aload_n 0, 1) := by decide +kernel
theorem dL_law_1246 : decode cL_law 1246 = .ok (.iload_n 3, 1) := by decide +kernel
theorem dL_law_1247 : decode cL_law 1247 = .ok (.iconst 1, 1) := by decide +kernel
theorem dL_law_1248 : decode cL_law 1248 = .ok (.iadd, 1) := by decide +kernel
theorem dL_law_1249 : decode cL_law 1249 = .ok (.iaload, 1) := by decide +kernel
theorem dL_law_1250 : decode cL_law 1250 = .ok (.invokevirtual 161, 3) := by decide +kernel
theorem dL_law_1253 : decode cL_law 1253 = .ok (.if_icmp .eq 28, 3) := by decide +kernel
theorem dL_law_1256 : decode cL_law 1256 = .ok (.iconst 0, 1) := by decide +kernel
theorem dL_law_1257 : decode cL_law 1257 = .ok (.ireturn, 1) := by decide +kernel
theorem dL_law_1258 : decode cL_law 1258 = .ok (.aload_n 1, 1) := by decide +kernel
theorem dL_law_1259 : decode cL_law 1259 = .ok (.aload_n 0, 1) := by decide +kernel
theorem dL_law_1260 : decode cL_law 1260 = .ok (.iload_n 3, 1) := by decide +kernel
theorem dL_law_1261 : decode cL_law 1261 = .ok (.iconst 1, 1) := by decide +kernel
theorem dL_law_1262 : decode cL_law 1262 = .ok (.iadd, 1) := by decide +kernel
theorem dL_law_1263 : decode cL_law 1263 = .ok (.iaload, 1) := by decide +kernel
theorem dL_law_1264 : decode cL_law 1264 = .ok (.invokevirtual 162, 3) := by decide +kernel
theorem dL_law_1267 : decode cL_law 1267 = .ok (.aload_n 2, 1) := by decide +kernel
theorem dL_law_1268 : decode cL_law 1268 = .ok (.aload_n 0, 1) := by decide +kernel
theorem dL_law_1269 : decode cL_law 1269 = .ok (.iload_n 3, 1) := by decide +kernel
theorem dL_law_1270 : decode cL_law 1270 = .ok (.iconst 1, 1) := by decide +kernel
theorem dL_law_1271 : decode cL_law 1271 = .ok (.iadd, 1) := by decide +kernel
theorem dL_law_1272 : decode cL_law 1272 = .ok (.iaload, 1) := by decide +kernel
theorem dL_law_1273 : decode cL_law 1273 = .ok (.invokevirtual 165, 3) := by decide +kernel
theorem dL_law_1276 : decode cL_law 1276 = .ok (.if_icmp .eq 5, 3) := by decide +kernel
theorem dL_law_1279 : decode cL_law 1279 = .ok (.iconst 0, 1) := by decide +kernel
theorem dL_law_1280 : decode cL_law 1280 = .ok (.ireturn, 1) := by decide +kernel
theorem dL_law_1281 : decode cL_law 1281 = .ok (.iinc 3 6, 3) := by decide +kernel
theorem dL_law_1284 : decode cL_law 1284 = .ok (.goto (-1266), 3) := by decide +kernel
theorem dL_law_1287 : decode cL_law 1287 = .ok (.iconst 1, 1) := by decide +kernel
theorem dL_law_1288 : decode cL_law 1288 = .ok (.ireturn, 1) := by decide +kernel
