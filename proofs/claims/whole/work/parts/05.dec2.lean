theorem dX7_forget_38 : decode cX7_forget 38 = .ok (.iadd, 1) := by decide +kernel
theorem dX7_forget_39 : decode cX7_forget 39 = .ok (.if_icmp .ge 90, 3) := by decide +kernel
theorem dX7_forget_42 : decode cX7_forget 42 = .ok (.aload_n 0, 1) := by decide +kernel
theorem dX7_forget_43 : decode cX7_forget 43 = .ok (.getfield 13, 3) := by decide +kernel
theorem dX7_forget_46 : decode cX7_forget 46 = .ok (.iload_n 2, 1) := by decide +kernel
theorem dX7_forget_47 : decode cX7_forget 47 = .ok (.iconst 2, 1) := by decide +kernel
theorem dX7_forget_48 : decode cX7_forget 48 = .ok (.iadd, 1) := by decide +kernel
theorem dX7_forget_49 : decode cX7_forget 49 = .ok (.iaload, 1) := by decide +kernel
theorem dX7_forget_50 : decode cX7_forget 50 = .ok (.iload_n 1, 1) := by decide +kernel
theorem dX7_forget_51 : decode cX7_forget 51 = .ok (.if_icmp .lt 72, 3) := by decide +kernel
theorem dX7_forget_54 : decode cX7_forget 54 = .ok (.iconst 4, 1) := by decide +kernel
theorem dX7_forget_55 : decode cX7_forget 55 = .ok (.iconst 3, 1) := by decide +kernel
theorem dX7_forget_56 : decode cX7_forget 56 = .ok (.aload_n 0, 1) := by decide +kernel
theorem dX7_forget_57 : decode cX7_forget 57 = .ok (.getfield 7, 3) := by decide +kernel
theorem dX7_forget_60 : decode cX7_forget 60 = .ok (.iconst 0, 1) := by decide +kernel
theorem dX7_forget_61 : decode cX7_forget 61 = .ok (.iaload, 1) := by decide +kernel
theorem dX7_forget_62 : decode cX7_forget 62 = .ok (.imul, 1) := by decide +kernel
theorem dX7_forget_63 : decode cX7_forget 63 = .ok (.iadd, 1) := by decide +kernel
theorem dX7_forget_64 : decode cX7_forget 64 = .ok (.istore_n 3, 1) := by decide +kernel
theorem dX7_forget_65 : decode cX7_forget 65 = .ok (.aload_n 0, 1) := by decide +kernel
theorem dX7_forget_66 : decode cX7_forget 66 = .ok (.getfield 7, 3) := by decide +kernel
theorem dX7_forget_69 : decode cX7_forget 69 = .ok (.iload_n 3, 1) := by decide +kernel
theorem dX7_forget_70 : decode cX7_forget 70 = .ok (.iconst 0, 1) := by decide +kernel
theorem dX7_forget_71 : decode cX7_forget 71 = .ok (.iadd, 1) := by decide +kernel
theorem dX7_forget_72 : decode cX7_forget 72 = .ok (.aload_n 0, 1) := by decide +kernel
theorem dX7_forget_73 : decode cX7_forget 73 = .ok (.getfield 13, 3) := by decide +kernel
theorem dX7_forget_76 : decode cX7_forget 76 = .ok (.iload_n 2, 1) := by decide +kernel
theorem dX7_forget_77 : decode cX7_forget 77 = .ok (.iconst 0, 1) := by decide +kernel
theorem dX7_forget_78 : decode cX7_forget 78 = .ok (.iadd, 1) := by decide +kernel
theorem dX7_forget_79 : decode cX7_forget 79 = .ok (.iaload, 1) := by decide +kernel
theorem dX7_forget_80 : decode cX7_forget 80 = .ok (.iastore, 1) := by decide +kernel
theorem dX7_forget_81 : decode cX7_forget 81 = .ok (.aload_n 0, 1) := by decide +kernel
theorem dX7_forget_82 : decode cX7_forget 82 = .ok (.getfield 7, 3) := by decide +kernel
theorem dX7_forget_85 : decode cX7_forget 85 = .ok (.iload_n 3, 1) := by decide +kernel
theorem dX7_forget_86 : decode cX7_forget 86 = .ok (.iconst 1, 1) := by decide +kernel
theorem dX7_forget_87 : decode cX7_forget 87 = .ok (.iadd, 1) := by decide +kernel
theorem dX7_forget_88 : decode cX7_forget 88 = .ok (.aload_n 0, 1) := by decide +kernel
theorem dX7_forget_89 : decode cX7_forget 89 = .ok (.getfield 13, 3) := by decide +kernel
theorem dX7_forget_92 : decode cX7_forget 92 = .ok (.iload_n 2, 1) := by decide +kernel
theorem dX7_forget_93 : decode cX7_forget 93 = .ok (.iconst 1, 1) := by decide +kernel
theorem dX7_forget_94 : decode cX7_forget 94 = .ok (.iadd, 1) := by decide +kernel
theorem dX7_forget_95 : decode cX7_forget 95 = .ok (.iaload, 1) := by decide +kernel
theorem dX7_forget_96 : decode cX7_forget 96 = .ok (.iastore, 1) := by decide +kernel
theorem dX7_forget_97 : decode cX7_forget 97 = .ok (.aload_n 0, 1) := by decide +kernel
theorem dX7_forget_98 : decode cX7_forget 98 = .ok (.getfield 7, 3) := by decide +kernel
theorem dX7_forget_101 : decode cX7_forget 101 = .ok (.iload_n 3, 1) := by decide +kernel
theorem dX7_forget_102 : decode cX7_forget 102 = .ok (.iconst 2, 1) := by decide +kernel
theorem dX7_forget_103 : decode cX7_forget 103 = .ok (.iadd, 1) := by decide +kernel
theorem dX7_forget_104 : decode cX7_forget 104 = .ok (.aload_n 0, 1) := by decide +kernel
theorem dX7_forget_105 : decode cX7_forget 105 = .ok (.getfield 13, 3) := by decide +kernel
theorem dX7_forget_108 : decode cX7_forget 108 = .ok (.iload_n 2, 1) := by decide +kernel
theorem dX7_forget_109 : decode cX7_forget 109 = .ok (.iconst 2, 1) := by decide +kernel
theorem dX7_forget_110 : decode cX7_forget 110 = .ok (.iadd, 1) := by decide +kernel
theorem dX7_forget_111 : decode cX7_forget 111 = .ok (.iaload, 1) := by decide +kernel
theorem dX7_forget_112 : decode cX7_forget 112 = .ok (.iastore, 1) := by decide +kernel
theorem dX7_forget_113 : decode cX7_forget 113 = .ok (.aload_n 0, 1) := by decide +kernel
theorem dX7_forget_114 : decode cX7_forget 114 = .ok (.getfield 7, 3) := by decide +kernel
theorem dX7_forget_117 : decode cX7_forget 117 = .ok (.iconst 0, 1) := by decide +kernel
theorem dX7_forget_118 : decode cX7_forget 118 = .ok (.dup2, 1) := by decide +kernel
theorem dX7_forget_119 : decode cX7_forget 119 = .ok (.iaload, 1) := by decide +kernel
theorem dX7_forget_120 : decode cX7_forget 120 = .ok (.iconst 1, 1) := by decide +kernel
theorem dX7_forget_121 : decode cX7_forget 121 = .ok (.iadd, 1) := by decide +kernel
theorem dX7_forget_122 : decode cX7_forget 122 = .ok (.iastore, 1) := by decide +kernel
theorem dX7_forget_123 : decode cX7_forget 123 = .ok (.iinc 2 3, 3) := by decide +kernel
theorem dX7_forget_126 : decode cX7_forget 126 = .ok (.goto (-98), 3) := by decide +kernel
theorem dX7_forget_129 : decode cX7_forget 129 = .ok (.aload_n 0, 1) := by decide +kernel
theorem dX7_forget_130 : decode cX7_forget 130 = .ok (.getfield 13, 3) := by decide +kernel
theorem dX7_forget_133 : decode cX7_forget 133 = .ok (.iconst 0, 1) := by decide +kernel
theorem dX7_forget_134 : decode cX7_forget 134 = .ok (.iaload, 1) := by decide +kernel
theorem dX7_forget_135 : decode cX7_forget 135 = .ok (.aload_n 0, 1) := by decide +kernel
theorem dX7_forget_136 : decode cX7_forget 136 = .ok (.getfield 7, 3) := by decide +kernel
theorem dX7_forget_139 : decode cX7_forget 139 = .ok (.iconst 0, 1) := by decide +kernel
theorem dX7_forget_140 : decode cX7_forget 140 = .ok (.iaload, 1) := by decide +kernel
theorem dX7_forget_141 : decode cX7_forget 141 = .ok (.isub, 1) := by decide +kernel
theorem dX7_forget_142 : decode cX7_forget 142 = .ok (.istore_n 2, 1) := by decide +kernel
theorem dX7_forget_143 : decode cX7_forget 143 = .ok (.iload_n 2, 1) := by decide +kernel
theorem dX7_forget_144 : decode cX7_forget 144 = .ok (.ifCond .ne 8, 3) := by decide +kernel
theorem dX7_forget_147 : decode cX7_forget 147 = .ok (.bipush (-5), 2) := by decide +kernel
theorem dX7_forget_149 : decode cX7_forget 149 = .ok (.goto 8, 3) := by decide +kernel
theorem dX7_forget_152 : decode cX7_forget 152 = .ok (.aload_n 0, 1) := by decide +kernel
theorem dX7_forget_153 : decode cX7_forget 153 = .ok (.iload_n 2, 1) := by decide +kernel
theorem dX7_forget_154 : decode cX7_forget 154 = .ok (.invokevirtual 127, 3) := by decide +kernel
theorem dX7_forget_157 : decode cX7_forget 157 = .ok (.ireturn, 1) := by decide +kernel
theorem dX7_setLateness_0 : decode cX7_setLateness 0 = .ok (.iload_n 1, 1) := by decide +kernel
theorem dX7_setLateness_1 : decode cX7_setLateness 1 = .ok (.i2l, 1) := by decide +kernel
theorem dX7_setLateness_2 : decode cX7_setLateness 2 = .ok (.lconst 0, 1) := by decide +kernel
theorem dX7_setLateness_3 : decode cX7_setLateness 3 = .ok (.ldc2_w 130, 3) := by decide +kernel
theorem dX7_setLateness_6 : decode cX7_setLateness 6 = .ok (.invokestatic 50, 3) := by decide +kernel
theorem dX7_setLateness_9 : decode cX7_setLateness 9 = .ok (.ifCond .ne 6, 3) := by decide +kernel
theorem dX7_setLateness_12 : decode cX7_setLateness 12 = .ok (.bipush (-2), 2) := by decide +kernel
theorem dX7_setLateness_14 : decode cX7_setLateness 14 = .ok (.ireturn, 1) := by decide +kernel
theorem dX7_setLateness_15 : decode cX7_setLateness 15 = .ok (.aload_n 0, 1) := by decide +kernel
theorem dX7_setLateness_16 : decode cX7_setLateness 16 = .ok (.getfield 7, 3) := by decide +kernel
theorem dX7_setLateness_19 : decode cX7_setLateness 19 = .ok (.iconst 2, 1) := by decide +kernel
theorem dX7_setLateness_20 : decode cX7_setLateness 20 = .ok (.iaload, 1) := by decide +kernel
theorem dX7_setLateness_21 : decode cX7_setLateness 21 = .ok (.istore_n 2, 1) := by decide +kernel
theorem dX7_setLateness_22 : decode cX7_setLateness 22 = .ok (.iload_n 2, 1) := by decide +kernel
theorem dX7_setLateness_23 : decode cX7_setLateness 23 = .ok (.iload_n 1, 1) := by decide +kernel
theorem dX7_setLateness_24 : decode cX7_setLateness 24 = .ok (.if_icmp .ne 6, 3) := by decide +kernel
theorem dX7_setLateness_27 : decode cX7_setLateness 27 = .ok (.bipush (-5), 2) := by decide +kernel
theorem dX7_setLateness_29 : decode cX7_setLateness 29 = .ok (.ireturn, 1) := by decide +kernel
theorem dX7_setLateness_30 : decode cX7_setLateness 30 = .ok (.aload_n 0, 1) := by decide +kernel
theorem dX7_setLateness_31 : decode cX7_setLateness 31 = .ok (.invokevirtual 120, 3) := by decide +kernel
theorem dX7_setLateness_34 : decode cX7_setLateness 34 = .ok (.aload_n 0, 1) := by decide +kernel
theorem dX7_setLateness_35 : decode cX7_setLateness 35 = .ok (.getfield 7, 3) := by decide +kernel
theorem dX7_setLateness_38 : decode cX7_setLateness 38 = .ok (.iconst 2, 1) := by decide +kernel
theorem dX7_setLateness_39 : decode cX7_setLateness 39 = .ok (.iload_n 1, 1) := by decide +kernel
theorem dX7_setLateness_40 : decode cX7_setLateness 40 = .ok (.iastore, 1) := by decide +kernel
theorem dX7_setLateness_41 : decode cX7_setLateness 41 = .ok (.aload_n 0, 1) := by decide +kernel
theorem dX7_setLateness_42 : decode cX7_setLateness 42 = .ok (.iload_n 2, 1) := by decide +kernel
theorem dX7_setLateness_43 : decode cX7_setLateness 43 = .ok (.invokevirtual 127, 3) := by decide +kernel
theorem dX7_setLateness_46 : decode cX7_setLateness 46 = .ok (.ireturn, 1) := by decide +kernel
theorem dX7_type_0 : decode cX7_type 0 = .ok (.aload_n 0, 1) := by decide +kernel
theorem dX7_type_1 : decode cX7_type 1 = .ok (.getfield 132, 3) := by decide +kernel
theorem dX7_type_4 : decode cX7_type 4 = .ok (.bipush 80, 2) := by decide +kernel
theorem dX7_type_6 : decode cX7_type 6 = .ok (.if_icmp .ne 6, 3) := by decide +kernel
theorem dX7_type_9 : decode cX7_type 9 = .ok (.bipush (-3), 2) := by decide +kernel
theorem dX7_type_11 : decode cX7_type 11 = .ok (.ireturn, 1) := by decide +kernel
theorem dX7_type_12 : decode cX7_type 12 = .ok (.aload_n 0, 1) := by decide +kernel
theorem dX7_type_13 : decode cX7_type 13 = .ok (.getfield 40, 3) := by decide +kernel
theorem dX7_type_16 : decode cX7_type 16 = .ok (.aload_n 0, 1) := by decide +kernel
theorem dX7_type_17 : decode cX7_type 17 = .ok (.getfield 132, 3) := by decide +kernel
theorem dX7_type_20 : decode cX7_type 20 = .ok (.iload_n 1, 1) := by decide +kernel
theorem dX7_type_21 : decode cX7_type 21 = .ok (.iastore, 1) := by decide +kernel
theorem dX7_type_22 : decode cX7_type 22 = .ok (.aload_n 0, 1) := by decide +kernel
theorem dX7_type_23 : decode cX7_type 23 = .ok (.dup, 1) := by decide +kernel
theorem dX7_type_24 : decode cX7_type 24 = .ok (.getfield 132, 3) := by decide +kernel
theorem dX7_type_27 : decode cX7_type 27 = .ok (.iconst 1, 1) := by decide +kernel
theorem dX7_type_28 : decode cX7_type 28 = .ok (.iadd, 1) := by decide +kernel
theorem dX7_type_29 : decode cX7_type 29 = .ok (.putfield 132, 3) := by decide +kernel
theorem dX7_type_32 : decode cX7_type 32 = .ok (.aload_n 0, 1) := by decide +kernel
theorem dX7_type_33 : decode cX7_type 33 = .ok (.getfield 132, 3) := by decide +kernel
theorem dX7_type_36 : decode cX7_type 36 = .ok (.ireturn, 1) := by decide +kernel
theorem dX7_clearText_0 : decode cX7_clearText 0 = .ok (.aload_n 0, 1) := by decide +kernel
theorem dX7_clearText_1 : decode cX7_clearText 1 = .ok (.getfield 132, 3) := by decide +kernel
theorem dX7_clearText_4 : decode cX7_clearText 4 = .ok (.istore_n 1, 1) := by decide +kernel
theorem dX7_clearText_5 : decode cX7_clearText 5 = .ok (.aload_n 0, 1) := by decide +kernel
theorem dX7_clearText_6 : decode cX7_clearText 6 = .ok (.iconst 0, 1) := by decide +kernel
theorem dX7_clearText_7 : decode cX7_clearText 7 = .ok (.putfield 132, 3) := by decide +kernel
theorem dX7_clearText_10 : decode cX7_clearText 10 = .ok (.iload_n 1, 1) := by decide +kernel
theorem dX7_clearText_11 : decode cX7_clearText 11 = .ok (.ireturn, 1) := by decide +kernel
theorem dX7_isHere_0 : decode cX7_isHere 0 = .ok (.aload_n 0, 1) := by decide +kernel
theorem dX7_isHere_1 : decode cX7_isHere 1 = .ok (.getfield 135, 3) := by decide +kernel
theorem dX7_isHere_4 : decode cX7_isHere 4 = .ok (.aload_n 0, 1) := by decide +kernel
theorem dX7_isHere_5 : decode cX7_isHere 5 = .ok (.getfield 132, 3) := by decide +kernel
theorem dX7_isHere_8 : decode cX7_isHere 8 = .ok (.if_icmp .ge 27, 3) := by decide +kernel
theorem dX7_isHere_11 : decode cX7_isHere 11 = .ok (.aload_n 0, 1) := by decide +kernel
theorem dX7_isHere_12 : decode cX7_isHere 12 = .ok (.getfield 40, 3) := by decide +kernel
theorem dX7_isHere_15 : decode cX7_isHere 15 = .ok (.aload_n 0, 1) := by decide +kernel
theorem dX7_isHere_16 : decode cX7_isHere 16 = .ok (.getfield 135, 3) := by decide +kernel
theorem dX7_isHere_19 : decode cX7_isHere 19 = .ok (.iaload, 1) := by decide +kernel
theorem dX7_isHere_20 : decode cX7_isHere 20 = .ok (.i2l, 1) := by decide +kernel
theorem dX7_isHere_21 : decode cX7_isHere 21 = .ok (.iload_n 1, 1) := by decide +kernel
theorem dX7_isHere_22 : decode cX7_isHere 22 = .ok (.i2l, 1) := by decide +kernel
theorem dX7_isHere_23 : decode cX7_isHere 23 = .ok (.iload_n 2, 1) := by decide +kernel
theorem dX7_isHere_24 : decode cX7_isHere 24 = .ok (.i2l, 1) := by decide +kernel
theorem dX7_isHere_25 : decode cX7_isHere 25 = .ok (.invokestatic 50, 3) := by decide +kernel
theorem dX7_isHere_28 : decode cX7_isHere 28 = .ok (.ifCond .eq 7, 3) := by decide +kernel
theorem dX7_isHere_31 : decode cX7_isHere 31 = .ok (.iconst 1, 1) := by decide +kernel
theorem dX7_isHere_32 : decode cX7_isHere 32 = .ok (.goto 4, 3) := by decide +kernel
theorem dX7_isHere_35 : decode cX7_isHere 35 = .ok (.iconst 0, 1) := by decide +kernel
theorem dX7_isHere_36 : decode cX7_isHere 36 = .ok (.ireturn, 1) := by decide +kernel
theorem dX7_takes_0 : decode cX7_takes 0 = .ok (.aload_n 0, 1) := by decide +kernel
theorem dX7_takes_1 : decode cX7_takes 1 = .ok (.iload_n 1, 1) := by decide +kernel
theorem dX7_takes_2 : decode cX7_takes 2 = .ok (.iload_n 1, 1) := by decide +kernel
theorem dX7_takes_3 : decode cX7_takes 3 = .ok (.invokevirtual 138, 3) := by decide +kernel
theorem dX7_takes_6 : decode cX7_takes 6 = .ok (.istore_n 2, 1) := by decide +kernel
theorem dX7_takes_7 : decode cX7_takes 7 = .ok (.aload_n 0, 1) := by decide +kernel
theorem dX7_takes_8 : decode cX7_takes 8 = .ok (.dup, 1) := by decide +kernel
theorem dX7_takes_9 : decode cX7_takes 9 = .ok (.getfield 135, 3) := by decide +kernel
theorem dX7_takes_12 : decode cX7_takes 12 = .ok (.iload_n 2, 1) := by decide +kernel
theorem dX7_takes_13 : decode cX7_takes 13 = .ok (.ifCond .eq 7, 3) := by decide +kernel
theorem dX7_takes_16 : decode cX7_takes 16 = .ok (.iconst 1, 1) := by decide +kernel
theorem dX7_takes_17 : decode cX7_takes 17 = .ok (.goto 4, 3) := by decide +kernel
theorem dX7_takes_20 : decode cX7_takes 20 = .ok (.iconst 0, 1) := by decide +kernel
theorem dX7_takes_21 : decode cX7_takes 21 = .ok (.iadd, 1) := by decide +kernel
theorem dX7_takes_22 : decode cX7_takes 22 = .ok (.putfield 135, 3) := by decide +kernel
theorem dX7_takes_25 : decode cX7_takes 25 = .ok (.iload_n 2, 1) := by decide +kernel
theorem dX7_takes_26 : decode cX7_takes 26 = .ok (.ireturn, 1) := by decide +kernel
theorem dX7_takesWord_0 : decode cX7_takesWord 0 = .ok (.iconst 1, 1) := by decide +kernel
theorem dX7_takesWord_1 : decode cX7_takesWord 1 = .ok (.istore 4, 2) := by decide +kernel
theorem dX7_takesWord_3 : decode cX7_takesWord 3 = .ok (.bipush 8, 2) := by decide +kernel
theorem dX7_takesWord_5 : decode cX7_takesWord 5 = .ok (.iload_n 3, 1) := by decide +kernel
theorem dX7_takesWord_6 : decode cX7_takesWord 6 = .ok (.iconst 1, 1) := by decide +kernel
theorem dX7_takesWord_7 : decode cX7_takesWord 7 = .ok (.isub, 1) := by decide +kernel
theorem dX7_takesWord_8 : decode cX7_takesWord 8 = .ok (.imul, 1) := by decide +kernel
theorem dX7_takesWord_9 : decode cX7_takesWord 9 = .ok (.istore 5, 2) := by decide +kernel
theorem dX7_takesWord_11 : decode cX7_takesWord 11 = .ok (.iload 5, 2) := by decide +kernel
theorem dX7_takesWord_13 : decode cX7_takesWord 13 = .ok (.ifCond .lt 29, 3) := by decide +kernel
theorem dX7_takesWord_16 : decode cX7_takesWord 16 = .ok (.iload 4, 2) := by decide +kernel
theorem dX7_takesWord_18 : decode cX7_takesWord 18 = .ok (.ifCond .eq 24, 3) := by decide +kernel
theorem dX7_takesWord_21 : decode cX7_takesWord 21 = .ok (.aload_n 0, 1) := by decide +kernel
theorem dX7_takesWord_22 : decode cX7_takesWord 22 = .ok (.lload_n 1, 1) := by decide +kernel
theorem dX7_takesWord_23 : decode cX7_takesWord 23 = .ok (.iload 5, 2) := by decide +kernel
theorem dX7_takesWord_25 : decode cX7_takesWord 25 = .ok (.lshr, 1) := by decide +kernel
theorem dX7_takesWord_26 : decode cX7_takesWord 26 = .ok (.ldc2_w 141, 3) := by decide +kernel
theorem dX7_takesWord_29 : decode cX7_takesWord 29 = .ok (.land, 1) := by decide +kernel
theorem dX7_takesWord_30 : decode cX7_takesWord 30 = .ok (.l2i, 1) := by decide +kernel
theorem dX7_takesWord_31 : decode cX7_takesWord 31 = .ok (.invokevirtual 143, 3) := by decide +kernel
theorem dX7_takesWord_34 : decode cX7_takesWord 34 = .ok (.istore 4, 2) := by decide +kernel
theorem dX7_takesWord_36 : decode cX7_takesWord 36 = .ok (.iinc 5 (-8), 3) := by decide +kernel
theorem dX7_takesWord_39 : decode cX7_takesWord 39 = .ok (.goto (-28), 3) := by decide +kernel
theorem dX7_takesWord_42 : decode cX7_takesWord 42 = .ok (.iload 4, 2) := by decide +kernel
theorem dX7_takesWord_44 : decode cX7_takesWord 44 = .ok (.ireturn, 1) := by decide +kernel
theorem dX7_readsWindow_0 : decode cX7_readsWindow 0 = .ok (.aload_n 0, 1) := by decide +kernel
theorem dX7_readsWindow_1 : decode cX7_readsWindow 1 = .ok (.bipush 49, 2) := by decide +kernel
theorem dX7_readsWindow_3 : decode cX7_readsWindow 3 = .ok (.bipush 57, 2) := by decide +kernel
theorem dX7_readsWindow_5 : decode cX7_readsWindow 5 = .ok (.invokevirtual 138, 3) := by decide +kernel
theorem dX7_readsWindow_8 : decode cX7_readsWindow 8 = .ok (.ifCond .ne 5, 3) := by decide +kernel
theorem dX7_readsWindow_11 : decode cX7_readsWindow 11 = .ok (.iconst 0, 1) := by decide +kernel
theorem dX7_readsWindow_12 : decode cX7_readsWindow 12 = .ok (.ireturn, 1) := by decide +kernel
theorem dX7_readsWindow_13 : decode cX7_readsWindow 13 = .ok (.aload_n 0, 1) := by decide +kernel
theorem dX7_readsWindow_14 : decode cX7_readsWindow 14 = .ok (.getfield 40, 3) := by decide +kernel
theorem dX7_readsWindow_17 : decode cX7_readsWindow 17 = .ok (.aload_n 0, 1) := by decide +kernel
theorem dX7_readsWindow_18 : decode cX7_readsWindow 18 = .ok (.getfield 135, 3) := by decide +kernel
theorem dX7_readsWindow_21 : decode cX7_readsWindow 21 = .ok (.iaload, 1) := by decide +kernel
theorem dX7_readsWindow_22 : decode cX7_readsWindow 22 = .ok (.bipush 48, 2) := by decide +kernel
theorem dX7_readsWindow_24 : decode cX7_readsWindow 24 = .ok (.isub, 1) := by decide +kernel
theorem dX7_readsWindow_25 : decode cX7_readsWindow 25 = .ok (.istore_n 1, 1) := by decide +kernel
theorem dX7_readsWindow_26 : decode cX7_readsWindow 26 = .ok (.aload_n 0, 1) := by decide +kernel
theorem dX7_readsWindow_27 : decode cX7_readsWindow 27 = .ok (.dup, 1) := by decide +kernel
theorem dX7_readsWindow_28 : decode cX7_readsWindow 28 = .ok (.getfield 135, 3) := by decide +kernel
theorem dX7_readsWindow_31 : decode cX7_readsWindow 31 = .ok (.iconst 1, 1) := by decide +kernel
theorem dX7_readsWindow_32 : decode cX7_readsWindow 32 = .ok (.iadd, 1) := by decide +kernel
theorem dX7_readsWindow_33 : decode cX7_readsWindow 33 = .ok (.putfield 135, 3) := by decide +kernel
theorem dX7_readsWindow_36 : decode cX7_readsWindow 36 = .ok (.aload_n 0, 1) := by decide +kernel
theorem dX7_readsWindow_37 : decode cX7_readsWindow 37 = .ok (.bipush 48, 2) := by decide +kernel
theorem dX7_readsWindow_39 : decode cX7_readsWindow 39 = .ok (.bipush 57, 2) := by decide +kernel
theorem dX7_readsWindow_41 : decode cX7_readsWindow 41 = .ok (.invokevirtual 138, 3) := by decide +kernel
theorem dX7_readsWindow_44 : decode cX7_readsWindow 44 = .ok (.ifCond .eq 57, 3) := by decide +kernel
theorem dX7_readsWindow_47 : decode cX7_readsWindow 47 = .ok (.bipush 10, 2) := by decide +kernel
theorem dX7_readsWindow_49 : decode cX7_readsWindow 49 = .ok (.iload_n 1, 1) := by decide +kernel
theorem dX7_readsWindow_50 : decode cX7_readsWindow 50 = .ok (.imul, 1) := by decide +kernel
theorem dX7_readsWindow_51 : decode cX7_readsWindow 51 = .ok (.aload_n 0, 1) := by decide +kernel
theorem dX7_readsWindow_52 : decode cX7_readsWindow 52 = .ok (.getfield 40, 3) := by decide +kernel
theorem dX7_readsWindow_55 : decode cX7_readsWindow 55 = .ok (.aload_n 0, 1) := by decide +kernel
theorem dX7_readsWindow_56 : decode cX7_readsWindow 56 = .ok (.getfield 135, 3) := by decide +kernel
theorem dX7_readsWindow_59 : decode cX7_readsWindow 59 = .ok (.iaload, 1) := by decide +kernel
theorem dX7_readsWindow_60 : decode cX7_readsWindow 60 = .ok (.iadd, 1) := by decide +kernel
theorem dX7_readsWindow_61 : decode cX7_readsWindow 61 = .ok (.bipush 48, 2) := by decide +kernel
theorem dX7_readsWindow_63 : decode cX7_readsWindow 63 = .ok (.isub, 1) := by decide +kernel
theorem dX7_readsWindow_64 : decode cX7_readsWindow 64 = .ok (.sipush 1000, 3) := by decide +kernel
theorem dX7_readsWindow_67 : decode cX7_readsWindow 67 = .ok (.if_icmp .gt 34, 3) := by decide +kernel
theorem dX7_readsWindow_70 : decode cX7_readsWindow 70 = .ok (.bipush 10, 2) := by decide +kernel
theorem dX7_readsWindow_72 : decode cX7_readsWindow 72 = .ok (.iload_n 1, 1) := by decide +kernel
theorem dX7_readsWindow_73 : decode cX7_readsWindow 73 = .ok (.imul, 1) := by decide +kernel
theorem dX7_readsWindow_74 : decode cX7_readsWindow 74 = .ok (.aload_n 0, 1) := by decide +kernel
theorem dX7_readsWindow_75 : decode cX7_readsWindow 75 = .ok (.getfield 40, 3) := by decide +kernel
theorem dX7_readsWindow_78 : decode cX7_readsWindow 78 = .ok (.aload_n 0, 1) := by decide +kernel
theorem dX7_readsWindow_79 : decode cX7_readsWindow 79 = .ok (.getfield 135, 3) := by decide +kernel
theorem dX7_readsWindow_82 : decode cX7_readsWindow 82 = .ok (.iaload, 1) := by decide +kernel
theorem dX7_readsWindow_83 : decode cX7_readsWindow 83 = .ok (.iadd, 1) := by decide +kernel
theorem dX7_readsWindow_84 : decode cX7_readsWindow 84 = .ok (.bipush 48, 2) := by decide +kernel
theorem dX7_readsWindow_86 : decode cX7_readsWindow 86 = .ok (.isub, 1) := by decide +kernel
theorem dX7_readsWindow_87 : decode cX7_readsWindow 87 = .ok (.istore_n 1, 1) := by decide +kernel
theorem dX7_readsWindow_88 : decode cX7_readsWindow 88 = .ok (.aload_n 0, 1) := by decide +kernel
theorem dX7_readsWindow_89 : decode cX7_readsWindow 89 = .ok (.dup, 1) := by decide +kernel
theorem dX7_readsWindow_90 : decode cX7_readsWindow 90 = .ok (.getfield 135, 3) := by decide +kernel
theorem dX7_readsWindow_93 : decode cX7_readsWindow 93 = .ok (.iconst 1, 1) := by decide +kernel
theorem dX7_readsWindow_94 : decode cX7_readsWindow 94 = .ok (.iadd, 1) := by decide +kernel
theorem dX7_readsWindow_95 : decode cX7_readsWindow 95 = .ok (.putfield 135, 3) := by decide +kernel
theorem dX7_readsWindow_98 : decode cX7_readsWindow 98 = .ok (.goto (-62), 3) := by decide +kernel
theorem dX7_readsWindow_101 : decode cX7_readsWindow 101 = .ok (.aload_n 0, 1) := by decide +kernel
theorem dX7_readsWindow_102 : decode cX7_readsWindow 102 = .ok (.getfield 43, 3) := by decide +kernel
theorem dX7_readsWindow_105 : decode cX7_readsWindow 105 = .ok (.iconst 0, 1) := by decide +kernel
theorem dX7_readsWindow_106 : decode cX7_readsWindow 106 = .ok (.iload_n 1, 1) := by decide +kernel
theorem dX7_readsWindow_107 : decode cX7_readsWindow 107 = .ok (.iastore, 1) := by decide +kernel
theorem dX7_readsWindow_108 : decode cX7_readsWindow 108 = .ok (.iconst 1, 1) := by decide +kernel
theorem dX7_readsWindow_109 : decode cX7_readsWindow 109 = .ok (.ireturn, 1) := by decide +kernel
theorem dX7_readsRule_0 : decode cX7_readsRule 0 = .ok (.aload_n 0, 1) := by decide +kernel
theorem dX7_readsRule_1 : decode cX7_readsRule 1 = .ok (.getfield 43, 3) := by decide +kernel
theorem dX7_readsRule_4 : decode cX7_readsRule 4 = .ok (.iconst 1, 1) := by decide +kernel
theorem dX7_readsRule_5 : decode cX7_readsRule 5 = .ok (.iconst 0, 1) := by decide +kernel
theorem dX7_readsRule_6 : decode cX7_readsRule 6 = .ok (.iastore, 1) := by decide +kernel
theorem dX7_readsRule_7 : decode cX7_readsRule 7 = .ok (.aload_n 0, 1) := by decide +kernel
theorem dX7_readsRule_8 : decode cX7_readsRule 8 = .ok (.bipush 114, 2) := by decide +kernel
theorem dX7_readsRule_10 : decode cX7_readsRule 10 = .ok (.bipush 114, 2) := by decide +kernel
theorem dX7_readsRule_12 : decode cX7_readsRule 12 = .ok (.invokevirtual 138, 3) := by decide +kernel
theorem dX7_readsRule_15 : decode cX7_readsRule 15 = .ok (.ifCond .eq 20, 3) := by decide +kernel
theorem dX7_readsRule_18 : decode cX7_readsRule 18 = .ok (.aload_n 0, 1) := by decide +kernel
theorem dX7_readsRule_19 : decode cX7_readsRule 19 = .ok (.getfield 43, 3) := by decide +kernel
theorem dX7_readsRule_22 : decode cX7_readsRule 22 = .ok (.iconst 1, 1) := by decide +kernel
theorem dX7_readsRule_23 : decode cX7_readsRule 23 = .ok (.iconst 1, 1) := by decide +kernel
theorem dX7_readsRule_24 : decode cX7_readsRule 24 = .ok (.iastore, 1) := by decide +kernel
theorem dX7_readsRule_25 : decode cX7_readsRule 25 = .ok (.aload_n 0, 1) := by decide +kernel
theorem dX7_readsRule_26 : decode cX7_readsRule 26 = .ok (.ldc2_w 146, 3) := by decide +kernel
theorem dX7_readsRule_29 : decode cX7_readsRule 29 = .ok (.bipush 7, 2) := by decide +kernel
theorem dX7_readsRule_31 : decode cX7_readsRule 31 = .ok (.invokevirtual 148, 3) := by decide +kernel
theorem dX7_readsRule_34 : decode cX7_readsRule 34 = .ok (.ireturn, 1) := by decide +kernel
theorem dX7_readsRule_35 : decode cX7_readsRule 35 = .ok (.aload_n 0, 1) := by decide +kernel
theorem dX7_readsRule_36 : decode cX7_readsRule 36 = .ok (.bipush 97, 2) := by decide +kernel
theorem dX7_readsRule_38 : decode cX7_readsRule 38 = .ok (.bipush 97, 2) := by decide +kernel
theorem dX7_readsRule_40 : decode cX7_readsRule 40 = .ok (.invokevirtual 138, 3) := by decide +kernel
theorem dX7_readsRule_43 : decode cX7_readsRule 43 = .ok (.ifCond .eq 49, 3) := by decide +kernel
theorem dX7_readsRule_46 : decode cX7_readsRule 46 = .ok (.aload_n 0, 1) := by decide +kernel
theorem dX7_readsRule_47 : decode cX7_readsRule 47 = .ok (.getfield 135, 3) := by decide +kernel
theorem dX7_readsRule_50 : decode cX7_readsRule 50 = .ok (.iconst 1, 1) := by decide +kernel
theorem dX7_readsRule_51 : decode cX7_readsRule 51 = .ok (.iadd, 1) := by decide +kernel
theorem dX7_readsRule_52 : decode cX7_readsRule 52 = .ok (.aload_n 0, 1) := by decide +kernel
theorem dX7_readsRule_53 : decode cX7_readsRule 53 = .ok (.getfield 132, 3) := by decide +kernel
theorem dX7_readsRule_56 : decode cX7_readsRule 56 = .ok (.if_icmp .ge 36, 3) := by decide +kernel
theorem dX7_readsRule_59 : decode cX7_readsRule 59 = .ok (.aload_n 0, 1) := by decide +kernel
theorem dX7_readsRule_60 : decode cX7_readsRule 60 = .ok (.getfield 40, 3) := by decide +kernel
theorem dX7_readsRule_63 : decode cX7_readsRule 63 = .ok (.aload_n 0, 1) := by decide +kernel
theorem dX7_readsRule_64 : decode cX7_readsRule 64 = .ok (.getfield 135, 3) := by decide +kernel
theorem dX7_readsRule_67 : decode cX7_readsRule 67 = .ok (.iconst 1, 1) := by decide +kernel
theorem dX7_readsRule_68 : decode cX7_readsRule 68 = .ok (.iadd, 1) := by decide +kernel
theorem dX7_readsRule_69 : decode cX7_readsRule 69 = .ok (.iaload, 1) := by decide +kernel
theorem dX7_readsRule_70 : decode cX7_readsRule 70 = .ok (.bipush 108, 2) := by decide +kernel
theorem dX7_readsRule_72 : decode cX7_readsRule 72 = .ok (.if_icmp .ne 20, 3) := by decide +kernel
theorem dX7_readsRule_75 : decode cX7_readsRule 75 = .ok (.aload_n 0, 1) := by decide +kernel
theorem dX7_readsRule_76 : decode cX7_readsRule 76 = .ok (.getfield 43, 3) := by decide +kernel
theorem dX7_readsRule_79 : decode cX7_readsRule 79 = .ok (.iconst 1, 1) := by decide +kernel
theorem dX7_readsRule_80 : decode cX7_readsRule 80 = .ok (.iconst 2, 1) := by decide +kernel
theorem dX7_readsRule_81 : decode cX7_readsRule 81 = .ok (.iastore, 1) := by decide +kernel
theorem dX7_readsRule_82 : decode cX7_readsRule 82 = .ok (.aload_n 0, 1) := by decide +kernel
theorem dX7_readsRule_83 : decode cX7_readsRule 83 = .ok (.ldc2_w 152, 3) := by decide +kernel
theorem dX7_readsRule_86 : decode cX7_readsRule 86 = .ok (.bipush 6, 2) := by decide +kernel
theorem dX7_readsRule_88 : decode cX7_readsRule 88 = .ok (.invokevirtual 148, 3) := by decide +kernel
theorem dX7_readsRule_91 : decode cX7_readsRule 91 = .ok (.ireturn, 1) := by decide +kernel
theorem dX7_readsRule_92 : decode cX7_readsRule 92 = .ok (.iconst 1, 1) := by decide +kernel
theorem dX7_readsRule_93 : decode cX7_readsRule 93 = .ok (.ireturn, 1) := by decide +kernel
theorem dX7_isBehindAbsent_0 : decode cX7_isBehindAbsent 0 = .ok (.aload_n 0, 1) := by decide +kernel
theorem dX7_isBehindAbsent_1 : decode cX7_isBehindAbsent 1 = .ok (.getfield 43, 3) := by decide +kernel
theorem dX7_isBehindAbsent_4 : decode cX7_isBehindAbsent 4 = .ok (.iconst 2, 1) := by decide +kernel
theorem dX7_isBehindAbsent_5 : decode cX7_isBehindAbsent 5 = .ok (.iaload, 1) := by decide +kernel
theorem dX7_isBehindAbsent_6 : decode cX7_isBehindAbsent 6 = .ok (.ifCond .le 27, 3) := by decide +kernel
theorem dX7_isBehindAbsent_9 : decode cX7_isBehindAbsent 9 = .ok (.aload_n 0, 1) := by decide +kernel
theorem dX7_isBehindAbsent_10 : decode cX7_isBehindAbsent 10 = .ok (.getfield 43, 3) := by decide +kernel
theorem dX7_isBehindAbsent_13 : decode cX7_isBehindAbsent 13 = .ok (.iconst 3, 1) := by decide +kernel
theorem dX7_isBehindAbsent_14 : decode cX7_isBehindAbsent 14 = .ok (.aload_n 0, 1) := by decide +kernel
theorem dX7_isBehindAbsent_15 : decode cX7_isBehindAbsent 15 = .ok (.getfield 43, 3) := by decide +kernel
theorem dX7_isBehindAbsent_18 : decode cX7_isBehindAbsent 18 = .ok (.iconst 2, 1) := by decide +kernel
theorem dX7_isBehindAbsent_19 : decode cX7_isBehindAbsent 19 = .ok (.iaload, 1) := by decide +kernel
theorem dX7_isBehindAbsent_20 : decode cX7_isBehindAbsent 20 = .ok (.iadd, 1) := by decide +kernel
theorem dX7_isBehindAbsent_21 : decode cX7_isBehindAbsent 21 = .ok (.iconst 1, 1) := by decide +kernel
theorem dX7_isBehindAbsent_22 : decode cX7_isBehindAbsent 22 = .ok (.isub, 1) := by decide +kernel
theorem dX7_isBehindAbsent_23 : decode cX7_isBehindAbsent 23 = .ok (.iaload, 1) := by decide +kernel
theorem dX7_isBehindAbsent_24 : decode cX7_isBehindAbsent 24 = .ok (.bipush 8, 2) := by decide +kernel
theorem dX7_isBehindAbsent_26 : decode cX7_isBehindAbsent 26 = .ok (.if_icmp .lt 7, 3) := by decide +kernel
theorem dX7_isBehindAbsent_29 : decode cX7_isBehindAbsent 29 = .ok (.iconst 1, 1) := by decide +kernel
theorem dX7_isBehindAbsent_30 : decode cX7_isBehindAbsent 30 = .ok (.goto 4, 3) := by decide +kernel
theorem dX7_isBehindAbsent_33 : decode cX7_isBehindAbsent 33 = .ok (.iconst 0, 1) := by decide +kernel
theorem dX7_isBehindAbsent_34 : decode cX7_isBehindAbsent 34 = .ok (.ireturn, 1) := by decide +kernel
theorem dX7_readsStep_0 : decode cX7_readsStep 0 = .ok (.aload_n 0, 1) := by decide +kernel
theorem dX7_readsStep_1 : decode cX7_readsStep 1 = .ok (.getfield 43, 3) := by decide +kernel
theorem dX7_readsStep_4 : decode cX7_readsStep 4 = .ok (.iconst 2, 1) := by decide +kernel
theorem dX7_readsStep_5 : decode cX7_readsStep 5 = .ok (.iaload, 1) := by decide +kernel
theorem dX7_readsStep_6 : decode cX7_readsStep 6 = .ok (.ifCond .le 23, 3) := by decide +kernel
theorem dX7_readsStep_9 : decode cX7_readsStep 9 = .ok (.aload_n 0, 1) := by decide +kernel
theorem dX7_readsStep_10 : decode cX7_readsStep 10 = .ok (.invokevirtual 154, 3) := by decide +kernel
theorem dX7_readsStep_13 : decode cX7_readsStep 13 = .ok (.ifCond .ne 16, 3) := by decide +kernel
theorem dX7_readsStep_16 : decode cX7_readsStep 16 = .ok (.aload_n 0, 1) := by decide +kernel
theorem dX7_readsStep_17 : decode cX7_readsStep 17 = .ok (.bipush 110, 2) := by decide +kernel
theorem dX7_readsStep_19 : decode cX7_readsStep 19 = .ok (.invokevirtual 143, 3) := by decide +kernel
theorem dX7_readsStep_22 : decode cX7_readsStep 22 = .ok (.ifCond .eq 7, 3) := by decide +kernel
theorem dX7_readsStep_25 : decode cX7_readsStep 25 = .ok (.iconst 1, 1) := by decide +kernel
theorem dX7_readsStep_26 : decode cX7_readsStep 26 = .ok (.goto 4, 3) := by decide +kernel
theorem dX7_readsStep_29 : decode cX7_readsStep 29 = .ok (.iconst 0, 1) := by decide +kernel
theorem dX7_readsStep_30 : decode cX7_readsStep 30 = .ok (.istore_n 1, 1) := by decide +kernel
theorem dX7_readsStep_31 : decode cX7_readsStep 31 = .ok (.iload_n 1, 1) := by decide +kernel
theorem dX7_readsStep_32 : decode cX7_readsStep 32 = .ok (.ifCond .eq 23, 3) := by decide +kernel
theorem dX7_readsStep_35 : decode cX7_readsStep 35 = .ok (.aload_n 0, 1) := by decide +kernel
theorem dX7_readsStep_36 : decode cX7_readsStep 36 = .ok (.bipush 111, 2) := by decide +kernel
theorem dX7_readsStep_38 : decode cX7_readsStep 38 = .ok (.invokevirtual 143, 3) := by decide +kernel
theorem dX7_readsStep_41 : decode cX7_readsStep 41 = .ok (.ifCond .eq 12, 3) := by decide +kernel
theorem dX7_readsStep_44 : decode cX7_readsStep 44 = .ok (.aload_n 0, 1) := by decide +kernel
theorem dX7_readsStep_45 : decode cX7_readsStep 45 = .ok (.bipush 32, 2) := by decide +kernel
theorem dX7_readsStep_47 : decode cX7_readsStep 47 = .ok (.invokevirtual 143, 3) := by decide +kernel
theorem dX7_readsStep_50 : decode cX7_readsStep 50 = .ok (.ifCond .ne 5, 3) := by decide +kernel
theorem dX7_readsStep_53 : decode cX7_readsStep 53 = .ok (.iconst 0, 1) := by decide +kernel
theorem dX7_readsStep_54 : decode cX7_readsStep 54 = .ok (.ireturn, 1) := by decide +kernel
theorem dX7_readsStep_55 : decode cX7_readsStep 55 = .ok (.aload_n 0, 1) := by decide +kernel
theorem dX7_readsStep_56 : decode cX7_readsStep 56 = .ok (.bipush 97, 2) := by decide +kernel
theorem dX7_readsStep_58 : decode cX7_readsStep 58 = .ok (.bipush 104, 2) := by decide +kernel
theorem dX7_readsStep_60 : decode cX7_readsStep 60 = .ok (.invokevirtual 138, 3) := by decide +kernel
theorem dX7_readsStep_63 : decode cX7_readsStep 63 = .ok (.ifCond .eq 15, 3) := by decide +kernel
theorem dX7_readsStep_66 : decode cX7_readsStep 66 = .ok (.iload_n 1, 1) := by decide +kernel
theorem dX7_readsStep_67 : decode cX7_readsStep 67 = .ok (.ifCond .ne 13, 3) := by decide +kernel
theorem dX7_readsStep_70 : decode cX7_readsStep 70 = .ok (.aload_n 0, 1) := by decide +kernel
theorem dX7_readsStep_71 : decode cX7_readsStep 71 = .ok (.getfield 158, 3) := by decide +kernel
theorem dX7_readsStep_74 : decode cX7_readsStep 74 = .ok (.iconst 4, 1) := by decide +kernel
theorem dX7_readsStep_75 : decode cX7_readsStep 75 = .ok (.if_icmp .ne 5, 3) := by decide +kernel
theorem dX7_readsStep_78 : decode cX7_readsStep 78 = .ok (.iconst 0, 1) := by decide +kernel
theorem dX7_readsStep_79 : decode cX7_readsStep 79 = .ok (.ireturn, 1) := by decide +kernel
theorem dX7_readsStep_80 : decode cX7_readsStep 80 = .ok (.aload_n 0, 1) := by decide +kernel
theorem dX7_readsStep_81 : decode cX7_readsStep 81 = .ok (.dup, 1) := by decide +kernel
theorem dX7_readsStep_82 : decode cX7_readsStep 82 = .ok (.getfield 158, 3) := by decide +kernel
theorem dX7_readsStep_85 : decode cX7_readsStep 85 = .ok (.iload_n 1, 1) := by decide +kernel
theorem dX7_readsStep_86 : decode cX7_readsStep 86 = .ok (.ifCond .eq 7, 3) := by decide +kernel
theorem dX7_readsStep_89 : decode cX7_readsStep 89 = .ok (.iconst 0, 1) := by decide +kernel
theorem dX7_readsStep_90 : decode cX7_readsStep 90 = .ok (.goto 4, 3) := by decide +kernel
theorem dX7_readsStep_93 : decode cX7_readsStep 93 = .ok (.iconst 1, 1) := by decide +kernel
theorem dX7_readsStep_94 : decode cX7_readsStep 94 = .ok (.iadd, 1) := by decide +kernel
theorem dX7_readsStep_95 : decode cX7_readsStep 95 = .ok (.putfield 158, 3) := by decide +kernel
theorem dX7_readsStep_98 : decode cX7_readsStep 98 = .ok (.aload_n 0, 1) := by decide +kernel
theorem dX7_readsStep_99 : decode cX7_readsStep 99 = .ok (.getfield 43, 3) := by decide +kernel
theorem dX7_readsStep_102 : decode cX7_readsStep 102 = .ok (.iconst 3, 1) := by decide +kernel
theorem dX7_readsStep_103 : decode cX7_readsStep 103 = .ok (.aload_n 0, 1) := by decide +kernel
theorem dX7_readsStep_104 : decode cX7_readsStep 104 = .ok (.getfield 43, 3) := by decide +kernel
theorem dX7_readsStep_107 : decode cX7_readsStep 107 = .ok (.iconst 2, 1) := by decide +kernel
theorem dX7_readsStep_108 : decode cX7_readsStep 108 = .ok (.iaload, 1) := by decide +kernel
theorem dX7_readsStep_109 : decode cX7_readsStep 109 = .ok (.iadd, 1) := by decide +kernel
theorem dX7_readsStep_110 : decode cX7_readsStep 110 = .ok (.aload_n 0, 1) := by decide +kernel
theorem dX7_readsStep_111 : decode cX7_readsStep 111 = .ok (.getfield 40, 3) := by decide +kernel
theorem dX7_readsStep_114 : decode cX7_readsStep 114 = .ok (.aload_n 0, 1) := by decide +kernel
theorem dX7_readsStep_115 : decode cX7_readsStep 115 = .ok (.getfield 135, 3) := by decide +kernel
theorem dX7_readsStep_118 : decode cX7_readsStep 118 = .ok (.iaload, 1) := by decide +kernel
theorem dX7_readsStep_119 : decode cX7_readsStep 119 = .ok (.bipush 97, 2) := by decide +kernel
theorem dX7_readsStep_121 : decode cX7_readsStep 121 = .ok (.isub, 1) := by decide +kernel
theorem dX7_readsStep_122 : decode cX7_readsStep 122 = .ok (.iload_n 1, 1) := by decide +kernel
theorem dX7_readsStep_123 : decode cX7_readsStep 123 = .ok (.ifCond .eq 8, 3) := by decide +kernel
theorem dX7_readsStep_126 : decode cX7_readsStep 126 = .ok (.bipush 8, 2) := by decide +kernel
theorem dX7_readsStep_128 : decode cX7_readsStep 128 = .ok (.goto 4, 3) := by decide +kernel
theorem dX7_readsStep_131 : decode cX7_readsStep 131 = .ok (.iconst 0, 1) := by decide +kernel
theorem dX7_readsStep_132 : decode cX7_readsStep 132 = .ok (.iadd, 1) := by decide +kernel
theorem dX7_readsStep_133 : decode cX7_readsStep 133 = .ok (.iastore, 1) := by decide +kernel
theorem dX7_readsStep_134 : decode cX7_readsStep 134 = .ok (.aload_n 0, 1) := by decide +kernel
theorem dX7_readsStep_135 : decode cX7_readsStep 135 = .ok (.getfield 43, 3) := by decide +kernel
theorem dX7_readsStep_138 : decode cX7_readsStep 138 = .ok (.iconst 2, 1) := by decide +kernel
theorem dX7_readsStep_139 : decode cX7_readsStep 139 = .ok (.dup2, 1) := by decide +kernel
theorem dX7_readsStep_140 : decode cX7_readsStep 140 = .ok (.iaload, 1) := by decide +kernel
theorem dX7_readsStep_141 : decode cX7_readsStep 141 = .ok (.iconst 1, 1) := by decide +kernel
theorem dX7_readsStep_142 : decode cX7_readsStep 142 = .ok (.iadd, 1) := by decide +kernel
theorem dX7_readsStep_143 : decode cX7_readsStep 143 = .ok (.iastore, 1) := by decide +kernel
theorem dX7_readsStep_144 : decode cX7_readsStep 144 = .ok (.aload_n 0, 1) := by decide +kernel
theorem dX7_readsStep_145 : decode cX7_readsStep 145 = .ok (.dup, 1) := by decide +kernel
theorem dX7_readsStep_146 : decode cX7_readsStep 146 = .ok (.getfield 135, 3) := by decide +kernel
theorem dX7_readsStep_149 : decode cX7_readsStep 149 = .ok (.iconst 1, 1) := by decide +kernel
theorem dX7_readsStep_150 : decode cX7_readsStep 150 = .ok (.iadd, 1) := by decide +kernel
theorem dX7_readsStep_151 : decode cX7_readsStep 151 = .ok (.putfield 135, 3) := by decide +kernel
theorem dX7_readsStep_154 : decode cX7_readsStep 154 = .ok (.iconst 1, 1) := by decide +kernel
theorem dX7_readsStep_155 : decode cX7_readsStep 155 = .ok (.ireturn, 1) := by decide +kernel
theorem dX7_fault_0 : decode cX7_fault 0 = .ok (.aload_n 0, 1) := by decide +kernel
theorem dX7_fault_1 : decode cX7_fault 1 = .ok (.iconst 0, 1) := by decide +kernel
theorem dX7_fault_2 : decode cX7_fault 2 = .ok (.putfield 135, 3) := by decide +kernel
theorem dX7_fault_5 : decode cX7_fault 5 = .ok (.aload_n 0, 1) := by decide +kernel
theorem dX7_fault_6 : decode cX7_fault 6 = .ok (.getfield 43, 3) := by decide +kernel
theorem dX7_fault_9 : decode cX7_fault 9 = .ok (.iconst 2, 1) := by decide +kernel
theorem dX7_fault_10 : decode cX7_fault 10 = .ok (.iconst 0, 1) := by decide +kernel
theorem dX7_fault_11 : decode cX7_fault 11 = .ok (.iastore, 1) := by decide +kernel
theorem dX7_fault_12 : decode cX7_fault 12 = .ok (.aload_n 0, 1) := by decide +kernel
theorem dX7_fault_13 : decode cX7_fault 13 = .ok (.iconst 0, 1) := by decide +kernel
theorem dX7_fault_14 : decode cX7_fault 14 = .ok (.putfield 158, 3) := by decide +kernel
theorem dX7_fault_17 : decode cX7_fault 17 = .ok (.aload_n 0, 1) := by decide +kernel
theorem dX7_fault_18 : decode cX7_fault 18 = .ok (.ldc2_w 161, 3) := by decide +kernel
theorem dX7_fault_21 : decode cX7_fault 21 = .ok (.bipush 7, 2) := by decide +kernel
theorem dX7_fault_23 : decode cX7_fault 23 = .ok (.invokevirtual 148, 3) := by decide +kernel
theorem dX7_fault_26 : decode cX7_fault 26 = .ok (.ifCond .eq 26, 3) := by decide +kernel
theorem dX7_fault_29 : decode cX7_fault 29 = .ok (.aload_n 0, 1) := by decide +kernel
theorem dX7_fault_30 : decode cX7_fault 30 = .ok (.invokevirtual 163, 3) := by decide +kernel
theorem dX7_fault_33 : decode cX7_fault 33 = .ok (.ifCond .eq 19, 3) := by decide +kernel
theorem dX7_fault_36 : decode cX7_fault 36 = .ok (.aload_n 0, 1) := by decide +kernel
theorem dX7_fault_37 : decode cX7_fault 37 = .ok (.bipush 32, 2) := by decide +kernel
theorem dX7_fault_39 : decode cX7_fault 39 = .ok (.invokevirtual 143, 3) := by decide +kernel
theorem dX7_fault_42 : decode cX7_fault 42 = .ok (.ifCond .eq 10, 3) := by decide +kernel
theorem dX7_fault_45 : decode cX7_fault 45 = .ok (.aload_n 0, 1) := by decide +kernel
theorem dX7_fault_46 : decode cX7_fault 46 = .ok (.invokevirtual 166, 3) := by decide +kernel
theorem dX7_fault_49 : decode cX7_fault 49 = .ok (.ifCond .ne 8, 3) := by decide +kernel
theorem dX7_fault_52 : decode cX7_fault 52 = .ok (.aload_n 0, 1) := by decide +kernel
theorem dX7_fault_53 : decode cX7_fault 53 = .ok (.getfield 135, 3) := by decide +kernel
theorem dX7_fault_56 : decode cX7_fault 56 = .ok (.ireturn, 1) := by decide +kernel
theorem dX7_fault_57 : decode cX7_fault 57 = .ok (.iconst 1, 1) := by decide +kernel
theorem dX7_fault_58 : decode cX7_fault 58 = .ok (.istore_n 1, 1) := by decide +kernel
theorem dX7_fault_59 : decode cX7_fault 59 = .ok (.iload_n 1, 1) := by decide +kernel
theorem dX7_fault_60 : decode cX7_fault 60 = .ok (.ifCond .eq 40, 3) := by decide +kernel
theorem dX7_fault_63 : decode cX7_fault 63 = .ok (.aload_n 0, 1) := by decide +kernel
theorem dX7_fault_64 : decode cX7_fault 64 = .ok (.invokevirtual 169, 3) := by decide +kernel
theorem dX7_fault_67 : decode cX7_fault 67 = .ok (.ifCond .ne 8, 3) := by decide +kernel
theorem dX7_fault_70 : decode cX7_fault 70 = .ok (.aload_n 0, 1) := by decide +kernel
theorem dX7_fault_71 : decode cX7_fault 71 = .ok (.getfield 135, 3) := by decide +kernel
theorem dX7_fault_74 : decode cX7_fault 74 = .ok (.ireturn, 1) := by decide +kernel
theorem dX7_fault_75 : decode cX7_fault 75 = .ok (.aload_n 0, 1) := by decide +kernel
theorem dX7_fault_76 : decode cX7_fault 76 = .ok (.bipush 44, 2) := by decide +kernel
theorem dX7_fault_78 : decode cX7_fault 78 = .ok (.invokevirtual 143, 3) := by decide +kernel
theorem dX7_fault_81 : decode cX7_fault 81 = .ok (.istore_n 1, 1) := by decide +kernel
theorem dX7_fault_82 : decode cX7_fault 82 = .ok (.iload_n 1, 1) := by decide +kernel
theorem dX7_fault_83 : decode cX7_fault 83 = .ok (.ifCond .eq (-24), 3) := by decide +kernel
theorem dX7_fault_86 : decode cX7_fault 86 = .ok (.aload_n 0, 1) := by decide +kernel
theorem dX7_fault_87 : decode cX7_fault 87 = .ok (.bipush 32, 2) := by decide +kernel
theorem dX7_fault_89 : decode cX7_fault 89 = .ok (.invokevirtual 143, 3) := by decide +kernel
theorem dX7_fault_92 : decode cX7_fault 92 = .ok (.ifCond .ne (-33), 3) := by decide +kernel
theorem dX7_fault_95 : decode cX7_fault 95 = .ok (.aload_n 0, 1) := by decide +kernel
theorem dX7_fault_96 : decode cX7_fault 96 = .ok (.getfield 135, 3) := by decide +kernel
theorem dX7_fault_99 : decode cX7_fault 99 = .ok (.ireturn, 1) := by decide +kernel
theorem dX7_fault_100 : decode cX7_fault 100 = .ok (.aload_n 0, 1) := by decide +kernel
theorem dX7_fault_101 : decode cX7_fault 101 = .ok (.getfield 135, 3) := by decide +kernel
theorem dX7_fault_104 : decode cX7_fault 104 = .ok (.aload_n 0, 1) := by decide +kernel
theorem dX7_fault_105 : decode cX7_fault 105 = .ok (.getfield 132, 3) := by decide +kernel
theorem dX7_fault_108 : decode cX7_fault 108 = .ok (.if_icmp .lt 18, 3) := by decide +kernel
theorem dX7_fault_111 : decode cX7_fault 111 = .ok (.aload_n 0, 1) := by decide +kernel
theorem dX7_fault_112 : decode cX7_fault 112 = .ok (.getfield 158, 3) := by decide +kernel
theorem dX7_fault_115 : decode cX7_fault 115 = .ok (.iconst 2, 1) := by decide +kernel
theorem dX7_fault_116 : decode cX7_fault 116 = .ok (.if_icmp .lt 10, 3) := by decide +kernel
theorem dX7_fault_119 : decode cX7_fault 119 = .ok (.aload_n 0, 1) := by decide +kernel
theorem dX7_fault_120 : decode cX7_fault 120 = .ok (.invokevirtual 154, 3) := by decide +kernel
theorem dX7_fault_123 : decode cX7_fault 123 = .ok (.ifCond .eq 10, 3) := by decide +kernel
theorem dX7_fault_126 : decode cX7_fault 126 = .ok (.aload_n 0, 1) := by decide +kernel
theorem dX7_fault_127 : decode cX7_fault 127 = .ok (.getfield 135, 3) := by decide +kernel
theorem dX7_fault_130 : decode cX7_fault 130 = .ok (.goto 5, 3) := by decide +kernel
theorem dX7_fault_133 : decode cX7_fault 133 = .ok (.bipush (-5), 2) := by decide +kernel
theorem dX7_fault_135 : decode cX7_fault 135 = .ok (.ireturn, 1) := by decide +kernel
theorem dX7_addPattern_0 : decode cX7_addPattern 0 = .ok (.aload_n 0, 1) := by decide +kernel
theorem dX7_addPattern_1 : decode cX7_addPattern 1 = .ok (.invokevirtual 172, 3) := by decide +kernel
theorem dX7_addPattern_4 : decode cX7_addPattern 4 = .ok (.istore_n 1, 1) := by decide +kernel
theorem dX7_addPattern_5 : decode cX7_addPattern 5 = .ok (.iload_n 1, 1) := by decide +kernel
theorem dX7_addPattern_6 : decode cX7_addPattern 6 = .ok (.bipush (-5), 2) := by decide +kernel
theorem dX7_addPattern_8 : decode cX7_addPattern 8 = .ok (.if_icmp .eq 8, 3) := by decide +kernel
theorem dX7_addPattern_11 : decode cX7_addPattern 11 = .ok (.bipush (-100), 2) := by decide +kernel
theorem dX7_addPattern_13 : decode cX7_addPattern 13 = .ok (.iload_n 1, 1) := by decide +kernel
theorem dX7_addPattern_14 : decode cX7_addPattern 14 = .ok (.isub, 1) := by decide +kernel
theorem dX7_addPattern_15 : decode cX7_addPattern 15 = .ok (.ireturn, 1) := by decide +kernel
theorem dX7_addPattern_16 : decode cX7_addPattern 16 = .ok (.aload_n 0, 1) := by decide +kernel
theorem dX7_addPattern_17 : decode cX7_addPattern 17 = .ok (.getfield 7, 3) := by decide +kernel
theorem dX7_addPattern_20 : decode cX7_addPattern 20 = .ok (.iconst 3, 1) := by decide +kernel
theorem dX7_addPattern_21 : decode cX7_addPattern 21 = .ok (.iaload, 1) := by decide +kernel
theorem dX7_addPattern_22 : decode cX7_addPattern 22 = .ok (.iconst 4, 1) := by decide +kernel
theorem dX7_addPattern_23 : decode cX7_addPattern 23 = .ok (.if_icmp .ne 6, 3) := by decide +kernel
theorem dX7_addPattern_26 : decode cX7_addPattern 26 = .ok (.bipush (-3), 2) := by decide +kernel
theorem dX7_addPattern_28 : decode cX7_addPattern 28 = .ok (.ireturn, 1) := by decide +kernel
theorem dX7_addPattern_29 : decode cX7_addPattern 29 = .ok (.aload_n 0, 1) := by decide +kernel
theorem dX7_addPattern_30 : decode cX7_addPattern 30 = .ok (.invokevirtual 120, 3) := by decide +kernel
theorem dX7_addPattern_33 : decode cX7_addPattern 33 = .ok (.iconst 0, 1) := by decide +kernel
theorem dX7_addPattern_34 : decode cX7_addPattern 34 = .ok (.istore_n 2, 1) := by decide +kernel
theorem dX7_addPattern_35 : decode cX7_addPattern 35 = .ok (.iload_n 2, 1) := by decide +kernel
theorem dX7_addPattern_36 : decode cX7_addPattern 36 = .ok (.bipush 10, 2) := by decide +kernel
theorem dX7_addPattern_38 : decode cX7_addPattern 38 = .ok (.if_icmp .ge 50, 3) := by decide +kernel
theorem dX7_addPattern_41 : decode cX7_addPattern 41 = .ok (.aload_n 0, 1) := by decide +kernel
theorem dX7_addPattern_42 : decode cX7_addPattern 42 = .ok (.getfield 7, 3) := by decide +kernel
theorem dX7_addPattern_45 : decode cX7_addPattern 45 = .ok (.bipush 79, 2) := by decide +kernel
theorem dX7_addPattern_47 : decode cX7_addPattern 47 = .ok (.bipush 10, 2) := by decide +kernel
theorem dX7_addPattern_49 : decode cX7_addPattern 49 = .ok (.aload_n 0, 1) := by decide +kernel
theorem dX7_addPattern_50 : decode cX7_addPattern 50 = .ok (.getfield 7, 3) := by decide +kernel
theorem dX7_addPattern_53 : decode cX7_addPattern 53 = .ok (.iconst 3, 1) := by decide +kernel
theorem dX7_addPattern_54 : decode cX7_addPattern 54 = .ok (.iaload, 1) := by decide +kernel
theorem dX7_addPattern_55 : decode cX7_addPattern 55 = .ok (.imul, 1) := by decide +kernel
theorem dX7_addPattern_56 : decode cX7_addPattern 56 = .ok (.iadd, 1) := by decide +kernel
theorem dX7_addPattern_57 : decode cX7_addPattern 57 = .ok (.iload_n 2, 1) := by decide +kernel
theorem dX7_addPattern_58 : decode cX7_addPattern 58 = .ok (.iadd, 1) := by decide +kernel
theorem dX7_addPattern_59 : decode cX7_addPattern 59 = .ok (.iload_n 2, 1) := by decide +kernel
theorem dX7_addPattern_60 : decode cX7_addPattern 60 = .ok (.iconst 3, 1) := by decide +kernel
theorem dX7_addPattern_61 : decode cX7_addPattern 61 = .ok (.aload_n 0, 1) := by decide +kernel
theorem dX7_addPattern_62 : decode cX7_addPattern 62 = .ok (.getfield 43, 3) := by decide +kernel
theorem dX7_addPattern_65 : decode cX7_addPattern 65 = .ok (.iconst 2, 1) := by decide +kernel
theorem dX7_addPattern_66 : decode cX7_addPattern 66 = .ok (.iaload, 1) := by decide +kernel
theorem dX7_addPattern_67 : decode cX7_addPattern 67 = .ok (.iadd, 1) := by decide +kernel
theorem dX7_addPattern_68 : decode cX7_addPattern 68 = .ok (.if_icmp .ge 12, 3) := by decide +kernel
theorem dX7_addPattern_71 : decode cX7_addPattern 71 = .ok (.aload_n 0, 1) := by decide +kernel
theorem dX7_addPattern_72 : decode cX7_addPattern 72 = .ok (.getfield 43, 3) := by decide +kernel
theorem dX7_addPattern_75 : decode cX7_addPattern 75 = .ok (.iload_n 2, 1) := by decide +kernel
theorem dX7_addPattern_76 : decode cX7_addPattern 76 = .ok (.iaload, 1) := by decide +kernel
theorem dX7_addPattern_77 : decode cX7_addPattern 77 = .ok (.goto 4, 3) := by decide +kernel
theorem dX7_addPattern_80 : decode cX7_addPattern 80 = .ok (.iconst 0, 1) := by decide +kernel
theorem dX7_addPattern_81 : decode cX7_addPattern 81 = .ok (.iastore, 1) := by decide +kernel
theorem dX7_addPattern_82 : decode cX7_addPattern 82 = .ok (.iinc 2 1, 3) := by decide +kernel
theorem dX7_addPattern_85 : decode cX7_addPattern 85 = .ok (.goto (-50), 3) := by decide +kernel
theorem dX7_addPattern_88 : decode cX7_addPattern 88 = .ok (.aload_n 0, 1) := by decide +kernel
theorem dX7_addPattern_89 : decode cX7_addPattern 89 = .ok (.getfield 7, 3) := by decide +kernel
theorem dX7_addPattern_92 : decode cX7_addPattern 92 = .ok (.iconst 3, 1) := by decide +kernel
theorem dX7_addPattern_93 : decode cX7_addPattern 93 = .ok (.dup2, 1) := by decide +kernel
theorem dX7_addPattern_94 : decode cX7_addPattern 94 = .ok (.iaload, 1) := by decide +kernel
theorem dX7_addPattern_95 : decode cX7_addPattern 95 = .ok (.iconst 1, 1) := by decide +kernel
theorem dX7_addPattern_96 : decode cX7_addPattern 96 = .ok (.iadd, 1) := by decide +kernel
theorem dX7_addPattern_97 : decode cX7_addPattern 97 = .ok (.iastore, 1) := by decide +kernel
theorem dX7_addPattern_98 : decode cX7_addPattern 98 = .ok (.aload_n 0, 1) := by decide +kernel
theorem dX7_addPattern_99 : decode cX7_addPattern 99 = .ok (.aload_n 0, 1) := by decide +kernel
theorem dX7_addPattern_100 : decode cX7_addPattern 100 = .ok (.getfield 7, 3) := by decide +kernel
theorem dX7_addPattern_103 : decode cX7_addPattern 103 = .ok (.iconst 3, 1) := by decide +kernel
theorem dX7_addPattern_104 : decode cX7_addPattern 104 = .ok (.iaload, 1) := by decide +kernel
theorem dX7_addPattern_105 : decode cX7_addPattern 105 = .ok (.iconst 1, 1) := by decide +kernel
theorem dX7_addPattern_106 : decode cX7_addPattern 106 = .ok (.isub, 1) := by decide +kernel
theorem dX7_addPattern_107 : decode cX7_addPattern 107 = .ok (.invokevirtual 127, 3) := by decide +kernel
theorem dX7_addPattern_110 : decode cX7_addPattern 110 = .ok (.ireturn, 1) := by decide +kernel
theorem dX7_dropPattern_0 : decode cX7_dropPattern 0 = .ok (.aload_n 0, 1) := by decide +kernel
theorem dX7_dropPattern_1 : decode cX7_dropPattern 1 = .ok (.iload_n 1, 1) := by decide +kernel
theorem dX7_dropPattern_2 : decode cX7_dropPattern 2 = .ok (.invokevirtual 175, 3) := by decide +kernel
theorem dX7_dropPattern_5 : decode cX7_dropPattern 5 = .ok (.ifCond .ne 5, 3) := by decide +kernel
theorem dX7_dropPattern_8 : decode cX7_dropPattern 8 = .ok (.iconst (-1), 1) := by decide +kernel
theorem dX7_dropPattern_9 : decode cX7_dropPattern 9 = .ok (.ireturn, 1) := by decide +kernel
theorem dX7_dropPattern_10 : decode cX7_dropPattern 10 = .ok (.aload_n 0, 1) := by decide +kernel
theorem dX7_dropPattern_11 : decode cX7_dropPattern 11 = .ok (.invokevirtual 120, 3) := by decide +kernel
theorem dX7_dropPattern_14 : decode cX7_dropPattern 14 = .ok (.aload_n 0, 1) := by decide +kernel
theorem dX7_dropPattern_15 : decode cX7_dropPattern 15 = .ok (.getfield 7, 3) := by decide +kernel
theorem dX7_dropPattern_18 : decode cX7_dropPattern 18 = .ok (.iconst 3, 1) := by decide +kernel
theorem dX7_dropPattern_19 : decode cX7_dropPattern 19 = .ok (.dup2, 1) := by decide +kernel
theorem dX7_dropPattern_20 : decode cX7_dropPattern 20 = .ok (.iaload, 1) := by decide +kernel
theorem dX7_dropPattern_21 : decode cX7_dropPattern 21 = .ok (.iconst 1, 1) := by decide +kernel
theorem dX7_dropPattern_22 : decode cX7_dropPattern 22 = .ok (.isub, 1) := by decide +kernel
theorem dX7_dropPattern_23 : decode cX7_dropPattern 23 = .ok (.iastore, 1) := by decide +kernel
theorem dX7_dropPattern_24 : decode cX7_dropPattern 24 = .ok (.bipush 79, 2) := by decide +kernel
theorem dX7_dropPattern_26 : decode cX7_dropPattern 26 = .ok (.bipush 10, 2) := by decide +kernel
theorem dX7_dropPattern_28 : decode cX7_dropPattern 28 = .ok (.iload_n 1, 1) := by decide +kernel
theorem dX7_dropPattern_29 : decode cX7_dropPattern 29 = .ok (.imul, 1) := by decide +kernel
theorem dX7_dropPattern_30 : decode cX7_dropPattern 30 = .ok (.iadd, 1) := by decide +kernel
theorem dX7_dropPattern_31 : decode cX7_dropPattern 31 = .ok (.istore_n 2, 1) := by decide +kernel
theorem dX7_dropPattern_32 : decode cX7_dropPattern 32 = .ok (.iload_n 2, 1) := by decide +kernel
theorem dX7_dropPattern_33 : decode cX7_dropPattern 33 = .ok (.bipush 79, 2) := by decide +kernel
theorem dX7_dropPattern_35 : decode cX7_dropPattern 35 = .ok (.bipush 10, 2) := by decide +kernel
theorem dX7_dropPattern_37 : decode cX7_dropPattern 37 = .ok (.aload_n 0, 1) := by decide +kernel
theorem dX7_dropPattern_38 : decode cX7_dropPattern 38 = .ok (.getfield 7, 3) := by decide +kernel
theorem dX7_dropPattern_41 : decode cX7_dropPattern 41 = .ok (.iconst 3, 1) := by decide +kernel
theorem dX7_dropPattern_42 : decode cX7_dropPattern 42 = .ok (.iaload, 1) := by decide +kernel
theorem dX7_dropPattern_43 : decode cX7_dropPattern 43 = .ok (.imul, 1) := by decide +kernel
theorem dX7_dropPattern_44 : decode cX7_dropPattern 44 = .ok (.iadd, 1) := by decide +kernel
theorem dX7_dropPattern_45 : decode cX7_dropPattern 45 = .ok (.if_icmp .ge 24, 3) := by decide +kernel
theorem dX7_dropPattern_48 : decode cX7_dropPattern 48 = .ok (.aload_n 0, 1) := by decide +kernel
theorem dX7_dropPattern_49 : decode cX7_dropPattern 49 = .ok (.getfield 7, 3) := by decide +kernel
theorem dX7_dropPattern_52 : decode cX7_dropPattern 52 = .ok (.iload_n 2, 1) := by decide +kernel
theorem dX7_dropPattern_53 : decode cX7_dropPattern 53 = .ok (.aload_n 0, 1) := by decide +kernel
theorem dX7_dropPattern_54 : decode cX7_dropPattern 54 = .ok (.getfield 7, 3) := by decide +kernel
theorem dX7_dropPattern_57 : decode cX7_dropPattern 57 = .ok (.iload_n 2, 1) := by decide +kernel
theorem dX7_dropPattern_58 : decode cX7_dropPattern 58 = .ok (.bipush 10, 2) := by decide +kernel
theorem dX7_dropPattern_60 : decode cX7_dropPattern 60 = .ok (.iadd, 1) := by decide +kernel
theorem dX7_dropPattern_61 : decode cX7_dropPattern 61 = .ok (.iaload, 1) := by decide +kernel
theorem dX7_dropPattern_62 : decode cX7_dropPattern 62 = .ok (.iastore, 1) := by decide +kernel
theorem dX7_dropPattern_63 : decode cX7_dropPattern 63 = .ok (.iinc 2 1, 3) := by decide +kernel
theorem dX7_dropPattern_66 : decode cX7_dropPattern 66 = .ok (.goto (-34), 3) := by decide +kernel
theorem dX7_dropPattern_69 : decode cX7_dropPattern 69 = .ok (.aload_n 0, 1) := by decide +kernel
theorem dX7_dropPattern_70 : decode cX7_dropPattern 70 = .ok (.aload_n 0, 1) := by decide +kernel
theorem dX7_dropPattern_71 : decode cX7_dropPattern 71 = .ok (.getfield 7, 3) := by decide +kernel
theorem dX7_dropPattern_74 : decode cX7_dropPattern 74 = .ok (.iconst 3, 1) := by decide +kernel
theorem dX7_dropPattern_75 : decode cX7_dropPattern 75 = .ok (.iaload, 1) := by decide +kernel
theorem dX7_dropPattern_76 : decode cX7_dropPattern 76 = .ok (.invokevirtual 127, 3) := by decide +kernel
theorem dX7_dropPattern_79 : decode cX7_dropPattern 79 = .ok (.ireturn, 1) := by decide +kernel
theorem dX7_setWindow_0 : decode cX7_setWindow 0 = .ok (.aload_n 0, 1) := by decide +kernel
theorem dX7_setWindow_1 : decode cX7_setWindow 1 = .ok (.iload_n 1, 1) := by decide +kernel
theorem dX7_setWindow_2 : decode cX7_setWindow 2 = .ok (.invokevirtual 175, 3) := by decide +kernel
theorem dX7_setWindow_5 : decode cX7_setWindow 5 = .ok (.ifCond .ne 5, 3) := by decide +kernel
theorem dX7_setWindow_8 : decode cX7_setWindow 8 = .ok (.iconst (-1), 1) := by decide +kernel
theorem dX7_setWindow_9 : decode cX7_setWindow 9 = .ok (.ireturn, 1) := by decide +kernel
theorem dX7_setWindow_10 : decode cX7_setWindow 10 = .ok (.iload_n 2, 1) := by decide +kernel
theorem dX7_setWindow_11 : decode cX7_setWindow 11 = .ok (.i2l, 1) := by decide +kernel
theorem dX7_setWindow_12 : decode cX7_setWindow 12 = .ok (.lconst 1, 1) := by decide +kernel
theorem dX7_setWindow_13 : decode cX7_setWindow 13 = .ok (.ldc2_w 178, 3) := by decide +kernel
theorem dX7_setWindow_16 : decode cX7_setWindow 16 = .ok (.invokestatic 50, 3) := by decide +kernel
theorem dX7_setWindow_19 : decode cX7_setWindow 19 = .ok (.ifCond .ne 6, 3) := by decide +kernel
theorem dX7_setWindow_22 : decode cX7_setWindow 22 = .ok (.bipush (-2), 2) := by decide +kernel
theorem dX7_setWindow_24 : decode cX7_setWindow 24 = .ok (.ireturn, 1) := by decide +kernel
theorem dX7_setWindow_25 : decode cX7_setWindow 25 = .ok (.aload_n 0, 1) := by decide +kernel
theorem dX7_setWindow_26 : decode cX7_setWindow 26 = .ok (.iload_n 1, 1) := by decide +kernel
theorem dX7_setWindow_27 : decode cX7_setWindow 27 = .ok (.iconst 0, 1) := by decide +kernel
theorem dX7_setWindow_28 : decode cX7_setWindow 28 = .ok (.invokevirtual 66, 3) := by decide +kernel
theorem dX7_setWindow_31 : decode cX7_setWindow 31 = .ok (.istore_n 3, 1) := by decide +kernel
theorem dX7_setWindow_32 : decode cX7_setWindow 32 = .ok (.iload_n 3, 1) := by decide +kernel
theorem dX7_setWindow_33 : decode cX7_setWindow 33 = .ok (.iload_n 2, 1) := by decide +kernel
theorem dX7_setWindow_34 : decode cX7_setWindow 34 = .ok (.if_icmp .ne 6, 3) := by decide +kernel
theorem dX7_setWindow_37 : decode cX7_setWindow 37 = .ok (.bipush (-5), 2) := by decide +kernel
theorem dX7_setWindow_39 : decode cX7_setWindow 39 = .ok (.ireturn, 1) := by decide +kernel
theorem dX7_setWindow_40 : decode cX7_setWindow 40 = .ok (.aload_n 0, 1) := by decide +kernel
theorem dX7_setWindow_41 : decode cX7_setWindow 41 = .ok (.invokevirtual 120, 3) := by decide +kernel
theorem dX7_setWindow_44 : decode cX7_setWindow 44 = .ok (.aload_n 0, 1) := by decide +kernel
theorem dX7_setWindow_45 : decode cX7_setWindow 45 = .ok (.getfield 7, 3) := by decide +kernel
theorem dX7_setWindow_48 : decode cX7_setWindow 48 = .ok (.bipush 79, 2) := by decide +kernel
theorem dX7_setWindow_50 : decode cX7_setWindow 50 = .ok (.bipush 10, 2) := by decide +kernel
theorem dX7_setWindow_52 : decode cX7_setWindow 52 = .ok (.iload_n 1, 1) := by decide +kernel
theorem dX7_setWindow_53 : decode cX7_setWindow 53 = .ok (.imul, 1) := by decide +kernel
theorem dX7_setWindow_54 : decode cX7_setWindow 54 = .ok (.iadd, 1) := by decide +kernel
theorem dX7_setWindow_55 : decode cX7_setWindow 55 = .ok (.iconst 0, 1) := by decide +kernel
theorem dX7_setWindow_56 : decode cX7_setWindow 56 = .ok (.iadd, 1) := by decide +kernel
theorem dX7_setWindow_57 : decode cX7_setWindow 57 = .ok (.iload_n 2, 1) := by decide +kernel
theorem dX7_setWindow_58 : decode cX7_setWindow 58 = .ok (.iastore, 1) := by decide +kernel
theorem dX7_setWindow_59 : decode cX7_setWindow 59 = .ok (.aload_n 0, 1) := by decide +kernel
theorem dX7_setWindow_60 : decode cX7_setWindow 60 = .ok (.iload_n 3, 1) := by decide +kernel
theorem dX7_setWindow_61 : decode cX7_setWindow 61 = .ok (.invokevirtual 127, 3) := by decide +kernel
theorem dX7_setWindow_64 : decode cX7_setWindow 64 = .ok (.ireturn, 1) := by decide +kernel
theorem dX7_undo_0 : decode cX7_undo 0 = .ok (.aload_n 0, 1) := by decide +kernel
theorem dX7_undo_1 : decode cX7_undo 1 = .ok (.getfield 46, 3) := by decide +kernel
theorem dX7_undo_4 : decode cX7_undo 4 = .ok (.ifCond .ne 6, 3) := by decide +kernel
theorem dX7_undo_7 : decode cX7_undo 7 = .ok (.bipush (-5), 2) := by decide +kernel
theorem dX7_undo_9 : decode cX7_undo 9 = .ok (.ireturn, 1) := by decide +kernel
theorem dX7_undo_10 : decode cX7_undo 10 = .ok (.aload_n 0, 1) := by decide +kernel
theorem dX7_undo_11 : decode cX7_undo 11 = .ok (.dup, 1) := by decide +kernel
theorem dX7_undo_12 : decode cX7_undo 12 = .ok (.getfield 46, 3) := by decide +kernel
theorem dX7_undo_15 : decode cX7_undo 15 = .ok (.iconst 1, 1) := by decide +kernel
theorem dX7_undo_16 : decode cX7_undo 16 = .ok (.isub, 1) := by decide +kernel
theorem dX7_undo_17 : decode cX7_undo 17 = .ok (.putfield 46, 3) := by decide +kernel
theorem dX7_undo_20 : decode cX7_undo 20 = .ok (.iconst 0, 1) := by decide +kernel
theorem dX7_undo_21 : decode cX7_undo 21 = .ok (.istore_n 1, 1) := by decide +kernel
theorem dX7_undo_22 : decode cX7_undo 22 = .ok (.iload_n 1, 1) := by decide +kernel
theorem dX7_undo_23 : decode cX7_undo 23 = .ok (.bipush 119, 2) := by decide +kernel
theorem dX7_undo_25 : decode cX7_undo 25 = .ok (.if_icmp .ge 29, 3) := by decide +kernel
theorem dX7_undo_28 : decode cX7_undo 28 = .ok (.aload_n 0, 1) := by decide +kernel
theorem dX7_undo_29 : decode cX7_undo 29 = .ok (.getfield 7, 3) := by decide +kernel
theorem dX7_undo_32 : decode cX7_undo 32 = .ok (.iload_n 1, 1) := by decide +kernel
theorem dX7_undo_33 : decode cX7_undo 33 = .ok (.aload_n 0, 1) := by decide +kernel
theorem dX7_undo_34 : decode cX7_undo 34 = .ok (.getfield 16, 3) := by decide +kernel
theorem dX7_undo_37 : decode cX7_undo 37 = .ok (.bipush 119, 2) := by decide +kernel
theorem dX7_undo_39 : decode cX7_undo 39 = .ok (.aload_n 0, 1) := by decide +kernel
theorem dX7_undo_40 : decode cX7_undo 40 = .ok (.getfield 46, 3) := by decide +kernel
theorem dX7_undo_43 : decode cX7_undo 43 = .ok (.imul, 1) := by decide +kernel
theorem dX7_undo_44 : decode cX7_undo 44 = .ok (.iload_n 1, 1) := by decide +kernel
theorem dX7_undo_45 : decode cX7_undo 45 = .ok (.iadd, 1) := by decide +kernel
theorem dX7_undo_46 : decode cX7_undo 46 = .ok (.iaload, 1) := by decide +kernel
theorem dX7_undo_47 : decode cX7_undo 47 = .ok (.iastore, 1) := by decide +kernel
theorem dX7_undo_48 : decode cX7_undo 48 = .ok (.iinc 1 1, 3) := by decide +kernel
theorem dX7_undo_51 : decode cX7_undo 51 = .ok (.goto (-29), 3) := by decide +kernel
theorem dX7_undo_54 : decode cX7_undo 54 = .ok (.aload_n 0, 1) := by decide +kernel
theorem dX7_undo_55 : decode cX7_undo 55 = .ok (.getfield 46, 3) := by decide +kernel
theorem dX7_undo_58 : decode cX7_undo 58 = .ok (.ireturn, 1) := by decide +kernel
theorem dX7_keep_0 : decode cX7_keep 0 = .ok (.iconst 0, 1) := by decide +kernel
theorem dX7_keep_1 : decode cX7_keep 1 = .ok (.istore_n 1, 1) := by decide +kernel
theorem dX7_keep_2 : decode cX7_keep 2 = .ok (.iload_n 1, 1) := by decide +kernel
theorem dX7_keep_3 : decode cX7_keep 3 = .ok (.bipush 119, 2) := by decide +kernel
theorem dX7_keep_5 : decode cX7_keep 5 = .ok (.if_icmp .ge 21, 3) := by decide +kernel
theorem dX7_keep_8 : decode cX7_keep 8 = .ok (.aload_n 0, 1) := by decide +kernel
theorem dX7_keep_9 : decode cX7_keep 9 = .ok (.getfield 19, 3) := by decide +kernel
theorem dX7_keep_12 : decode cX7_keep 12 = .ok (.iload_n 1, 1) := by decide +kernel
theorem dX7_keep_13 : decode cX7_keep 13 = .ok (.aload_n 0, 1) := by decide +kernel
theorem dX7_keep_14 : decode cX7_keep 14 = .ok (.getfield 7, 3) := by decide +kernel
theorem dX7_keep_17 : decode cX7_keep 17 = .ok (.iload_n 1, 1) := by decide +kernel
theorem dX7_keep_18 : decode cX7_keep 18 = .ok (.iaload, 1) := by decide +kernel
theorem dX7_keep_19 : decode cX7_keep 19 = .ok (.iastore, 1) := by decide +kernel
theorem dX7_keep_20 : decode cX7_keep 20 = .ok (.iinc 1 1, 3) := by decide +kernel
theorem dX7_keep_23 : decode cX7_keep 23 = .ok (.goto (-21), 3) := by decide +kernel
theorem dX7_keep_26 : decode cX7_keep 26 = .ok (.aload_n 0, 1) := by decide +kernel
theorem dX7_keep_27 : decode cX7_keep 27 = .ok (.iconst 1, 1) := by decide +kernel
theorem dX7_keep_28 : decode cX7_keep 28 = .ok (.putfield 180, 3) := by decide +kernel
theorem dX7_keep_31 : decode cX7_keep 31 = .ok (.aload_n 0, 1) := by decide +kernel
theorem dX7_keep_32 : decode cX7_keep 32 = .ok (.getfield 7, 3) := by decide +kernel
theorem dX7_keep_35 : decode cX7_keep 35 = .ok (.iconst 0, 1) := by decide +kernel
theorem dX7_keep_36 : decode cX7_keep 36 = .ok (.iaload, 1) := by decide +kernel
theorem dX7_keep_37 : decode cX7_keep 37 = .ok (.ireturn, 1) := by decide +kernel
theorem dX7_restore_0 : decode cX7_restore 0 = .ok (.aload_n 0, 1) := by decide +kernel
theorem dX7_restore_1 : decode cX7_restore 1 = .ok (.getfield 180, 3) := by decide +kernel
theorem dX7_restore_4 : decode cX7_restore 4 = .ok (.ifCond .ne 6, 3) := by decide +kernel
theorem dX7_restore_7 : decode cX7_restore 7 = .ok (.bipush (-5), 2) := by decide +kernel
theorem dX7_restore_9 : decode cX7_restore 9 = .ok (.ireturn, 1) := by decide +kernel
theorem dX7_restore_10 : decode cX7_restore 10 = .ok (.aload_n 0, 1) := by decide +kernel
theorem dX7_restore_11 : decode cX7_restore 11 = .ok (.invokevirtual 120, 3) := by decide +kernel
theorem dX7_restore_14 : decode cX7_restore 14 = .ok (.iconst 0, 1) := by decide +kernel
theorem dX7_restore_15 : decode cX7_restore 15 = .ok (.istore_n 1, 1) := by decide +kernel
theorem dX7_restore_16 : decode cX7_restore 16 = .ok (.iload_n 1, 1) := by decide +kernel
theorem dX7_restore_17 : decode cX7_restore 17 = .ok (.bipush 119, 2) := by decide +kernel
theorem dX7_restore_19 : decode cX7_restore 19 = .ok (.if_icmp .ge 21, 3) := by decide +kernel
theorem dX7_restore_22 : decode cX7_restore 22 = .ok (.aload_n 0, 1) := by decide +kernel
theorem dX7_restore_23 : decode cX7_restore 23 = .ok (.getfield 7, 3) := by decide +kernel
theorem dX7_restore_26 : decode cX7_restore 26 = .ok (.iload_n 1, 1) := by decide +kernel
theorem dX7_restore_27 : decode cX7_restore 27 = .ok (.aload_n 0, 1) := by decide +kernel
theorem dX7_restore_28 : decode cX7_restore 28 = .ok (.getfield 19, 3) := by decide +kernel
theorem dX7_restore_31 : decode cX7_restore 31 = .ok (.iload_n 1, 1) := by decide +kernel
theorem dX7_restore_32 : decode cX7_restore 32 = .ok (.iaload, 1) := by decide +kernel
theorem dX7_restore_33 : decode cX7_restore 33 = .ok (.iastore, 1) := by decide +kernel
theorem dX7_restore_34 : decode cX7_restore 34 = .ok (.iinc 1 1, 3) := by decide +kernel
theorem dX7_restore_37 : decode cX7_restore 37 = .ok (.goto (-21), 3) := by decide +kernel
theorem dX7_restore_40 : decode cX7_restore 40 = .ok (.aload_n 0, 1) := by decide +kernel
theorem dX7_restore_41 : decode cX7_restore 41 = .ok (.aload_n 0, 1) := by decide +kernel
theorem dX7_restore_42 : decode cX7_restore 42 = .ok (.getfield 7, 3) := by decide +kernel
theorem dX7_restore_45 : decode cX7_restore 45 = .ok (.iconst 0, 1) := by decide +kernel
theorem dX7_restore_46 : decode cX7_restore 46 = .ok (.iaload, 1) := by decide +kernel
theorem dX7_restore_47 : decode cX7_restore 47 = .ok (.invokevirtual 127, 3) := by decide +kernel
theorem dX7_restore_50 : decode cX7_restore 50 = .ok (.ireturn, 1) := by decide +kernel
theorem dX7_placeOf_0 : decode cX7_placeOf 0 = .ok (.aload_n 0, 1) := by decide +kernel
theorem dX7_placeOf_1 : decode cX7_placeOf 1 = .ok (.invokevirtual 96, 3) := by decide +kernel
theorem dX7_placeOf_4 : decode cX7_placeOf 4 = .ok (.iconst 0, 1) := by decide +kernel
theorem dX7_placeOf_5 : decode cX7_placeOf 5 = .ok (.istore_n 2, 1) := by decide +kernel
theorem dX7_placeOf_6 : decode cX7_placeOf 6 = .ok (.aload_n 0, 1) := by decide +kernel
theorem dX7_placeOf_7 : decode cX7_placeOf 7 = .ok (.getfield 22, 3) := by decide +kernel
theorem dX7_placeOf_10 : decode cX7_placeOf 10 = .ok (.iload_n 2, 1) := by decide +kernel
theorem dX7_placeOf_11 : decode cX7_placeOf 11 = .ok (.iaload, 1) := by decide +kernel
theorem dX7_placeOf_12 : decode cX7_placeOf 12 = .ok (.iload_n 1, 1) := by decide +kernel
theorem dX7_placeOf_13 : decode cX7_placeOf 13 = .ok (.if_icmp .eq 9, 3) := by decide +kernel
theorem dX7_placeOf_16 : decode cX7_placeOf 16 = .ok (.iinc 2 1, 3) := by decide +kernel
theorem dX7_placeOf_19 : decode cX7_placeOf 19 = .ok (.goto (-13), 3) := by decide +kernel
theorem dX7_placeOf_22 : decode cX7_placeOf 22 = .ok (.iload_n 2, 1) := by decide +kernel
theorem dX7_placeOf_23 : decode cX7_placeOf 23 = .ok (.ireturn, 1) := by decide +kernel
theorem dX7_eventOf_0 : decode cX7_eventOf 0 = .ok (.aload_n 0, 1) := by decide +kernel
theorem dX7_eventOf_1 : decode cX7_eventOf 1 = .ok (.iload_n 1, 1) := by decide +kernel
theorem dX7_eventOf_2 : decode cX7_eventOf 2 = .ok (.invokevirtual 183, 3) := by decide +kernel
theorem dX7_eventOf_5 : decode cX7_eventOf 5 = .ok (.ifCond .ne 5, 3) := by decide +kernel
theorem dX7_eventOf_8 : decode cX7_eventOf 8 = .ok (.iconst (-1), 1) := by decide +kernel
theorem dX7_eventOf_9 : decode cX7_eventOf 9 = .ok (.ireturn, 1) := by decide +kernel
theorem dX7_eventOf_10 : decode cX7_eventOf 10 = .ok (.iload_n 2, 1) := by decide +kernel
theorem dX7_eventOf_11 : decode cX7_eventOf 11 = .ok (.tableswitch 68 0 4 #[33, 43, 43, 50, 56], 33) := by decide +kernel
theorem dX7_eventOf_44 : decode cX7_eventOf 44 = .ok (.bipush 97, 2) := by decide +kernel
theorem dX7_eventOf_46 : decode cX7_eventOf 46 = .ok (.aload_n 0, 1) := by decide +kernel
theorem dX7_eventOf_47 : decode cX7_eventOf 47 = .ok (.iload_n 1, 1) := by decide +kernel
theorem dX7_eventOf_48 : decode cX7_eventOf 48 = .ok (.iconst 0, 1) := by decide +kernel
theorem dX7_eventOf_49 : decode cX7_eventOf 49 = .ok (.invokevirtual 62, 3) := by decide +kernel
theorem dX7_eventOf_52 : decode cX7_eventOf 52 = .ok (.iadd, 1) := by decide +kernel
theorem dX7_eventOf_53 : decode cX7_eventOf 53 = .ok (.ireturn, 1) := by decide +kernel
theorem dX7_eventOf_54 : decode cX7_eventOf 54 = .ok (.aload_n 0, 1) := by decide +kernel
theorem dX7_eventOf_55 : decode cX7_eventOf 55 = .ok (.iload_n 1, 1) := by decide +kernel
theorem dX7_eventOf_56 : decode cX7_eventOf 56 = .ok (.iload_n 2, 1) := by decide +kernel
theorem dX7_eventOf_57 : decode cX7_eventOf 57 = .ok (.invokevirtual 62, 3) := by decide +kernel
theorem dX7_eventOf_60 : decode cX7_eventOf 60 = .ok (.ireturn, 1) := by decide +kernel
theorem dX7_eventOf_61 : decode cX7_eventOf 61 = .ok (.aload_n 0, 1) := by decide +kernel
theorem dX7_eventOf_62 : decode cX7_eventOf 62 = .ok (.iload_n 1, 1) := by decide +kernel
theorem dX7_eventOf_63 : decode cX7_eventOf 63 = .ok (.invokevirtual 186, 3) := by decide +kernel
theorem dX7_eventOf_66 : decode cX7_eventOf 66 = .ok (.ireturn, 1) := by decide +kernel
theorem dX7_eventOf_67 : decode cX7_eventOf 67 = .ok (.aload_n 0, 1) := by decide +kernel
theorem dX7_eventOf_68 : decode cX7_eventOf 68 = .ok (.invokevirtual 189, 3) := by decide +kernel
theorem dX7_eventOf_71 : decode cX7_eventOf 71 = .ok (.istore_n 3, 1) := by decide +kernel
theorem dX7_eventOf_72 : decode cX7_eventOf 72 = .ok (.aload_n 0, 1) := by decide +kernel
theorem dX7_eventOf_73 : decode cX7_eventOf 73 = .ok (.getfield 34, 3) := by decide +kernel
theorem dX7_eventOf_76 : decode cX7_eventOf 76 = .ok (.iload_n 1, 1) := by decide +kernel
theorem dX7_eventOf_77 : decode cX7_eventOf 77 = .ok (.iaload, 1) := by decide +kernel
theorem dX7_eventOf_78 : decode cX7_eventOf 78 = .ok (.ireturn, 1) := by decide +kernel
theorem dX7_eventOf_79 : decode cX7_eventOf 79 = .ok (.bipush (-2), 2) := by decide +kernel
theorem dX7_eventOf_81 : decode cX7_eventOf 81 = .ok (.ireturn, 1) := by decide +kernel
theorem dX7_pattern_0 : decode cX7_pattern 0 = .ok (.aload_n 0, 1) := by decide +kernel
theorem dX7_pattern_1 : decode cX7_pattern 1 = .ok (.iload_n 1, 1) := by decide +kernel
theorem dX7_pattern_2 : decode cX7_pattern 2 = .ok (.invokevirtual 175, 3) := by decide +kernel
theorem dX7_pattern_5 : decode cX7_pattern 5 = .ok (.ifCond .ne 5, 3) := by decide +kernel
theorem dX7_pattern_8 : decode cX7_pattern 8 = .ok (.iconst (-1), 1) := by decide +kernel
theorem dX7_pattern_9 : decode cX7_pattern 9 = .ok (.ireturn, 1) := by decide +kernel
theorem dX7_pattern_10 : decode cX7_pattern 10 = .ok (.iload_n 2, 1) := by decide +kernel
theorem dX7_pattern_11 : decode cX7_pattern 11 = .ok (.i2l, 1) := by decide +kernel
theorem dX7_pattern_12 : decode cX7_pattern 12 = .ok (.lconst 0, 1) := by decide +kernel
theorem dX7_pattern_13 : decode cX7_pattern 13 = .ok (.ldc2_w 192, 3) := by decide +kernel
theorem dX7_pattern_16 : decode cX7_pattern 16 = .ok (.invokestatic 50, 3) := by decide +kernel
theorem dX7_pattern_19 : decode cX7_pattern 19 = .ok (.ifCond .ne 6, 3) := by decide +kernel
theorem dX7_pattern_22 : decode cX7_pattern 22 = .ok (.bipush (-2), 2) := by decide +kernel
theorem dX7_pattern_24 : decode cX7_pattern 24 = .ok (.ireturn, 1) := by decide +kernel
theorem dX7_pattern_25 : decode cX7_pattern 25 = .ok (.iload_n 2, 1) := by decide +kernel
theorem dX7_pattern_26 : decode cX7_pattern 26 = .ok (.iconst 3, 1) := by decide +kernel
theorem dX7_pattern_27 : decode cX7_pattern 27 = .ok (.if_icmp .ge 10, 3) := by decide +kernel
theorem dX7_pattern_30 : decode cX7_pattern 30 = .ok (.aload_n 0, 1) := by decide +kernel
theorem dX7_pattern_31 : decode cX7_pattern 31 = .ok (.iload_n 1, 1) := by decide +kernel
theorem dX7_pattern_32 : decode cX7_pattern 32 = .ok (.iload_n 2, 1) := by decide +kernel
theorem dX7_pattern_33 : decode cX7_pattern 33 = .ok (.invokevirtual 66, 3) := by decide +kernel
theorem dX7_pattern_36 : decode cX7_pattern 36 = .ok (.ireturn, 1) := by decide +kernel
theorem dX7_pattern_37 : decode cX7_pattern 37 = .ok (.aload_n 0, 1) := by decide +kernel
theorem dX7_pattern_38 : decode cX7_pattern 38 = .ok (.bipush (-5), 2) := by decide +kernel
theorem dX7_pattern_40 : decode cX7_pattern 40 = .ok (.putfield 79, 3) := by decide +kernel
theorem dX7_pattern_43 : decode cX7_pattern 43 = .ok (.aload_n 0, 1) := by decide +kernel
theorem dX7_pattern_44 : decode cX7_pattern 44 = .ok (.iload_n 1, 1) := by decide +kernel
theorem dX7_pattern_45 : decode cX7_pattern 45 = .ok (.invokevirtual 109, 3) := by decide +kernel
theorem dX7_pattern_48 : decode cX7_pattern 48 = .ok (.iload_n 2, 1) := by decide +kernel
theorem dX7_pattern_49 : decode cX7_pattern 49 = .ok (.iconst 3, 1) := by decide +kernel
theorem dX7_pattern_50 : decode cX7_pattern 50 = .ok (.if_icmp .ne 11, 3) := by decide +kernel
theorem dX7_pattern_53 : decode cX7_pattern 53 = .ok (.aload_n 0, 1) := by decide +kernel
theorem dX7_pattern_54 : decode cX7_pattern 54 = .ok (.iload_n 1, 1) := by decide +kernel
theorem dX7_pattern_55 : decode cX7_pattern 55 = .ok (.invokevirtual 89, 3) := by decide +kernel
theorem dX7_pattern_58 : decode cX7_pattern 58 = .ok (.goto 31, 3) := by decide +kernel
theorem dX7_pattern_61 : decode cX7_pattern 61 = .ok (.iload_n 2, 1) := by decide +kernel
theorem dX7_pattern_62 : decode cX7_pattern 62 = .ok (.iconst 4, 1) := by decide +kernel
theorem dX7_pattern_63 : decode cX7_pattern 63 = .ok (.if_icmp .ne 10, 3) := by decide +kernel
theorem dX7_pattern_66 : decode cX7_pattern 66 = .ok (.aload_n 0, 1) := by decide +kernel
theorem dX7_pattern_67 : decode cX7_pattern 67 = .ok (.getfield 76, 3) := by decide +kernel
theorem dX7_pattern_70 : decode cX7_pattern 70 = .ok (.goto 19, 3) := by decide +kernel
theorem dX7_pattern_73 : decode cX7_pattern 73 = .ok (.iload_n 2, 1) := by decide +kernel
theorem dX7_pattern_74 : decode cX7_pattern 74 = .ok (.iconst 5, 1) := by decide +kernel
theorem dX7_pattern_75 : decode cX7_pattern 75 = .ok (.if_icmp .ne 10, 3) := by decide +kernel
theorem dX7_pattern_78 : decode cX7_pattern 78 = .ok (.aload_n 0, 1) := by decide +kernel
theorem dX7_pattern_79 : decode cX7_pattern 79 = .ok (.getfield 82, 3) := by decide +kernel
theorem dX7_pattern_82 : decode cX7_pattern 82 = .ok (.goto 7, 3) := by decide +kernel
theorem dX7_pattern_85 : decode cX7_pattern 85 = .ok (.aload_n 0, 1) := by decide +kernel
theorem dX7_pattern_86 : decode cX7_pattern 86 = .ok (.getfield 93, 3) := by decide +kernel
theorem dX7_pattern_89 : decode cX7_pattern 89 = .ok (.ireturn, 1) := by decide +kernel
theorem dX7_step_0 : decode cX7_step 0 = .ok (.aload_n 0, 1) := by decide +kernel
theorem dX7_step_1 : decode cX7_step 1 = .ok (.iload_n 1, 1) := by decide +kernel
theorem dX7_step_2 : decode cX7_step 2 = .ok (.invokevirtual 175, 3) := by decide +kernel
theorem dX7_step_5 : decode cX7_step 5 = .ok (.ifCond .ne 5, 3) := by decide +kernel
theorem dX7_step_8 : decode cX7_step 8 = .ok (.iconst (-1), 1) := by decide +kernel
theorem dX7_step_9 : decode cX7_step 9 = .ok (.ireturn, 1) := by decide +kernel
theorem dX7_step_10 : decode cX7_step 10 = .ok (.iload_n 2, 1) := by decide +kernel
theorem dX7_step_11 : decode cX7_step 11 = .ok (.i2l, 1) := by decide +kernel
theorem dX7_step_12 : decode cX7_step 12 = .ok (.lconst 0, 1) := by decide +kernel
theorem dX7_step_13 : decode cX7_step 13 = .ok (.aload_n 0, 1) := by decide +kernel
theorem dX7_step_14 : decode cX7_step 14 = .ok (.iload_n 1, 1) := by decide +kernel
theorem dX7_step_15 : decode cX7_step 15 = .ok (.iconst 2, 1) := by decide +kernel
theorem dX7_step_16 : decode cX7_step 16 = .ok (.invokevirtual 66, 3) := by decide +kernel
theorem dX7_step_19 : decode cX7_step 19 = .ok (.i2l, 1) := by decide +kernel
theorem dX7_step_20 : decode cX7_step 20 = .ok (.lconst 1, 1) := by decide +kernel
theorem dX7_step_21 : decode cX7_step 21 = .ok (.lsub, 1) := by decide +kernel
theorem dX7_step_22 : decode cX7_step 22 = .ok (.invokestatic 50, 3) := by decide +kernel
theorem dX7_step_25 : decode cX7_step 25 = .ok (.ifCond .eq 13, 3) := by decide +kernel
theorem dX7_step_28 : decode cX7_step 28 = .ok (.iload_n 3, 1) := by decide +kernel
theorem dX7_step_29 : decode cX7_step 29 = .ok (.i2l, 1) := by decide +kernel
theorem dX7_step_30 : decode cX7_step 30 = .ok (.lconst 0, 1) := by decide +kernel
theorem dX7_step_31 : decode cX7_step 31 = .ok (.lconst 1, 1) := by decide +kernel
theorem dX7_step_32 : decode cX7_step 32 = .ok (.invokestatic 50, 3) := by decide +kernel
theorem dX7_step_35 : decode cX7_step 35 = .ok (.ifCond .ne 6, 3) := by decide +kernel
theorem dX7_step_38 : decode cX7_step 38 = .ok (.bipush (-2), 2) := by decide +kernel
theorem dX7_step_40 : decode cX7_step 40 = .ok (.ireturn, 1) := by decide +kernel
theorem dX7_step_41 : decode cX7_step 41 = .ok (.aload_n 0, 1) := by decide +kernel
theorem dX7_step_42 : decode cX7_step 42 = .ok (.iload_n 1, 1) := by decide +kernel
theorem dX7_step_43 : decode cX7_step 43 = .ok (.iconst 3, 1) := by decide +kernel
theorem dX7_step_44 : decode cX7_step 44 = .ok (.iload_n 2, 1) := by decide +kernel
theorem dX7_step_45 : decode cX7_step 45 = .ok (.iadd, 1) := by decide +kernel
theorem dX7_step_46 : decode cX7_step 46 = .ok (.invokevirtual 66, 3) := by decide +kernel
theorem dX7_step_49 : decode cX7_step 49 = .ok (.istore 4, 2) := by decide +kernel
theorem dX7_step_51 : decode cX7_step 51 = .ok (.iload_n 3, 1) := by decide +kernel
theorem dX7_step_52 : decode cX7_step 52 = .ok (.ifCond .ne 14, 3) := by decide +kernel
theorem dX7_step_55 : decode cX7_step 55 = .ok (.bipush 97, 2) := by decide +kernel
theorem dX7_step_57 : decode cX7_step 57 = .ok (.iload 4, 2) := by decide +kernel
theorem dX7_step_59 : decode cX7_step 59 = .ok (.bipush 8, 2) := by decide +kernel
theorem dX7_step_61 : decode cX7_step 61 = .ok (.irem, 1) := by decide +kernel
theorem dX7_step_62 : decode cX7_step 62 = .ok (.iadd, 1) := by decide +kernel
theorem dX7_step_63 : decode cX7_step 63 = .ok (.goto 8, 3) := by decide +kernel
theorem dX7_step_66 : decode cX7_step 66 = .ok (.iload 4, 2) := by decide +kernel
theorem dX7_step_68 : decode cX7_step 68 = .ok (.bipush 8, 2) := by decide +kernel
theorem dX7_step_70 : decode cX7_step 70 = .ok (.idiv, 1) := by decide +kernel
theorem dX7_step_71 : decode cX7_step 71 = .ok (.ireturn, 1) := by decide +kernel
theorem dX7_match_0 : decode cX7_match 0 = .ok (.aload_n 0, 1) := by decide +kernel
theorem dX7_match_1 : decode cX7_match 1 = .ok (.iload_n 1, 1) := by decide +kernel
theorem dX7_match_2 : decode cX7_match 2 = .ok (.invokevirtual 175, 3) := by decide +kernel
theorem dX7_match_5 : decode cX7_match 5 = .ok (.ifCond .ne 5, 3) := by decide +kernel
theorem dX7_match_8 : decode cX7_match 8 = .ok (.iconst (-1), 1) := by decide +kernel
theorem dX7_match_9 : decode cX7_match 9 = .ok (.ireturn, 1) := by decide +kernel
theorem dX7_match_10 : decode cX7_match 10 = .ok (.iload_n 2, 1) := by decide +kernel
theorem dX7_match_11 : decode cX7_match 11 = .ok (.ifCond .lt 20, 3) := by decide +kernel
theorem dX7_match_14 : decode cX7_match 14 = .ok (.iload_n 3, 1) := by decide +kernel
theorem dX7_match_15 : decode cX7_match 15 = .ok (.i2l, 1) := by decide +kernel
theorem dX7_match_16 : decode cX7_match 16 = .ok (.lconst 0, 1) := by decide +kernel
theorem dX7_match_17 : decode cX7_match 17 = .ok (.aload_n 0, 1) := by decide +kernel
theorem dX7_match_18 : decode cX7_match 18 = .ok (.iload_n 1, 1) := by decide +kernel
theorem dX7_match_19 : decode cX7_match 19 = .ok (.invokevirtual 89, 3) := by decide +kernel
theorem dX7_match_22 : decode cX7_match 22 = .ok (.i2l, 1) := by decide +kernel
theorem dX7_match_23 : decode cX7_match 23 = .ok (.lconst 1, 1) := by decide +kernel
theorem dX7_match_24 : decode cX7_match 24 = .ok (.lsub, 1) := by decide +kernel
theorem dX7_match_25 : decode cX7_match 25 = .ok (.invokestatic 50, 3) := by decide +kernel
theorem dX7_match_28 : decode cX7_match 28 = .ok (.ifCond .ne 6, 3) := by decide +kernel
theorem dX7_match_31 : decode cX7_match 31 = .ok (.bipush (-2), 2) := by decide +kernel
theorem dX7_match_33 : decode cX7_match 33 = .ok (.ireturn, 1) := by decide +kernel
theorem dX7_match_34 : decode cX7_match 34 = .ok (.aload_n 0, 1) := by decide +kernel
theorem dX7_match_35 : decode cX7_match 35 = .ok (.iload_n 2, 1) := by decide +kernel
theorem dX7_match_36 : decode cX7_match 36 = .ok (.putfield 79, 3) := by decide +kernel
theorem dX7_match_39 : decode cX7_match 39 = .ok (.aload_n 0, 1) := by decide +kernel
theorem dX7_match_40 : decode cX7_match 40 = .ok (.iload_n 1, 1) := by decide +kernel
theorem dX7_match_41 : decode cX7_match 41 = .ok (.invokevirtual 109, 3) := by decide +kernel
theorem dX7_match_44 : decode cX7_match 44 = .ok (.iload_n 2, 1) := by decide +kernel
theorem dX7_match_45 : decode cX7_match 45 = .ok (.aload_n 0, 1) := by decide +kernel
theorem dX7_match_46 : decode cX7_match 46 = .ok (.getfield 76, 3) := by decide +kernel
theorem dX7_match_49 : decode cX7_match 49 = .ok (.if_icmp .ge 12, 3) := by decide +kernel
theorem dX7_match_52 : decode cX7_match 52 = .ok (.aload_n 0, 1) := by decide +kernel
theorem dX7_match_53 : decode cX7_match 53 = .ok (.getfield 37, 3) := by decide +kernel
theorem dX7_match_56 : decode cX7_match 56 = .ok (.iload_n 3, 1) := by decide +kernel
theorem dX7_match_57 : decode cX7_match 57 = .ok (.iaload, 1) := by decide +kernel
theorem dX7_match_58 : decode cX7_match 58 = .ok (.goto 5, 3) := by decide +kernel
theorem dX7_match_61 : decode cX7_match 61 = .ok (.bipush (-5), 2) := by decide +kernel
theorem dX7_match_63 : decode cX7_match 63 = .ok (.ireturn, 1) := by decide +kernel
theorem dX7_ifEvent_0 : decode cX7_ifEvent 0 = .ok (.iload_n 1, 1) := by decide +kernel
theorem dX7_ifEvent_1 : decode cX7_ifEvent 1 = .ok (.iload_n 2, 1) := by decide +kernel
theorem dX7_ifEvent_2 : decode cX7_ifEvent 2 = .ok (.iload_n 3, 1) := by decide +kernel
theorem dX7_ifEvent_3 : decode cX7_ifEvent 3 = .ok (.invokestatic 112, 3) := by decide +kernel
theorem dX7_ifEvent_6 : decode cX7_ifEvent 6 = .ok (.ifCond .ne 6, 3) := by decide +kernel
theorem dX7_ifEvent_9 : decode cX7_ifEvent 9 = .ok (.bipush (-2), 2) := by decide +kernel
theorem dX7_ifEvent_11 : decode cX7_ifEvent 11 = .ok (.ireturn, 1) := by decide +kernel
theorem dX7_ifEvent_12 : decode cX7_ifEvent 12 = .ok (.aload_n 0, 1) := by decide +kernel
theorem dX7_ifEvent_13 : decode cX7_ifEvent 13 = .ok (.iload_n 3, 1) := by decide +kernel
theorem dX7_ifEvent_14 : decode cX7_ifEvent 14 = .ok (.invokevirtual 116, 3) := by decide +kernel
theorem dX7_ifEvent_17 : decode cX7_ifEvent 17 = .ok (.ifCond .eq 6, 3) := by decide +kernel
theorem dX7_ifEvent_20 : decode cX7_ifEvent 20 = .ok (.bipush (-4), 2) := by decide +kernel
theorem dX7_ifEvent_22 : decode cX7_ifEvent 22 = .ok (.ireturn, 1) := by decide +kernel
theorem dX7_ifEvent_23 : decode cX7_ifEvent 23 = .ok (.aload_n 0, 1) := by decide +kernel
theorem dX7_ifEvent_24 : decode cX7_ifEvent 24 = .ok (.getfield 7, 3) := by decide +kernel
theorem dX7_ifEvent_27 : decode cX7_ifEvent 27 = .ok (.iconst 1, 1) := by decide +kernel
theorem dX7_ifEvent_28 : decode cX7_ifEvent 28 = .ok (.iaload, 1) := by decide +kernel
theorem dX7_ifEvent_29 : decode cX7_ifEvent 29 = .ok (.istore 4, 2) := by decide +kernel
theorem dX7_ifEvent_31 : decode cX7_ifEvent 31 = .ok (.aload_n 0, 1) := by decide +kernel
theorem dX7_ifEvent_32 : decode cX7_ifEvent 32 = .ok (.iload_n 1, 1) := by decide +kernel
theorem dX7_ifEvent_33 : decode cX7_ifEvent 33 = .ok (.iload_n 2, 1) := by decide +kernel
theorem dX7_ifEvent_34 : decode cX7_ifEvent 34 = .ok (.iload_n 3, 1) := by decide +kernel
theorem dX7_ifEvent_35 : decode cX7_ifEvent 35 = .ok (.invokevirtual 123, 3) := by decide +kernel
theorem dX7_ifEvent_38 : decode cX7_ifEvent 38 = .ok (.aload_n 0, 1) := by decide +kernel
theorem dX7_ifEvent_39 : decode cX7_ifEvent 39 = .ok (.invokevirtual 189, 3) := by decide +kernel
theorem dX7_ifEvent_42 : decode cX7_ifEvent 42 = .ok (.istore 5, 2) := by decide +kernel
theorem dX7_ifEvent_44 : decode cX7_ifEvent 44 = .ok (.aload_n 0, 1) := by decide +kernel
theorem dX7_ifEvent_45 : decode cX7_ifEvent 45 = .ok (.getfield 7, 3) := by decide +kernel
theorem dX7_ifEvent_48 : decode cX7_ifEvent 48 = .ok (.iconst 0, 1) := by decide +kernel
theorem dX7_ifEvent_49 : decode cX7_ifEvent 49 = .ok (.dup2, 1) := by decide +kernel
theorem dX7_ifEvent_50 : decode cX7_ifEvent 50 = .ok (.iaload, 1) := by decide +kernel
theorem dX7_ifEvent_51 : decode cX7_ifEvent 51 = .ok (.iconst 1, 1) := by decide +kernel
theorem dX7_ifEvent_52 : decode cX7_ifEvent 52 = .ok (.isub, 1) := by decide +kernel
theorem dX7_ifEvent_53 : decode cX7_ifEvent 53 = .ok (.iastore, 1) := by decide +kernel
theorem dX7_ifEvent_54 : decode cX7_ifEvent 54 = .ok (.aload_n 0, 1) := by decide +kernel
theorem dX7_ifEvent_55 : decode cX7_ifEvent 55 = .ok (.getfield 7, 3) := by decide +kernel
theorem dX7_ifEvent_58 : decode cX7_ifEvent 58 = .ok (.iconst 1, 1) := by decide +kernel
theorem dX7_ifEvent_59 : decode cX7_ifEvent 59 = .ok (.iload 4, 2) := by decide +kernel
theorem dX7_ifEvent_61 : decode cX7_ifEvent 61 = .ok (.iastore, 1) := by decide +kernel
theorem dX7_ifEvent_62 : decode cX7_ifEvent 62 = .ok (.iload 5, 2) := by decide +kernel
theorem dX7_ifEvent_64 : decode cX7_ifEvent 64 = .ok (.ireturn, 1) := by decide +kernel
theorem dX7_unmatched_0 : decode cX7_unmatched 0 = .ok (.aload_n 0, 1) := by decide +kernel
theorem dX7_unmatched_1 : decode cX7_unmatched 1 = .ok (.invokevirtual 189, 3) := by decide +kernel
theorem dX7_unmatched_4 : decode cX7_unmatched 4 = .ok (.istore_n 1, 1) := by decide +kernel
theorem dX7_unmatched_5 : decode cX7_unmatched 5 = .ok (.iconst 0, 1) := by decide +kernel
theorem dX7_unmatched_6 : decode cX7_unmatched 6 = .ok (.istore_n 2, 1) := by decide +kernel
theorem dX7_unmatched_7 : decode cX7_unmatched 7 = .ok (.iconst 0, 1) := by decide +kernel
theorem dX7_unmatched_8 : decode cX7_unmatched 8 = .ok (.istore_n 3, 1) := by decide +kernel
theorem dX7_unmatched_9 : decode cX7_unmatched 9 = .ok (.iload_n 3, 1) := by decide +kernel
theorem dX7_unmatched_10 : decode cX7_unmatched 10 = .ok (.aload_n 0, 1) := by decide +kernel
theorem dX7_unmatched_11 : decode cX7_unmatched 11 = .ok (.getfield 7, 3) := by decide +kernel
theorem dX7_unmatched_14 : decode cX7_unmatched 14 = .ok (.iconst 0, 1) := by decide +kernel
theorem dX7_unmatched_15 : decode cX7_unmatched 15 = .ok (.iaload, 1) := by decide +kernel
theorem dX7_unmatched_16 : decode cX7_unmatched 16 = .ok (.if_icmp .ge 26, 3) := by decide +kernel
theorem dX7_unmatched_19 : decode cX7_unmatched 19 = .ok (.iload_n 2, 1) := by decide +kernel
theorem dX7_unmatched_20 : decode cX7_unmatched 20 = .ok (.aload_n 0, 1) := by decide +kernel
theorem dX7_unmatched_21 : decode cX7_unmatched 21 = .ok (.getfield 34, 3) := by decide +kernel
theorem dX7_unmatched_24 : decode cX7_unmatched 24 = .ok (.iload_n 3, 1) := by decide +kernel
theorem dX7_unmatched_25 : decode cX7_unmatched 25 = .ok (.iaload, 1) := by decide +kernel
theorem dX7_unmatched_26 : decode cX7_unmatched 26 = .ok (.ifCond .ne 7, 3) := by decide +kernel
theorem dX7_unmatched_29 : decode cX7_unmatched 29 = .ok (.iconst 1, 1) := by decide +kernel
theorem dX7_unmatched_30 : decode cX7_unmatched 30 = .ok (.goto 4, 3) := by decide +kernel
theorem dX7_unmatched_33 : decode cX7_unmatched 33 = .ok (.iconst 0, 1) := by decide +kernel
theorem dX7_unmatched_34 : decode cX7_unmatched 34 = .ok (.iadd, 1) := by decide +kernel
theorem dX7_unmatched_35 : decode cX7_unmatched 35 = .ok (.istore_n 2, 1) := by decide +kernel
theorem dX7_unmatched_36 : decode cX7_unmatched 36 = .ok (.iinc 3 1, 3) := by decide +kernel
theorem dX7_unmatched_39 : decode cX7_unmatched 39 = .ok (.goto (-30), 3) := by decide +kernel
theorem dX7_unmatched_42 : decode cX7_unmatched 42 = .ok (.iload_n 2, 1) := by decide +kernel
theorem dX7_unmatched_43 : decode cX7_unmatched 43 = .ok (.ireturn, 1) := by decide +kernel
theorem dX7_count_0 : decode cX7_count 0 = .ok (.iload_n 1, 1) := by decide +kernel
theorem dX7_count_1 : decode cX7_count 1 = .ok (.tableswitch 104 0 8 #[51, 58, 65, 70, 77, 82, 89, 94, 99], 51) := by decide +kernel
theorem dX7_count_52 : decode cX7_count 52 = .ok (.aload_n 0, 1) := by decide +kernel
theorem dX7_count_53 : decode cX7_count 53 = .ok (.getfield 7, 3) := by decide +kernel
theorem dX7_count_56 : decode cX7_count 56 = .ok (.iconst 0, 1) := by decide +kernel
theorem dX7_count_57 : decode cX7_count 57 = .ok (.iaload, 1) := by decide +kernel
theorem dX7_count_58 : decode cX7_count 58 = .ok (.ireturn, 1) := by decide +kernel
theorem dX7_count_59 : decode cX7_count 59 = .ok (.aload_n 0, 1) := by decide +kernel
theorem dX7_count_60 : decode cX7_count 60 = .ok (.getfield 7, 3) := by decide +kernel
theorem dX7_count_63 : decode cX7_count 63 = .ok (.iconst 3, 1) := by decide +kernel
theorem dX7_count_64 : decode cX7_count 64 = .ok (.iaload, 1) := by decide +kernel
theorem dX7_count_65 : decode cX7_count 65 = .ok (.ireturn, 1) := by decide +kernel
theorem dX7_count_66 : decode cX7_count 66 = .ok (.aload_n 0, 1) := by decide +kernel
theorem dX7_count_67 : decode cX7_count 67 = .ok (.invokevirtual 189, 3) := by decide +kernel
theorem dX7_count_70 : decode cX7_count 70 = .ok (.ireturn, 1) := by decide +kernel
theorem dX7_count_71 : decode cX7_count 71 = .ok (.aload_n 0, 1) := by decide +kernel
theorem dX7_count_72 : decode cX7_count 72 = .ok (.getfield 7, 3) := by decide +kernel
theorem dX7_count_75 : decode cX7_count 75 = .ok (.iconst 1, 1) := by decide +kernel
theorem dX7_count_76 : decode cX7_count 76 = .ok (.iaload, 1) := by decide +kernel
theorem dX7_count_77 : decode cX7_count 77 = .ok (.ireturn, 1) := by decide +kernel
theorem dX7_count_78 : decode cX7_count 78 = .ok (.aload_n 0, 1) := by decide +kernel
theorem dX7_count_79 : decode cX7_count 79 = .ok (.invokevirtual 85, 3) := by decide +kernel
theorem dX7_count_82 : decode cX7_count 82 = .ok (.ireturn, 1) := by decide +kernel
theorem dX7_count_83 : decode cX7_count 83 = .ok (.aload_n 0, 1) := by decide +kernel
theorem dX7_count_84 : decode cX7_count 84 = .ok (.getfield 7, 3) := by decide +kernel
theorem dX7_count_87 : decode cX7_count 87 = .ok (.iconst 2, 1) := by decide +kernel
theorem dX7_count_88 : decode cX7_count 88 = .ok (.iaload, 1) := by decide +kernel
theorem dX7_count_89 : decode cX7_count 89 = .ok (.ireturn, 1) := by decide +kernel
theorem dX7_count_90 : decode cX7_count 90 = .ok (.aload_n 0, 1) := by decide +kernel
theorem dX7_count_91 : decode cX7_count 91 = .ok (.invokevirtual 194, 3) := by decide +kernel
theorem dX7_count_94 : decode cX7_count 94 = .ok (.ireturn, 1) := by decide +kernel
theorem dX7_count_95 : decode cX7_count 95 = .ok (.aload_n 0, 1) := by decide +kernel
theorem dX7_count_96 : decode cX7_count 96 = .ok (.getfield 46, 3) := by decide +kernel
theorem dX7_count_99 : decode cX7_count 99 = .ok (.ireturn, 1) := by decide +kernel
theorem dX7_count_100 : decode cX7_count 100 = .ok (.aload_n 0, 1) := by decide +kernel
theorem dX7_count_101 : decode cX7_count 101 = .ok (.getfield 132, 3) := by decide +kernel
theorem dX7_count_104 : decode cX7_count 104 = .ok (.ireturn, 1) := by decide +kernel
theorem dX7_count_105 : decode cX7_count 105 = .ok (.bipush (-2), 2) := by decide +kernel
theorem dX7_count_107 : decode cX7_count 107 = .ok (.ireturn, 1) := by decide +kernel
theorem dJ9_max_7cf53_0 : decode cJ9_max_7cf53 0 = .ok (.iload_n 0, 1) := by decide +kernel
theorem dJ9_max_7cf53_1 : decode cJ9_max_7cf53 1 = .ok (.iload_n 1, 1) := by decide +kernel
theorem dJ9_max_7cf53_2 : decode cJ9_max_7cf53 2 = .ok (.if_icmp .lt 7, 3) := by decide +kernel
theorem dJ9_max_7cf53_5 : decode cJ9_max_7cf53 5 = .ok (.iload_n 0, 1) := by decide +kernel
theorem dJ9_max_7cf53_6 : decode cJ9_max_7cf53 6 = .ok (.goto 4, 3) := by decide +kernel
theorem dJ9_max_7cf53_9 : decode cJ9_max_7cf53 9 = .ok (.iload_n 1, 1) := by decide +kernel
theorem dJ9_max_7cf53_10 : decode cJ9_max_7cf53 10 = .ok (.ireturn, 1) := by decide +kernel
theorem dJ0_length_8abf5_0 : decode cJ0_length_8abf5 0 = .ok (.aload_n 0, 1) := by decide +kernel
theorem dJ0_length_8abf5_1 : decode cJ0_length_8abf5 1 = .ok (.getfield 9, 3) := by decide +kernel
theorem dJ0_length_8abf5_4 : decode cJ0_length_8abf5 4 = .ok (.arraylength, 1) := by decide +kernel
theorem dJ0_length_8abf5_5 : decode cJ0_length_8abf5 5 = .ok (.aload_n 0, 1) := by decide +kernel
theorem dJ0_length_8abf5_6 : decode cJ0_length_8abf5 6 = .ok (.invokevirtual 335, 3) := by decide +kernel
theorem dJ0_length_8abf5_9 : decode cJ0_length_8abf5 9 = .ok (.ishr, 1) := by decide +kernel
theorem dJ0_length_8abf5_10 : decode cJ0_length_8abf5 10 = .ok (.ireturn, 1) := by decide +kernel
theorem dJ0_charAt_5068e_0 : decode cJ0_charAt_5068e 0 = .ok (.aload_n 0, 1) := by decide +kernel
theorem dJ0_charAt_5068e_1 : decode cJ0_charAt_5068e 1 = .ok (.invokevirtual 492, 3) := by decide +kernel
theorem dJ0_charAt_5068e_4 : decode cJ0_charAt_5068e 4 = .ok (.ifCond .eq 12, 3) := by decide +kernel
theorem dJ0_charAt_5068e_7 : decode cJ0_charAt_5068e 7 = .ok (.aload_n 0, 1) := by decide +kernel
theorem dJ0_charAt_5068e_8 : decode cJ0_charAt_5068e 8 = .ok (.getfield 9, 3) := by decide +kernel
theorem dJ0_charAt_5068e_11 : decode cJ0_charAt_5068e 11 = .ok (.iload_n 1, 1) := by decide +kernel
theorem dJ0_charAt_5068e_12 : decode cJ0_charAt_5068e 12 = .ok (.invokestatic 495, 3) := by decide +kernel
theorem dJ0_charAt_5068e_15 : decode cJ0_charAt_5068e 15 = .ok (.ireturn, 1) := by decide +kernel
theorem dJ0_charAt_5068e_16 : decode cJ0_charAt_5068e 16 = .ok (.aload_n 0, 1) := by decide +kernel
theorem dJ0_charAt_5068e_17 : decode cJ0_charAt_5068e 17 = .ok (.getfield 9, 3) := by decide +kernel
theorem dJ0_charAt_5068e_20 : decode cJ0_charAt_5068e 20 = .ok (.iload_n 1, 1) := by decide +kernel
theorem dJ0_charAt_5068e_21 : decode cJ0_charAt_5068e 21 = .ok (.invokestatic 498, 3) := by decide +kernel
theorem dJ0_charAt_5068e_24 : decode cJ0_charAt_5068e 24 = .ok (.ireturn, 1) := by decide +kernel
theorem dJ0_coder_7d493_0 : decode cJ0_coder_7d493 0 = .ok (.getstatic 38, 3) := by decide +kernel
theorem dJ0_coder_7d493_3 : decode cJ0_coder_7d493 3 = .ok (.ifCond .eq 10, 3) := by decide +kernel
theorem dJ0_coder_7d493_6 : decode cJ0_coder_7d493 6 = .ok (.aload_n 0, 1) := by decide +kernel
theorem dJ0_coder_7d493_7 : decode cJ0_coder_7d493 7 = .ok (.getfield 15, 3) := by decide +kernel
theorem dJ0_coder_7d493_10 : decode cJ0_coder_7d493 10 = .ok (.goto 4, 3) := by decide +kernel
theorem dJ0_coder_7d493_13 : decode cJ0_coder_7d493 13 = .ok (.iconst 1, 1) := by decide +kernel
theorem dJ0_coder_7d493_14 : decode cJ0_coder_7d493 14 = .ok (.ireturn, 1) := by decide +kernel
theorem dJ0_isLatin1_aae02_0 : decode cJ0_isLatin1_aae02 0 = .ok (.getstatic 38, 3) := by decide +kernel
theorem dJ0_isLatin1_aae02_3 : decode cJ0_isLatin1_aae02 3 = .ok (.ifCond .eq 14, 3) := by decide +kernel
theorem dJ0_isLatin1_aae02_6 : decode cJ0_isLatin1_aae02 6 = .ok (.aload_n 0, 1) := by decide +kernel
theorem dJ0_isLatin1_aae02_7 : decode cJ0_isLatin1_aae02 7 = .ok (.getfield 15, 3) := by decide +kernel
theorem dJ0_isLatin1_aae02_10 : decode cJ0_isLatin1_aae02 10 = .ok (.ifCond .ne 7, 3) := by decide +kernel
theorem dJ0_isLatin1_aae02_13 : decode cJ0_isLatin1_aae02 13 = .ok (.iconst 1, 1) := by decide +kernel
theorem dJ0_isLatin1_aae02_14 : decode cJ0_isLatin1_aae02 14 = .ok (.goto 4, 3) := by decide +kernel
theorem dJ0_isLatin1_aae02_17 : decode cJ0_isLatin1_aae02 17 = .ok (.iconst 0, 1) := by decide +kernel
theorem dJ0_isLatin1_aae02_18 : decode cJ0_isLatin1_aae02 18 = .ok (.ireturn, 1) := by decide +kernel
theorem dJ0_checkIndex_df160_0 : decode cJ0_checkIndex_df160 0 = .ok (.iload_n 0, 1) := by decide +kernel
theorem dJ0_checkIndex_df160_1 : decode cJ0_checkIndex_df160 1 = .ok (.iload_n 1, 1) := by decide +kernel
theorem dJ0_checkIndex_df160_2 : decode cJ0_checkIndex_df160 2 = .ok (.getstatic 1053, 3) := by decide +kernel
theorem dJ0_checkIndex_df160_5 : decode cJ0_checkIndex_df160 5 = .ok (.invokestatic 1059, 3) := by decide +kernel
theorem dJ0_checkIndex_df160_8 : decode cJ0_checkIndex_df160 8 = .ok (.pop, 1) := by decide +kernel
theorem dJ0_checkIndex_df160_9 : decode cJ0_checkIndex_df160 9 = .ok (.return_, 1) := by decide +kernel
theorem dJ1_charAt_3b067_0 : decode cJ1_charAt_3b067 0 = .ok (.iload_n 1, 1) := by decide +kernel
theorem dJ1_charAt_3b067_1 : decode cJ1_charAt_3b067 1 = .ok (.aload_n 0, 1) := by decide +kernel
theorem dJ1_charAt_3b067_2 : decode cJ1_charAt_3b067 2 = .ok (.arraylength, 1) := by decide +kernel
theorem dJ1_charAt_3b067_3 : decode cJ1_charAt_3b067 3 = .ok (.invokestatic 9, 3) := by decide +kernel
theorem dJ1_charAt_3b067_6 : decode cJ1_charAt_3b067 6 = .ok (.aload_n 0, 1) := by decide +kernel
theorem dJ1_charAt_3b067_7 : decode cJ1_charAt_3b067 7 = .ok (.iload_n 1, 1) := by decide +kernel
theorem dJ1_charAt_3b067_8 : decode cJ1_charAt_3b067 8 = .ok (.baload, 1) := by decide +kernel
theorem dJ1_charAt_3b067_9 : decode cJ1_charAt_3b067 9 = .ok (.sipush 255, 3) := by decide +kernel
theorem dJ1_charAt_3b067_12 : decode cJ1_charAt_3b067 12 = .ok (.iand, 1) := by decide +kernel
theorem dJ1_charAt_3b067_13 : decode cJ1_charAt_3b067 13 = .ok (.i2c, 1) := by decide +kernel
theorem dJ1_charAt_3b067_14 : decode cJ1_charAt_3b067 14 = .ok (.ireturn, 1) := by decide +kernel
theorem dJ2_getChar_3b067_0 : decode cJ2_getChar_3b067 0 = .ok (.getstatic 44, 3) := by decide +kernel
theorem dJ2_getChar_3b067_3 : decode cJ2_getChar_3b067 3 = .ok (.ifCond .ne 25, 3) := by decide +kernel
theorem dJ2_getChar_3b067_6 : decode cJ2_getChar_3b067 6 = .ok (.iload_n 1, 1) := by decide +kernel
theorem dJ2_getChar_3b067_7 : decode cJ2_getChar_3b067 7 = .ok (.ifCond .lt 11, 3) := by decide +kernel
theorem dJ2_getChar_3b067_10 : decode cJ2_getChar_3b067 10 = .ok (.iload_n 1, 1) := by decide +kernel
theorem dJ2_getChar_3b067_11 : decode cJ2_getChar_3b067 11 = .ok (.aload_n 0, 1) := by decide +kernel
theorem dJ2_getChar_3b067_12 : decode cJ2_getChar_3b067 12 = .ok (.invokestatic 48, 3) := by decide +kernel
theorem dJ2_getChar_3b067_15 : decode cJ2_getChar_3b067 15 = .ok (.if_icmp .lt 13, 3) := by decide +kernel
theorem dJ2_getChar_3b067_18 : decode cJ2_getChar_3b067 18 = .ok (.new 52, 3) := by decide +kernel
theorem dJ2_getChar_3b067_21 : decode cJ2_getChar_3b067 21 = .ok (.dup, 1) := by decide +kernel
theorem dJ2_getChar_3b067_22 : decode cJ2_getChar_3b067 22 = .ok (.ldc 54, 2) := by decide +kernel
theorem dJ2_getChar_3b067_24 : decode cJ2_getChar_3b067 24 = .ok (.invokespecial 56, 3) := by decide +kernel
theorem dJ2_getChar_3b067_27 : decode cJ2_getChar_3b067 27 = .ok (.athrow, 1) := by decide +kernel
theorem dJ2_getChar_3b067_28 : decode cJ2_getChar_3b067 28 = .ok (.iload_n 1, 1) := by decide +kernel
theorem dJ2_getChar_3b067_29 : decode cJ2_getChar_3b067 29 = .ok (.iconst 1, 1) := by decide +kernel
theorem dJ2_getChar_3b067_30 : decode cJ2_getChar_3b067 30 = .ok (.ishl, 1) := by decide +kernel
theorem dJ2_getChar_3b067_31 : decode cJ2_getChar_3b067 31 = .ok (.istore_n 1, 1) := by decide +kernel
theorem dJ2_getChar_3b067_32 : decode cJ2_getChar_3b067 32 = .ok (.aload_n 0, 1) := by decide +kernel
theorem dJ2_getChar_3b067_33 : decode cJ2_getChar_3b067 33 = .ok (.iload_n 1, 1) := by decide +kernel
theorem dJ2_getChar_3b067_34 : decode cJ2_getChar_3b067 34 = .ok (.iinc 1 1, 3) := by decide +kernel
theorem dJ2_getChar_3b067_37 : decode cJ2_getChar_3b067 37 = .ok (.baload, 1) := by decide +kernel
theorem dJ2_getChar_3b067_38 : decode cJ2_getChar_3b067 38 = .ok (.sipush 255, 3) := by decide +kernel
theorem dJ2_getChar_3b067_41 : decode cJ2_getChar_3b067 41 = .ok (.iand, 1) := by decide +kernel
theorem dJ2_getChar_3b067_42 : decode cJ2_getChar_3b067 42 = .ok (.getstatic 59, 3) := by decide +kernel
theorem dJ2_getChar_3b067_45 : decode cJ2_getChar_3b067 45 = .ok (.ishl, 1) := by decide +kernel
theorem dJ2_getChar_3b067_46 : decode cJ2_getChar_3b067 46 = .ok (.aload_n 0, 1) := by decide +kernel
theorem dJ2_getChar_3b067_47 : decode cJ2_getChar_3b067 47 = .ok (.iload_n 1, 1) := by decide +kernel
theorem dJ2_getChar_3b067_48 : decode cJ2_getChar_3b067 48 = .ok (.baload, 1) := by decide +kernel
theorem dJ2_getChar_3b067_49 : decode cJ2_getChar_3b067 49 = .ok (.sipush 255, 3) := by decide +kernel
theorem dJ2_getChar_3b067_52 : decode cJ2_getChar_3b067 52 = .ok (.iand, 1) := by decide +kernel
theorem dJ2_getChar_3b067_53 : decode cJ2_getChar_3b067 53 = .ok (.getstatic 63, 3) := by decide +kernel
theorem dJ2_getChar_3b067_56 : decode cJ2_getChar_3b067 56 = .ok (.ishl, 1) := by decide +kernel
theorem dJ2_getChar_3b067_57 : decode cJ2_getChar_3b067 57 = .ok (.ior, 1) := by decide +kernel
theorem dJ2_getChar_3b067_58 : decode cJ2_getChar_3b067 58 = .ok (.i2c, 1) := by decide +kernel
theorem dJ2_getChar_3b067_59 : decode cJ2_getChar_3b067 59 = .ok (.ireturn, 1) := by decide +kernel
theorem dJ2_length_9d52b_0 : decode cJ2_length_9d52b 0 = .ok (.aload_n 0, 1) := by decide +kernel
theorem dJ2_length_9d52b_1 : decode cJ2_length_9d52b 1 = .ok (.arraylength, 1) := by decide +kernel
theorem dJ2_length_9d52b_2 : decode cJ2_length_9d52b 2 = .ok (.iconst 1, 1) := by decide +kernel
theorem dJ2_length_9d52b_3 : decode cJ2_length_9d52b 3 = .ok (.ishr, 1) := by decide +kernel
theorem dJ2_length_9d52b_4 : decode cJ2_length_9d52b 4 = .ok (.ireturn, 1) := by decide +kernel
theorem dJ2_charAt_3b067_0 : decode cJ2_charAt_3b067 0 = .ok (.iload_n 1, 1) := by decide +kernel
theorem dJ2_charAt_3b067_1 : decode cJ2_charAt_3b067 1 = .ok (.aload_n 0, 1) := by decide +kernel
theorem dJ2_charAt_3b067_2 : decode cJ2_charAt_3b067 2 = .ok (.invokestatic 67, 3) := by decide +kernel
theorem dJ2_charAt_3b067_5 : decode cJ2_charAt_3b067 5 = .ok (.aload_n 0, 1) := by decide +kernel
theorem dJ2_charAt_3b067_6 : decode cJ2_charAt_3b067 6 = .ok (.iload_n 1, 1) := by decide +kernel
theorem dJ2_charAt_3b067_7 : decode cJ2_charAt_3b067 7 = .ok (.invokestatic 71, 3) := by decide +kernel
theorem dJ2_charAt_3b067_10 : decode cJ2_charAt_3b067 10 = .ok (.ireturn, 1) := by decide +kernel
theorem dJ2_checkIndex_2214a_0 : decode cJ2_checkIndex_2214a 0 = .ok (.iload_n 0, 1) := by decide +kernel
theorem dJ2_checkIndex_2214a_1 : decode cJ2_checkIndex_2214a 1 = .ok (.aload_n 1, 1) := by decide +kernel
theorem dJ2_checkIndex_2214a_2 : decode cJ2_checkIndex_2214a 2 = .ok (.invokestatic 48, 3) := by decide +kernel
theorem dJ2_checkIndex_2214a_5 : decode cJ2_checkIndex_2214a 5 = .ok (.invokestatic 414, 3) := by decide +kernel
theorem dJ2_checkIndex_2214a_8 : decode cJ2_checkIndex_2214a 8 = .ok (.return_, 1) := by decide +kernel
theorem dJ3_checkIndex_8e157_0 : decode cJ3_checkIndex_8e157 0 = .ok (.iload_n 0, 1) := by decide +kernel
theorem dJ3_checkIndex_8e157_1 : decode cJ3_checkIndex_8e157 1 = .ok (.ifCond .lt 8, 3) := by decide +kernel
theorem dJ3_checkIndex_8e157_4 : decode cJ3_checkIndex_8e157 4 = .ok (.iload_n 0, 1) := by decide +kernel
theorem dJ3_checkIndex_8e157_5 : decode cJ3_checkIndex_8e157 5 = .ok (.iload_n 1, 1) := by decide +kernel
theorem dJ3_checkIndex_8e157_6 : decode cJ3_checkIndex_8e157 6 = .ok (.if_icmp .lt 10, 3) := by decide +kernel
theorem dJ3_checkIndex_8e157_9 : decode cJ3_checkIndex_8e157 9 = .ok (.aload_n 2, 1) := by decide +kernel
theorem dJ3_checkIndex_8e157_10 : decode cJ3_checkIndex_8e157 10 = .ok (.iload_n 0, 1) := by decide +kernel
theorem dJ3_checkIndex_8e157_11 : decode cJ3_checkIndex_8e157 11 = .ok (.iload_n 1, 1) := by decide +kernel
theorem dJ3_checkIndex_8e157_12 : decode cJ3_checkIndex_8e157 12 = .ok (.invokestatic 95, 3) := by decide +kernel
theorem dJ3_checkIndex_8e157_15 : decode cJ3_checkIndex_8e157 15 = .ok (.athrow, 1) := by decide +kernel
theorem dJ3_checkIndex_8e157_16 : decode cJ3_checkIndex_8e157 16 = .ok (.iload_n 0, 1) := by decide +kernel
theorem dJ3_checkIndex_8e157_17 : decode cJ3_checkIndex_8e157 17 = .ok (.ireturn, 1) := by decide +kernel
