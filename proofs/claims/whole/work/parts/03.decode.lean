theorem dX0_init_0 : decode cX0_init 0 = .ok (.aload_n 0, 1) := by decide +kernel
theorem dX0_init_1 : decode cX0_init 1 = .ok (.invokespecial 3, 3) := by decide +kernel
theorem dX0_init_4 : decode cX0_init 4 = .ok (.aload_n 0, 1) := by decide +kernel
theorem dX0_init_5 : decode cX0_init 5 = .ok (.sipush 192, 3) := by decide +kernel
theorem dX0_init_8 : decode cX0_init 8 = .ok (.newarray .int, 2) := by decide +kernel
theorem dX0_init_10 : decode cX0_init 10 = .ok (.putfield 9, 3) := by decide +kernel
theorem dX0_init_13 : decode cX0_init 13 = .ok (.return_, 1) := by decide +kernel
theorem dX0_lay_0 : decode cX0_lay 0 = .ok (.aload_n 0, 1) := by decide +kernel
theorem dX0_lay_1 : decode cX0_lay 1 = .ok (.iload_n 1, 1) := by decide +kernel
theorem dX0_lay_2 : decode cX0_lay 2 = .ok (.putfield 15, 3) := by decide +kernel
theorem dX0_lay_5 : decode cX0_lay 5 = .ok (.aload_n 0, 1) := by decide +kernel
theorem dX0_lay_6 : decode cX0_lay 6 = .ok (.iload_n 2, 1) := by decide +kernel
theorem dX0_lay_7 : decode cX0_lay 7 = .ok (.putfield 19, 3) := by decide +kernel
theorem dX0_lay_10 : decode cX0_lay 10 = .ok (.aload_n 0, 1) := by decide +kernel
theorem dX0_lay_11 : decode cX0_lay 11 = .ok (.iload_n 1, 1) := by decide +kernel
theorem dX0_lay_12 : decode cX0_lay 12 = .ok (.iload_n 2, 1) := by decide +kernel
theorem dX0_lay_13 : decode cX0_lay 13 = .ok (.imul, 1) := by decide +kernel
theorem dX0_lay_14 : decode cX0_lay 14 = .ok (.putfield 22, 3) := by decide +kernel
theorem dX0_lay_17 : decode cX0_lay 17 = .ok (.aload_n 0, 1) := by decide +kernel
theorem dX0_lay_18 : decode cX0_lay 18 = .ok (.aload_n 0, 1) := by decide +kernel
theorem dX0_lay_19 : decode cX0_lay 19 = .ok (.getfield 22, 3) := by decide +kernel
theorem dX0_lay_22 : decode cX0_lay 22 = .ok (.invokestatic 25, 3) := by decide +kernel
theorem dX0_lay_25 : decode cX0_lay 25 = .ok (.lconst 1, 1) := by decide +kernel
theorem dX0_lay_26 : decode cX0_lay 26 = .ok (.lsub, 1) := by decide +kernel
theorem dX0_lay_27 : decode cX0_lay 27 = .ok (.putfield 29, 3) := by decide +kernel
theorem dX0_lay_30 : decode cX0_lay 30 = .ok (.aload_n 0, 1) := by decide +kernel
theorem dX0_lay_31 : decode cX0_lay 31 = .ok (.lconst 0, 1) := by decide +kernel
theorem dX0_lay_32 : decode cX0_lay 32 = .ok (.putfield 33, 3) := by decide +kernel
theorem dX0_lay_35 : decode cX0_lay 35 = .ok (.aload_n 0, 1) := by decide +kernel
theorem dX0_lay_36 : decode cX0_lay 36 = .ok (.lconst 0, 1) := by decide +kernel
theorem dX0_lay_37 : decode cX0_lay 37 = .ok (.putfield 36, 3) := by decide +kernel
theorem dX0_lay_40 : decode cX0_lay 40 = .ok (.iconst 0, 1) := by decide +kernel
theorem dX0_lay_41 : decode cX0_lay 41 = .ok (.istore_n 3, 1) := by decide +kernel
theorem dX0_lay_42 : decode cX0_lay 42 = .ok (.iload_n 3, 1) := by decide +kernel
theorem dX0_lay_43 : decode cX0_lay 43 = .ok (.iload_n 2, 1) := by decide +kernel
theorem dX0_lay_44 : decode cX0_lay 44 = .ok (.if_icmp .ge 114, 3) := by decide +kernel
theorem dX0_lay_47 : decode cX0_lay 47 = .ok (.aload_n 0, 1) := by decide +kernel
theorem dX0_lay_48 : decode cX0_lay 48 = .ok (.dup, 1) := by decide +kernel
theorem dX0_lay_49 : decode cX0_lay 49 = .ok (.getfield 33, 3) := by decide +kernel
theorem dX0_lay_52 : decode cX0_lay 52 = .ok (.aload_n 0, 1) := by decide +kernel
theorem dX0_lay_53 : decode cX0_lay 53 = .ok (.iconst 0, 1) := by decide +kernel
theorem dX0_lay_54 : decode cX0_lay 54 = .ok (.iload_n 3, 1) := by decide +kernel
theorem dX0_lay_55 : decode cX0_lay 55 = .ok (.invokevirtual 39, 3) := by decide +kernel
theorem dX0_lay_58 : decode cX0_lay 58 = .ok (.invokestatic 25, 3) := by decide +kernel
theorem dX0_lay_61 : decode cX0_lay 61 = .ok (.lor, 1) := by decide +kernel
theorem dX0_lay_62 : decode cX0_lay 62 = .ok (.putfield 33, 3) := by decide +kernel
theorem dX0_lay_65 : decode cX0_lay 65 = .ok (.aload_n 0, 1) := by decide +kernel
theorem dX0_lay_66 : decode cX0_lay 66 = .ok (.dup, 1) := by decide +kernel
theorem dX0_lay_67 : decode cX0_lay 67 = .ok (.getfield 36, 3) := by decide +kernel
theorem dX0_lay_70 : decode cX0_lay 70 = .ok (.aload_n 0, 1) := by decide +kernel
theorem dX0_lay_71 : decode cX0_lay 71 = .ok (.iload_n 1, 1) := by decide +kernel
theorem dX0_lay_72 : decode cX0_lay 72 = .ok (.iconst 1, 1) := by decide +kernel
theorem dX0_lay_73 : decode cX0_lay 73 = .ok (.isub, 1) := by decide +kernel
theorem dX0_lay_74 : decode cX0_lay 74 = .ok (.iload_n 3, 1) := by decide +kernel
theorem dX0_lay_75 : decode cX0_lay 75 = .ok (.invokevirtual 39, 3) := by decide +kernel
theorem dX0_lay_78 : decode cX0_lay 78 = .ok (.invokestatic 25, 3) := by decide +kernel
theorem dX0_lay_81 : decode cX0_lay 81 = .ok (.lor, 1) := by decide +kernel
theorem dX0_lay_82 : decode cX0_lay 82 = .ok (.putfield 36, 3) := by decide +kernel
theorem dX0_lay_85 : decode cX0_lay 85 = .ok (.iconst 0, 1) := by decide +kernel
theorem dX0_lay_86 : decode cX0_lay 86 = .ok (.istore 4, 2) := by decide +kernel
theorem dX0_lay_88 : decode cX0_lay 88 = .ok (.iload 4, 2) := by decide +kernel
theorem dX0_lay_90 : decode cX0_lay 90 = .ok (.iload_n 1, 1) := by decide +kernel
theorem dX0_lay_91 : decode cX0_lay 91 = .ok (.if_icmp .ge 61, 3) := by decide +kernel
theorem dX0_lay_94 : decode cX0_lay 94 = .ok (.aload_n 0, 1) := by decide +kernel
theorem dX0_lay_95 : decode cX0_lay 95 = .ok (.iload 4, 2) := by decide +kernel
theorem dX0_lay_97 : decode cX0_lay 97 = .ok (.iload_n 3, 1) := by decide +kernel
theorem dX0_lay_98 : decode cX0_lay 98 = .ok (.iconst 0, 1) := by decide +kernel
theorem dX0_lay_99 : decode cX0_lay 99 = .ok (.iload 4, 2) := by decide +kernel
theorem dX0_lay_101 : decode cX0_lay 101 = .ok (.iload_n 3, 1) := by decide +kernel
theorem dX0_lay_102 : decode cX0_lay 102 = .ok (.iconst 1, 1) := by decide +kernel
theorem dX0_lay_103 : decode cX0_lay 103 = .ok (.isub, 1) := by decide +kernel
theorem dX0_lay_104 : decode cX0_lay 104 = .ok (.invokevirtual 43, 3) := by decide +kernel
theorem dX0_lay_107 : decode cX0_lay 107 = .ok (.aload_n 0, 1) := by decide +kernel
theorem dX0_lay_108 : decode cX0_lay 108 = .ok (.iload 4, 2) := by decide +kernel
theorem dX0_lay_110 : decode cX0_lay 110 = .ok (.iload_n 3, 1) := by decide +kernel
theorem dX0_lay_111 : decode cX0_lay 111 = .ok (.iconst 1, 1) := by decide +kernel
theorem dX0_lay_112 : decode cX0_lay 112 = .ok (.iload 4, 2) := by decide +kernel
theorem dX0_lay_114 : decode cX0_lay 114 = .ok (.iconst 1, 1) := by decide +kernel
theorem dX0_lay_115 : decode cX0_lay 115 = .ok (.iadd, 1) := by decide +kernel
theorem dX0_lay_116 : decode cX0_lay 116 = .ok (.iload_n 3, 1) := by decide +kernel
theorem dX0_lay_117 : decode cX0_lay 117 = .ok (.invokevirtual 43, 3) := by decide +kernel
theorem dX0_lay_120 : decode cX0_lay 120 = .ok (.aload_n 0, 1) := by decide +kernel
theorem dX0_lay_121 : decode cX0_lay 121 = .ok (.iload 4, 2) := by decide +kernel
theorem dX0_lay_123 : decode cX0_lay 123 = .ok (.iload_n 3, 1) := by decide +kernel
theorem dX0_lay_124 : decode cX0_lay 124 = .ok (.iconst 2, 1) := by decide +kernel
theorem dX0_lay_125 : decode cX0_lay 125 = .ok (.iload 4, 2) := by decide +kernel
theorem dX0_lay_127 : decode cX0_lay 127 = .ok (.iload_n 3, 1) := by decide +kernel
theorem dX0_lay_128 : decode cX0_lay 128 = .ok (.iconst 1, 1) := by decide +kernel
theorem dX0_lay_129 : decode cX0_lay 129 = .ok (.iadd, 1) := by decide +kernel
theorem dX0_lay_130 : decode cX0_lay 130 = .ok (.invokevirtual 43, 3) := by decide +kernel
theorem dX0_lay_133 : decode cX0_lay 133 = .ok (.aload_n 0, 1) := by decide +kernel
theorem dX0_lay_134 : decode cX0_lay 134 = .ok (.iload 4, 2) := by decide +kernel
theorem dX0_lay_136 : decode cX0_lay 136 = .ok (.iload_n 3, 1) := by decide +kernel
theorem dX0_lay_137 : decode cX0_lay 137 = .ok (.iconst 3, 1) := by decide +kernel
theorem dX0_lay_138 : decode cX0_lay 138 = .ok (.iload 4, 2) := by decide +kernel
theorem dX0_lay_140 : decode cX0_lay 140 = .ok (.iconst 1, 1) := by decide +kernel
theorem dX0_lay_141 : decode cX0_lay 141 = .ok (.isub, 1) := by decide +kernel
theorem dX0_lay_142 : decode cX0_lay 142 = .ok (.iload_n 3, 1) := by decide +kernel
theorem dX0_lay_143 : decode cX0_lay 143 = .ok (.invokevirtual 43, 3) := by decide +kernel
theorem dX0_lay_146 : decode cX0_lay 146 = .ok (.iinc 4 1, 3) := by decide +kernel
theorem dX0_lay_149 : decode cX0_lay 149 = .ok (.goto (-61), 3) := by decide +kernel
theorem dX0_lay_152 : decode cX0_lay 152 = .ok (.iinc 3 1, 3) := by decide +kernel
theorem dX0_lay_155 : decode cX0_lay 155 = .ok (.goto (-113), 3) := by decide +kernel
theorem dX0_lay_158 : decode cX0_lay 158 = .ok (.return_, 1) := by decide +kernel
theorem dX0_layBeside_0 : decode cX0_layBeside 0 = .ok (.aload_n 0, 1) := by decide +kernel
theorem dX0_layBeside_1 : decode cX0_layBeside 1 = .ok (.iload_n 1, 1) := by decide +kernel
theorem dX0_layBeside_2 : decode cX0_layBeside 2 = .ok (.iload_n 2, 1) := by decide +kernel
theorem dX0_layBeside_3 : decode cX0_layBeside 3 = .ok (.invokevirtual 39, 3) := by decide +kernel
theorem dX0_layBeside_6 : decode cX0_layBeside 6 = .ok (.iconst 4, 1) := by decide +kernel
theorem dX0_layBeside_7 : decode cX0_layBeside 7 = .ok (.imul, 1) := by decide +kernel
theorem dX0_layBeside_8 : decode cX0_layBeside 8 = .ok (.iload_n 3, 1) := by decide +kernel
theorem dX0_layBeside_9 : decode cX0_layBeside 9 = .ok (.iadd, 1) := by decide +kernel
theorem dX0_layBeside_10 : decode cX0_layBeside 10 = .ok (.istore 6, 2) := by decide +kernel
theorem dX0_layBeside_12 : decode cX0_layBeside 12 = .ok (.iload 6, 2) := by decide +kernel
theorem dX0_layBeside_14 : decode cX0_layBeside 14 = .ok (.ifCond .lt 43, 3) := by decide +kernel
theorem dX0_layBeside_17 : decode cX0_layBeside 17 = .ok (.iload 6, 2) := by decide +kernel
theorem dX0_layBeside_19 : decode cX0_layBeside 19 = .ok (.aload_n 0, 1) := by decide +kernel
theorem dX0_layBeside_20 : decode cX0_layBeside 20 = .ok (.getfield 9, 3) := by decide +kernel
theorem dX0_layBeside_23 : decode cX0_layBeside 23 = .ok (.arraylength, 1) := by decide +kernel
theorem dX0_layBeside_24 : decode cX0_layBeside 24 = .ok (.if_icmp .ge 33, 3) := by decide +kernel
theorem dX0_layBeside_27 : decode cX0_layBeside 27 = .ok (.aload_n 0, 1) := by decide +kernel
theorem dX0_layBeside_28 : decode cX0_layBeside 28 = .ok (.getfield 9, 3) := by decide +kernel
theorem dX0_layBeside_31 : decode cX0_layBeside 31 = .ok (.iload 6, 2) := by decide +kernel
theorem dX0_layBeside_33 : decode cX0_layBeside 33 = .ok (.aload_n 0, 1) := by decide +kernel
theorem dX0_layBeside_34 : decode cX0_layBeside 34 = .ok (.iload 4, 2) := by decide +kernel
theorem dX0_layBeside_36 : decode cX0_layBeside 36 = .ok (.iload 5, 2) := by decide +kernel
theorem dX0_layBeside_38 : decode cX0_layBeside 38 = .ok (.invokevirtual 47, 3) := by decide +kernel
theorem dX0_layBeside_41 : decode cX0_layBeside 41 = .ok (.ifCond .eq 14, 3) := by decide +kernel
theorem dX0_layBeside_44 : decode cX0_layBeside 44 = .ok (.aload_n 0, 1) := by decide +kernel
theorem dX0_layBeside_45 : decode cX0_layBeside 45 = .ok (.iload 4, 2) := by decide +kernel
theorem dX0_layBeside_47 : decode cX0_layBeside 47 = .ok (.iload 5, 2) := by decide +kernel
theorem dX0_layBeside_49 : decode cX0_layBeside 49 = .ok (.invokevirtual 39, 3) := by decide +kernel
theorem dX0_layBeside_52 : decode cX0_layBeside 52 = .ok (.goto 4, 3) := by decide +kernel
theorem dX0_layBeside_55 : decode cX0_layBeside 55 = .ok (.iconst (-1), 1) := by decide +kernel
theorem dX0_layBeside_56 : decode cX0_layBeside 56 = .ok (.iastore, 1) := by decide +kernel
theorem dX0_layBeside_57 : decode cX0_layBeside 57 = .ok (.return_, 1) := by decide +kernel
theorem dX0_isInside_0 : decode cX0_isInside 0 = .ok (.iload_n 1, 1) := by decide +kernel
theorem dX0_isInside_1 : decode cX0_isInside 1 = .ok (.ifCond .lt 27, 3) := by decide +kernel
theorem dX0_isInside_4 : decode cX0_isInside 4 = .ok (.iload_n 1, 1) := by decide +kernel
theorem dX0_isInside_5 : decode cX0_isInside 5 = .ok (.aload_n 0, 1) := by decide +kernel
theorem dX0_isInside_6 : decode cX0_isInside 6 = .ok (.getfield 15, 3) := by decide +kernel
theorem dX0_isInside_9 : decode cX0_isInside 9 = .ok (.if_icmp .ge 19, 3) := by decide +kernel
theorem dX0_isInside_12 : decode cX0_isInside 12 = .ok (.iload_n 2, 1) := by decide +kernel
theorem dX0_isInside_13 : decode cX0_isInside 13 = .ok (.ifCond .lt 15, 3) := by decide +kernel
theorem dX0_isInside_16 : decode cX0_isInside 16 = .ok (.iload_n 2, 1) := by decide +kernel
theorem dX0_isInside_17 : decode cX0_isInside 17 = .ok (.aload_n 0, 1) := by decide +kernel
theorem dX0_isInside_18 : decode cX0_isInside 18 = .ok (.getfield 19, 3) := by decide +kernel
theorem dX0_isInside_21 : decode cX0_isInside 21 = .ok (.if_icmp .ge 7, 3) := by decide +kernel
theorem dX0_isInside_24 : decode cX0_isInside 24 = .ok (.iconst 1, 1) := by decide +kernel
theorem dX0_isInside_25 : decode cX0_isInside 25 = .ok (.goto 4, 3) := by decide +kernel
theorem dX0_isInside_28 : decode cX0_isInside 28 = .ok (.iconst 0, 1) := by decide +kernel
theorem dX0_isInside_29 : decode cX0_isInside 29 = .ok (.ireturn, 1) := by decide +kernel
theorem dX0_number_0 : decode cX0_number 0 = .ok (.aload_n 0, 1) := by decide +kernel
theorem dX0_number_1 : decode cX0_number 1 = .ok (.getfield 15, 3) := by decide +kernel
theorem dX0_number_4 : decode cX0_number 4 = .ok (.iload_n 2, 1) := by decide +kernel
theorem dX0_number_5 : decode cX0_number 5 = .ok (.imul, 1) := by decide +kernel
theorem dX0_number_6 : decode cX0_number 6 = .ok (.iload_n 1, 1) := by decide +kernel
theorem dX0_number_7 : decode cX0_number 7 = .ok (.iadd, 1) := by decide +kernel
theorem dX0_number_8 : decode cX0_number 8 = .ok (.ireturn, 1) := by decide +kernel
theorem dX0_cellTo_0 : decode cX0_cellTo 0 = .ok (.iload_n 2, 1) := by decide +kernel
theorem dX0_cellTo_1 : decode cX0_cellTo 1 = .ok (.iconst 4, 1) := by decide +kernel
theorem dX0_cellTo_2 : decode cX0_cellTo 2 = .ok (.imul, 1) := by decide +kernel
theorem dX0_cellTo_3 : decode cX0_cellTo 3 = .ok (.iload_n 1, 1) := by decide +kernel
theorem dX0_cellTo_4 : decode cX0_cellTo 4 = .ok (.iadd, 1) := by decide +kernel
theorem dX0_cellTo_5 : decode cX0_cellTo 5 = .ok (.istore_n 3, 1) := by decide +kernel
theorem dX0_cellTo_6 : decode cX0_cellTo 6 = .ok (.iload_n 3, 1) := by decide +kernel
theorem dX0_cellTo_7 : decode cX0_cellTo 7 = .ok (.ifCond .lt 21, 3) := by decide +kernel
theorem dX0_cellTo_10 : decode cX0_cellTo 10 = .ok (.iload_n 3, 1) := by decide +kernel
theorem dX0_cellTo_11 : decode cX0_cellTo 11 = .ok (.aload_n 0, 1) := by decide +kernel
theorem dX0_cellTo_12 : decode cX0_cellTo 12 = .ok (.getfield 9, 3) := by decide +kernel
theorem dX0_cellTo_15 : decode cX0_cellTo 15 = .ok (.arraylength, 1) := by decide +kernel
theorem dX0_cellTo_16 : decode cX0_cellTo 16 = .ok (.if_icmp .ge 12, 3) := by decide +kernel
theorem dX0_cellTo_19 : decode cX0_cellTo 19 = .ok (.aload_n 0, 1) := by decide +kernel
theorem dX0_cellTo_20 : decode cX0_cellTo 20 = .ok (.getfield 9, 3) := by decide +kernel
theorem dX0_cellTo_23 : decode cX0_cellTo 23 = .ok (.iload_n 3, 1) := by decide +kernel
theorem dX0_cellTo_24 : decode cX0_cellTo 24 = .ok (.iaload, 1) := by decide +kernel
theorem dX0_cellTo_25 : decode cX0_cellTo 25 = .ok (.goto 4, 3) := by decide +kernel
theorem dX0_cellTo_28 : decode cX0_cellTo 28 = .ok (.iconst (-1), 1) := by decide +kernel
theorem dX0_cellTo_29 : decode cX0_cellTo 29 = .ok (.ireturn, 1) := by decide +kernel
theorem dX0_besideAll_0 : decode cX0_besideAll 0 = .ok (.lload_n 1, 1) := by decide +kernel
theorem dX0_besideAll_1 : decode cX0_besideAll 1 = .ok (.aload_n 0, 1) := by decide +kernel
theorem dX0_besideAll_2 : decode cX0_besideAll 2 = .ok (.getfield 36, 3) := by decide +kernel
theorem dX0_besideAll_5 : decode cX0_besideAll 5 = .ok (.ldc2_w 51, 3) := by decide +kernel
theorem dX0_besideAll_8 : decode cX0_besideAll 8 = .ok (.lxor, 1) := by decide +kernel
theorem dX0_besideAll_9 : decode cX0_besideAll 9 = .ok (.land, 1) := by decide +kernel
theorem dX0_besideAll_10 : decode cX0_besideAll 10 = .ok (.iconst 1, 1) := by decide +kernel
theorem dX0_besideAll_11 : decode cX0_besideAll 11 = .ok (.lshl, 1) := by decide +kernel
theorem dX0_besideAll_12 : decode cX0_besideAll 12 = .ok (.lstore_n 3, 1) := by decide +kernel
theorem dX0_besideAll_13 : decode cX0_besideAll 13 = .ok (.lload_n 1, 1) := by decide +kernel
theorem dX0_besideAll_14 : decode cX0_besideAll 14 = .ok (.aload_n 0, 1) := by decide +kernel
theorem dX0_besideAll_15 : decode cX0_besideAll 15 = .ok (.getfield 33, 3) := by decide +kernel
theorem dX0_besideAll_18 : decode cX0_besideAll 18 = .ok (.ldc2_w 51, 3) := by decide +kernel
theorem dX0_besideAll_21 : decode cX0_besideAll 21 = .ok (.lxor, 1) := by decide +kernel
theorem dX0_besideAll_22 : decode cX0_besideAll 22 = .ok (.land, 1) := by decide +kernel
theorem dX0_besideAll_23 : decode cX0_besideAll 23 = .ok (.iconst 1, 1) := by decide +kernel
theorem dX0_besideAll_24 : decode cX0_besideAll 24 = .ok (.lushr, 1) := by decide +kernel
theorem dX0_besideAll_25 : decode cX0_besideAll 25 = .ok (.lstore 5, 2) := by decide +kernel
theorem dX0_besideAll_27 : decode cX0_besideAll 27 = .ok (.lload_n 3, 1) := by decide +kernel
theorem dX0_besideAll_28 : decode cX0_besideAll 28 = .ok (.lload 5, 2) := by decide +kernel
theorem dX0_besideAll_30 : decode cX0_besideAll 30 = .ok (.lor, 1) := by decide +kernel
theorem dX0_besideAll_31 : decode cX0_besideAll 31 = .ok (.lload_n 1, 1) := by decide +kernel
theorem dX0_besideAll_32 : decode cX0_besideAll 32 = .ok (.aload_n 0, 1) := by decide +kernel
theorem dX0_besideAll_33 : decode cX0_besideAll 33 = .ok (.getfield 15, 3) := by decide +kernel
theorem dX0_besideAll_36 : decode cX0_besideAll 36 = .ok (.lshl, 1) := by decide +kernel
theorem dX0_besideAll_37 : decode cX0_besideAll 37 = .ok (.lor, 1) := by decide +kernel
theorem dX0_besideAll_38 : decode cX0_besideAll 38 = .ok (.lload_n 1, 1) := by decide +kernel
theorem dX0_besideAll_39 : decode cX0_besideAll 39 = .ok (.aload_n 0, 1) := by decide +kernel
theorem dX0_besideAll_40 : decode cX0_besideAll 40 = .ok (.getfield 15, 3) := by decide +kernel
theorem dX0_besideAll_43 : decode cX0_besideAll 43 = .ok (.lushr, 1) := by decide +kernel
theorem dX0_besideAll_44 : decode cX0_besideAll 44 = .ok (.lor, 1) := by decide +kernel
theorem dX0_besideAll_45 : decode cX0_besideAll 45 = .ok (.aload_n 0, 1) := by decide +kernel
theorem dX0_besideAll_46 : decode cX0_besideAll 46 = .ok (.getfield 29, 3) := by decide +kernel
theorem dX0_besideAll_49 : decode cX0_besideAll 49 = .ok (.land, 1) := by decide +kernel
theorem dX0_besideAll_50 : decode cX0_besideAll 50 = .ok (.lreturn, 1) := by decide +kernel
theorem dX0_countBeside_0 : decode cX0_countBeside 0 = .ok (.aload_n 0, 1) := by decide +kernel
theorem dX0_countBeside_1 : decode cX0_countBeside 1 = .ok (.iload_n 3, 1) := by decide +kernel
theorem dX0_countBeside_2 : decode cX0_countBeside 2 = .ok (.invokestatic 25, 3) := by decide +kernel
theorem dX0_countBeside_5 : decode cX0_countBeside 5 = .ok (.invokevirtual 53, 3) := by decide +kernel
theorem dX0_countBeside_8 : decode cX0_countBeside 8 = .ok (.lload_n 1, 1) := by decide +kernel
theorem dX0_countBeside_9 : decode cX0_countBeside 9 = .ok (.land, 1) := by decide +kernel
theorem dX0_countBeside_10 : decode cX0_countBeside 10 = .ok (.invokestatic 57, 3) := by decide +kernel
theorem dX0_countBeside_13 : decode cX0_countBeside 13 = .ok (.ireturn, 1) := by decide +kernel
theorem dX0_flood_0 : decode cX0_flood 0 = .ok (.lload_n 3, 1) := by decide +kernel
theorem dX0_flood_1 : decode cX0_flood 1 = .ok (.lstore 5, 2) := by decide +kernel
theorem dX0_flood_3 : decode cX0_flood 3 = .ok (.lload_n 3, 1) := by decide +kernel
theorem dX0_flood_4 : decode cX0_flood 4 = .ok (.lstore 7, 2) := by decide +kernel
theorem dX0_flood_6 : decode cX0_flood 6 = .ok (.iconst 0, 1) := by decide +kernel
theorem dX0_flood_7 : decode cX0_flood 7 = .ok (.istore 9, 2) := by decide +kernel
theorem dX0_flood_9 : decode cX0_flood 9 = .ok (.iload 9, 2) := by decide +kernel
theorem dX0_flood_11 : decode cX0_flood 11 = .ok (.bipush 48, 2) := by decide +kernel
theorem dX0_flood_13 : decode cX0_flood 13 = .ok (.if_icmp .ge 40, 3) := by decide +kernel
theorem dX0_flood_16 : decode cX0_flood 16 = .ok (.lload 7, 2) := by decide +kernel
theorem dX0_flood_18 : decode cX0_flood 18 = .ok (.lconst 0, 1) := by decide +kernel
theorem dX0_flood_19 : decode cX0_flood 19 = .ok (.lcmp, 1) := by decide +kernel
theorem dX0_flood_20 : decode cX0_flood 20 = .ok (.ifCond .eq 33, 3) := by decide +kernel
theorem dX0_flood_23 : decode cX0_flood 23 = .ok (.aload_n 0, 1) := by decide +kernel
theorem dX0_flood_24 : decode cX0_flood 24 = .ok (.lload 7, 2) := by decide +kernel
theorem dX0_flood_26 : decode cX0_flood 26 = .ok (.invokevirtual 53, 3) := by decide +kernel
theorem dX0_flood_29 : decode cX0_flood 29 = .ok (.lload_n 1, 1) := by decide +kernel
theorem dX0_flood_30 : decode cX0_flood 30 = .ok (.land, 1) := by decide +kernel
theorem dX0_flood_31 : decode cX0_flood 31 = .ok (.lload 5, 2) := by decide +kernel
theorem dX0_flood_33 : decode cX0_flood 33 = .ok (.ldc2_w 51, 3) := by decide +kernel
theorem dX0_flood_36 : decode cX0_flood 36 = .ok (.lxor, 1) := by decide +kernel
theorem dX0_flood_37 : decode cX0_flood 37 = .ok (.land, 1) := by decide +kernel
theorem dX0_flood_38 : decode cX0_flood 38 = .ok (.lstore 7, 2) := by decide +kernel
theorem dX0_flood_40 : decode cX0_flood 40 = .ok (.lload 5, 2) := by decide +kernel
theorem dX0_flood_42 : decode cX0_flood 42 = .ok (.lload 7, 2) := by decide +kernel
theorem dX0_flood_44 : decode cX0_flood 44 = .ok (.lor, 1) := by decide +kernel
theorem dX0_flood_45 : decode cX0_flood 45 = .ok (.lstore 5, 2) := by decide +kernel
theorem dX0_flood_47 : decode cX0_flood 47 = .ok (.iinc 9 1, 3) := by decide +kernel
theorem dX0_flood_50 : decode cX0_flood 50 = .ok (.goto (-41), 3) := by decide +kernel
theorem dX0_flood_53 : decode cX0_flood 53 = .ok (.lload 5, 2) := by decide +kernel
theorem dX0_flood_55 : decode cX0_flood 55 = .ok (.lreturn, 1) := by decide +kernel
theorem dX0_countParts_0 : decode cX0_countParts 0 = .ok (.iconst 0, 1) := by decide +kernel
theorem dX0_countParts_1 : decode cX0_countParts 1 = .ok (.istore_n 3, 1) := by decide +kernel
theorem dX0_countParts_2 : decode cX0_countParts 2 = .ok (.lload_n 1, 1) := by decide +kernel
theorem dX0_countParts_3 : decode cX0_countParts 3 = .ok (.lstore 4, 2) := by decide +kernel
theorem dX0_countParts_5 : decode cX0_countParts 5 = .ok (.iconst 0, 1) := by decide +kernel
theorem dX0_countParts_6 : decode cX0_countParts 6 = .ok (.istore 6, 2) := by decide +kernel
theorem dX0_countParts_8 : decode cX0_countParts 8 = .ok (.iload 6, 2) := by decide +kernel
theorem dX0_countParts_10 : decode cX0_countParts 10 = .ok (.bipush 48, 2) := by decide +kernel
theorem dX0_countParts_12 : decode cX0_countParts 12 = .ok (.if_icmp .ge 39, 3) := by decide +kernel
theorem dX0_countParts_15 : decode cX0_countParts 15 = .ok (.lload 4, 2) := by decide +kernel
theorem dX0_countParts_17 : decode cX0_countParts 17 = .ok (.lconst 0, 1) := by decide +kernel
theorem dX0_countParts_18 : decode cX0_countParts 18 = .ok (.lcmp, 1) := by decide +kernel
theorem dX0_countParts_19 : decode cX0_countParts 19 = .ok (.ifCond .eq 32, 3) := by decide +kernel
theorem dX0_countParts_22 : decode cX0_countParts 22 = .ok (.lload 4, 2) := by decide +kernel
theorem dX0_countParts_24 : decode cX0_countParts 24 = .ok (.aload_n 0, 1) := by decide +kernel
theorem dX0_countParts_25 : decode cX0_countParts 25 = .ok (.lload_n 1, 1) := by decide +kernel
theorem dX0_countParts_26 : decode cX0_countParts 26 = .ok (.lload 4, 2) := by decide +kernel
theorem dX0_countParts_28 : decode cX0_countParts 28 = .ok (.lload 4, 2) := by decide +kernel
theorem dX0_countParts_30 : decode cX0_countParts 30 = .ok (.lneg, 1) := by decide +kernel
theorem dX0_countParts_31 : decode cX0_countParts 31 = .ok (.land, 1) := by decide +kernel
theorem dX0_countParts_32 : decode cX0_countParts 32 = .ok (.invokevirtual 63, 3) := by decide +kernel
theorem dX0_countParts_35 : decode cX0_countParts 35 = .ok (.ldc2_w 51, 3) := by decide +kernel
theorem dX0_countParts_38 : decode cX0_countParts 38 = .ok (.lxor, 1) := by decide +kernel
theorem dX0_countParts_39 : decode cX0_countParts 39 = .ok (.land, 1) := by decide +kernel
theorem dX0_countParts_40 : decode cX0_countParts 40 = .ok (.lstore 4, 2) := by decide +kernel
theorem dX0_countParts_42 : decode cX0_countParts 42 = .ok (.iinc 3 1, 3) := by decide +kernel
theorem dX0_countParts_45 : decode cX0_countParts 45 = .ok (.iinc 6 1, 3) := by decide +kernel
theorem dX0_countParts_48 : decode cX0_countParts 48 = .ok (.goto (-40), 3) := by decide +kernel
theorem dX0_countParts_51 : decode cX0_countParts 51 = .ok (.iload_n 3, 1) := by decide +kernel
theorem dX0_countParts_52 : decode cX0_countParts 52 = .ok (.ireturn, 1) := by decide +kernel
theorem dX0_countRings_0 : decode cX0_countRings 0 = .ok (.lload_n 1, 1) := by decide +kernel
theorem dX0_countRings_1 : decode cX0_countRings 1 = .ok (.lload_n 1, 1) := by decide +kernel
theorem dX0_countRings_2 : decode cX0_countRings 2 = .ok (.aload_n 0, 1) := by decide +kernel
theorem dX0_countRings_3 : decode cX0_countRings 3 = .ok (.getfield 36, 3) := by decide +kernel
theorem dX0_countRings_6 : decode cX0_countRings 6 = .ok (.ldc2_w 51, 3) := by decide +kernel
theorem dX0_countRings_9 : decode cX0_countRings 9 = .ok (.lxor, 1) := by decide +kernel
theorem dX0_countRings_10 : decode cX0_countRings 10 = .ok (.land, 1) := by decide +kernel
theorem dX0_countRings_11 : decode cX0_countRings 11 = .ok (.iconst 1, 1) := by decide +kernel
theorem dX0_countRings_12 : decode cX0_countRings 12 = .ok (.lshl, 1) := by decide +kernel
theorem dX0_countRings_13 : decode cX0_countRings 13 = .ok (.land, 1) := by decide +kernel
theorem dX0_countRings_14 : decode cX0_countRings 14 = .ok (.invokestatic 57, 3) := by decide +kernel
theorem dX0_countRings_17 : decode cX0_countRings 17 = .ok (.istore_n 3, 1) := by decide +kernel
theorem dX0_countRings_18 : decode cX0_countRings 18 = .ok (.lload_n 1, 1) := by decide +kernel
theorem dX0_countRings_19 : decode cX0_countRings 19 = .ok (.lload_n 1, 1) := by decide +kernel
theorem dX0_countRings_20 : decode cX0_countRings 20 = .ok (.aload_n 0, 1) := by decide +kernel
theorem dX0_countRings_21 : decode cX0_countRings 21 = .ok (.getfield 15, 3) := by decide +kernel
theorem dX0_countRings_24 : decode cX0_countRings 24 = .ok (.lshl, 1) := by decide +kernel
theorem dX0_countRings_25 : decode cX0_countRings 25 = .ok (.land, 1) := by decide +kernel
theorem dX0_countRings_26 : decode cX0_countRings 26 = .ok (.invokestatic 57, 3) := by decide +kernel
theorem dX0_countRings_29 : decode cX0_countRings 29 = .ok (.istore 4, 2) := by decide +kernel
theorem dX0_countRings_31 : decode cX0_countRings 31 = .ok (.iload_n 3, 1) := by decide +kernel
theorem dX0_countRings_32 : decode cX0_countRings 32 = .ok (.iload 4, 2) := by decide +kernel
theorem dX0_countRings_34 : decode cX0_countRings 34 = .ok (.iadd, 1) := by decide +kernel
theorem dX0_countRings_35 : decode cX0_countRings 35 = .ok (.lload_n 1, 1) := by decide +kernel
theorem dX0_countRings_36 : decode cX0_countRings 36 = .ok (.invokestatic 57, 3) := by decide +kernel
theorem dX0_countRings_39 : decode cX0_countRings 39 = .ok (.isub, 1) := by decide +kernel
theorem dX0_countRings_40 : decode cX0_countRings 40 = .ok (.aload_n 0, 1) := by decide +kernel
theorem dX0_countRings_41 : decode cX0_countRings 41 = .ok (.lload_n 1, 1) := by decide +kernel
theorem dX0_countRings_42 : decode cX0_countRings 42 = .ok (.invokevirtual 67, 3) := by decide +kernel
theorem dX0_countRings_45 : decode cX0_countRings 45 = .ok (.iadd, 1) := by decide +kernel
theorem dX0_countRings_46 : decode cX0_countRings 46 = .ok (.ireturn, 1) := by decide +kernel
theorem dX0_countEnds_0 : decode cX0_countEnds 0 = .ok (.iconst 0, 1) := by decide +kernel
theorem dX0_countEnds_1 : decode cX0_countEnds 1 = .ok (.istore_n 3, 1) := by decide +kernel
theorem dX0_countEnds_2 : decode cX0_countEnds 2 = .ok (.iconst 0, 1) := by decide +kernel
theorem dX0_countEnds_3 : decode cX0_countEnds 3 = .ok (.istore 4, 2) := by decide +kernel
theorem dX0_countEnds_5 : decode cX0_countEnds 5 = .ok (.iload 4, 2) := by decide +kernel
theorem dX0_countEnds_7 : decode cX0_countEnds 7 = .ok (.aload_n 0, 1) := by decide +kernel
theorem dX0_countEnds_8 : decode cX0_countEnds 8 = .ok (.getfield 22, 3) := by decide +kernel
theorem dX0_countEnds_11 : decode cX0_countEnds 11 = .ok (.if_icmp .ge 32, 3) := by decide +kernel
theorem dX0_countEnds_14 : decode cX0_countEnds 14 = .ok (.lload_n 1, 1) := by decide +kernel
theorem dX0_countEnds_15 : decode cX0_countEnds 15 = .ok (.iload 4, 2) := by decide +kernel
theorem dX0_countEnds_17 : decode cX0_countEnds 17 = .ok (.invokestatic 70, 3) := by decide +kernel
theorem dX0_countEnds_20 : decode cX0_countEnds 20 = .ok (.ifCond .eq 17, 3) := by decide +kernel
theorem dX0_countEnds_23 : decode cX0_countEnds 23 = .ok (.aload_n 0, 1) := by decide +kernel
theorem dX0_countEnds_24 : decode cX0_countEnds 24 = .ok (.lload_n 1, 1) := by decide +kernel
theorem dX0_countEnds_25 : decode cX0_countEnds 25 = .ok (.iload 4, 2) := by decide +kernel
theorem dX0_countEnds_27 : decode cX0_countEnds 27 = .ok (.invokevirtual 74, 3) := by decide +kernel
theorem dX0_countEnds_30 : decode cX0_countEnds 30 = .ok (.iconst 1, 1) := by decide +kernel
theorem dX0_countEnds_31 : decode cX0_countEnds 31 = .ok (.if_icmp .ne 6, 3) := by decide +kernel
theorem dX0_countEnds_34 : decode cX0_countEnds 34 = .ok (.iinc 3 1, 3) := by decide +kernel
theorem dX0_countEnds_37 : decode cX0_countEnds 37 = .ok (.iinc 4 1, 3) := by decide +kernel
theorem dX0_countEnds_40 : decode cX0_countEnds 40 = .ok (.goto (-35), 3) := by decide +kernel
theorem dX0_countEnds_43 : decode cX0_countEnds 43 = .ok (.iload_n 3, 1) := by decide +kernel
theorem dX0_countEnds_44 : decode cX0_countEnds 44 = .ok (.ireturn, 1) := by decide +kernel
theorem dX0_isParting_0 : decode cX0_isParting 0 = .ok (.lload_n 1, 1) := by decide +kernel
theorem dX0_isParting_1 : decode cX0_isParting 1 = .ok (.iload_n 3, 1) := by decide +kernel
theorem dX0_isParting_2 : decode cX0_isParting 2 = .ok (.invokestatic 25, 3) := by decide +kernel
theorem dX0_isParting_5 : decode cX0_isParting 5 = .ok (.ldc2_w 51, 3) := by decide +kernel
theorem dX0_isParting_8 : decode cX0_isParting 8 = .ok (.lxor, 1) := by decide +kernel
theorem dX0_isParting_9 : decode cX0_isParting 9 = .ok (.land, 1) := by decide +kernel
theorem dX0_isParting_10 : decode cX0_isParting 10 = .ok (.lstore 4, 2) := by decide +kernel
theorem dX0_isParting_12 : decode cX0_isParting 12 = .ok (.aload_n 0, 1) := by decide +kernel
theorem dX0_isParting_13 : decode cX0_isParting 13 = .ok (.iload_n 3, 1) := by decide +kernel
theorem dX0_isParting_14 : decode cX0_isParting 14 = .ok (.invokestatic 25, 3) := by decide +kernel
theorem dX0_isParting_17 : decode cX0_isParting 17 = .ok (.invokevirtual 53, 3) := by decide +kernel
theorem dX0_isParting_20 : decode cX0_isParting 20 = .ok (.lload 4, 2) := by decide +kernel
theorem dX0_isParting_22 : decode cX0_isParting 22 = .ok (.land, 1) := by decide +kernel
theorem dX0_isParting_23 : decode cX0_isParting 23 = .ok (.lstore 6, 2) := by decide +kernel
theorem dX0_isParting_25 : decode cX0_isParting 25 = .ok (.lload_n 1, 1) := by decide +kernel
theorem dX0_isParting_26 : decode cX0_isParting 26 = .ok (.iload_n 3, 1) := by decide +kernel
theorem dX0_isParting_27 : decode cX0_isParting 27 = .ok (.invokestatic 70, 3) := by decide +kernel
theorem dX0_isParting_30 : decode cX0_isParting 30 = .ok (.ifCond .eq 31, 3) := by decide +kernel
theorem dX0_isParting_33 : decode cX0_isParting 33 = .ok (.lload 6, 2) := by decide +kernel
theorem dX0_isParting_35 : decode cX0_isParting 35 = .ok (.aload_n 0, 1) := by decide +kernel
theorem dX0_isParting_36 : decode cX0_isParting 36 = .ok (.lload 4, 2) := by decide +kernel
theorem dX0_isParting_38 : decode cX0_isParting 38 = .ok (.lload 6, 2) := by decide +kernel
theorem dX0_isParting_40 : decode cX0_isParting 40 = .ok (.lload 6, 2) := by decide +kernel
theorem dX0_isParting_42 : decode cX0_isParting 42 = .ok (.lneg, 1) := by decide +kernel
theorem dX0_isParting_43 : decode cX0_isParting 43 = .ok (.land, 1) := by decide +kernel
theorem dX0_isParting_44 : decode cX0_isParting 44 = .ok (.invokevirtual 63, 3) := by decide +kernel
theorem dX0_isParting_47 : decode cX0_isParting 47 = .ok (.ldc2_w 51, 3) := by decide +kernel
theorem dX0_isParting_50 : decode cX0_isParting 50 = .ok (.lxor, 1) := by decide +kernel
theorem dX0_isParting_51 : decode cX0_isParting 51 = .ok (.land, 1) := by decide +kernel
theorem dX0_isParting_52 : decode cX0_isParting 52 = .ok (.lconst 0, 1) := by decide +kernel
theorem dX0_isParting_53 : decode cX0_isParting 53 = .ok (.lcmp, 1) := by decide +kernel
theorem dX0_isParting_54 : decode cX0_isParting 54 = .ok (.ifCond .eq 7, 3) := by decide +kernel
theorem dX0_isParting_57 : decode cX0_isParting 57 = .ok (.iconst 1, 1) := by decide +kernel
theorem dX0_isParting_58 : decode cX0_isParting 58 = .ok (.goto 4, 3) := by decide +kernel
theorem dX0_isParting_61 : decode cX0_isParting 61 = .ok (.iconst 0, 1) := by decide +kernel
theorem dX0_isParting_62 : decode cX0_isParting 62 = .ok (.ireturn, 1) := by decide +kernel
theorem dX0_cellsAtSteps_0 : decode cX0_cellsAtSteps 0 = .ok (.iload_n 3, 1) := by decide +kernel
theorem dX0_cellsAtSteps_1 : decode cX0_cellsAtSteps 1 = .ok (.invokestatic 25, 3) := by decide +kernel
theorem dX0_cellsAtSteps_4 : decode cX0_cellsAtSteps 4 = .ok (.lload_n 1, 1) := by decide +kernel
theorem dX0_cellsAtSteps_5 : decode cX0_cellsAtSteps 5 = .ok (.land, 1) := by decide +kernel
theorem dX0_cellsAtSteps_6 : decode cX0_cellsAtSteps 6 = .ok (.lstore 5, 2) := by decide +kernel
theorem dX0_cellsAtSteps_8 : decode cX0_cellsAtSteps 8 = .ok (.lload 5, 2) := by decide +kernel
theorem dX0_cellsAtSteps_10 : decode cX0_cellsAtSteps 10 = .ok (.lstore 7, 2) := by decide +kernel
theorem dX0_cellsAtSteps_12 : decode cX0_cellsAtSteps 12 = .ok (.iconst 0, 1) := by decide +kernel
theorem dX0_cellsAtSteps_13 : decode cX0_cellsAtSteps 13 = .ok (.istore 9, 2) := by decide +kernel
theorem dX0_cellsAtSteps_15 : decode cX0_cellsAtSteps 15 = .ok (.iload 9, 2) := by decide +kernel
theorem dX0_cellsAtSteps_17 : decode cX0_cellsAtSteps 17 = .ok (.iload 4, 2) := by decide +kernel
theorem dX0_cellsAtSteps_19 : decode cX0_cellsAtSteps 19 = .ok (.if_icmp .ge 33, 3) := by decide +kernel
theorem dX0_cellsAtSteps_22 : decode cX0_cellsAtSteps 22 = .ok (.aload_n 0, 1) := by decide +kernel
theorem dX0_cellsAtSteps_23 : decode cX0_cellsAtSteps 23 = .ok (.lload 5, 2) := by decide +kernel
theorem dX0_cellsAtSteps_25 : decode cX0_cellsAtSteps 25 = .ok (.invokevirtual 53, 3) := by decide +kernel
theorem dX0_cellsAtSteps_28 : decode cX0_cellsAtSteps 28 = .ok (.lload_n 1, 1) := by decide +kernel
theorem dX0_cellsAtSteps_29 : decode cX0_cellsAtSteps 29 = .ok (.land, 1) := by decide +kernel
theorem dX0_cellsAtSteps_30 : decode cX0_cellsAtSteps 30 = .ok (.lload 7, 2) := by decide +kernel
theorem dX0_cellsAtSteps_32 : decode cX0_cellsAtSteps 32 = .ok (.ldc2_w 51, 3) := by decide +kernel
theorem dX0_cellsAtSteps_35 : decode cX0_cellsAtSteps 35 = .ok (.lxor, 1) := by decide +kernel
theorem dX0_cellsAtSteps_36 : decode cX0_cellsAtSteps 36 = .ok (.land, 1) := by decide +kernel
theorem dX0_cellsAtSteps_37 : decode cX0_cellsAtSteps 37 = .ok (.lstore 5, 2) := by decide +kernel
theorem dX0_cellsAtSteps_39 : decode cX0_cellsAtSteps 39 = .ok (.lload 7, 2) := by decide +kernel
theorem dX0_cellsAtSteps_41 : decode cX0_cellsAtSteps 41 = .ok (.lload 5, 2) := by decide +kernel
theorem dX0_cellsAtSteps_43 : decode cX0_cellsAtSteps 43 = .ok (.lor, 1) := by decide +kernel
theorem dX0_cellsAtSteps_44 : decode cX0_cellsAtSteps 44 = .ok (.lstore 7, 2) := by decide +kernel
theorem dX0_cellsAtSteps_46 : decode cX0_cellsAtSteps 46 = .ok (.iinc 9 1, 3) := by decide +kernel
theorem dX0_cellsAtSteps_49 : decode cX0_cellsAtSteps 49 = .ok (.goto (-34), 3) := by decide +kernel
theorem dX0_cellsAtSteps_52 : decode cX0_cellsAtSteps 52 = .ok (.lload 5, 2) := by decide +kernel
theorem dX0_cellsAtSteps_54 : decode cX0_cellsAtSteps 54 = .ok (.lreturn, 1) := by decide +kernel
theorem dX0_stepsBetween_0 : decode cX0_stepsBetween 0 = .ok (.iload_n 3, 1) := by decide +kernel
theorem dX0_stepsBetween_1 : decode cX0_stepsBetween 1 = .ok (.invokestatic 25, 3) := by decide +kernel
theorem dX0_stepsBetween_4 : decode cX0_stepsBetween 4 = .ok (.lload_n 1, 1) := by decide +kernel
theorem dX0_stepsBetween_5 : decode cX0_stepsBetween 5 = .ok (.land, 1) := by decide +kernel
theorem dX0_stepsBetween_6 : decode cX0_stepsBetween 6 = .ok (.lstore 5, 2) := by decide +kernel
theorem dX0_stepsBetween_8 : decode cX0_stepsBetween 8 = .ok (.lload 5, 2) := by decide +kernel
theorem dX0_stepsBetween_10 : decode cX0_stepsBetween 10 = .ok (.lstore 7, 2) := by decide +kernel
theorem dX0_stepsBetween_12 : decode cX0_stepsBetween 12 = .ok (.iconst 0, 1) := by decide +kernel
theorem dX0_stepsBetween_13 : decode cX0_stepsBetween 13 = .ok (.istore 9, 2) := by decide +kernel
theorem dX0_stepsBetween_15 : decode cX0_stepsBetween 15 = .ok (.iload 9, 2) := by decide +kernel
theorem dX0_stepsBetween_17 : decode cX0_stepsBetween 17 = .ok (.bipush 48, 2) := by decide +kernel
theorem dX0_stepsBetween_19 : decode cX0_stepsBetween 19 = .ok (.if_icmp .ge 46, 3) := by decide +kernel
theorem dX0_stepsBetween_22 : decode cX0_stepsBetween 22 = .ok (.lload 5, 2) := by decide +kernel
theorem dX0_stepsBetween_24 : decode cX0_stepsBetween 24 = .ok (.iload 4, 2) := by decide +kernel
theorem dX0_stepsBetween_26 : decode cX0_stepsBetween 26 = .ok (.invokestatic 70, 3) := by decide +kernel
theorem dX0_stepsBetween_29 : decode cX0_stepsBetween 29 = .ok (.ifCond .eq 6, 3) := by decide +kernel
theorem dX0_stepsBetween_32 : decode cX0_stepsBetween 32 = .ok (.iload 9, 2) := by decide +kernel
theorem dX0_stepsBetween_34 : decode cX0_stepsBetween 34 = .ok (.ireturn, 1) := by decide +kernel
theorem dX0_stepsBetween_35 : decode cX0_stepsBetween 35 = .ok (.aload_n 0, 1) := by decide +kernel
theorem dX0_stepsBetween_36 : decode cX0_stepsBetween 36 = .ok (.lload 5, 2) := by decide +kernel
theorem dX0_stepsBetween_38 : decode cX0_stepsBetween 38 = .ok (.invokevirtual 53, 3) := by decide +kernel
theorem dX0_stepsBetween_41 : decode cX0_stepsBetween 41 = .ok (.lload_n 1, 1) := by decide +kernel
theorem dX0_stepsBetween_42 : decode cX0_stepsBetween 42 = .ok (.land, 1) := by decide +kernel
theorem dX0_stepsBetween_43 : decode cX0_stepsBetween 43 = .ok (.lload 7, 2) := by decide +kernel
theorem dX0_stepsBetween_45 : decode cX0_stepsBetween 45 = .ok (.ldc2_w 51, 3) := by decide +kernel
theorem dX0_stepsBetween_48 : decode cX0_stepsBetween 48 = .ok (.lxor, 1) := by decide +kernel
theorem dX0_stepsBetween_49 : decode cX0_stepsBetween 49 = .ok (.land, 1) := by decide +kernel
theorem dX0_stepsBetween_50 : decode cX0_stepsBetween 50 = .ok (.lstore 5, 2) := by decide +kernel
theorem dX0_stepsBetween_52 : decode cX0_stepsBetween 52 = .ok (.lload 7, 2) := by decide +kernel
theorem dX0_stepsBetween_54 : decode cX0_stepsBetween 54 = .ok (.lload 5, 2) := by decide +kernel
theorem dX0_stepsBetween_56 : decode cX0_stepsBetween 56 = .ok (.lor, 1) := by decide +kernel
theorem dX0_stepsBetween_57 : decode cX0_stepsBetween 57 = .ok (.lstore 7, 2) := by decide +kernel
theorem dX0_stepsBetween_59 : decode cX0_stepsBetween 59 = .ok (.iinc 9 1, 3) := by decide +kernel
theorem dX0_stepsBetween_62 : decode cX0_stepsBetween 62 = .ok (.goto (-47), 3) := by decide +kernel
theorem dX0_stepsBetween_65 : decode cX0_stepsBetween 65 = .ok (.bipush (-2), 2) := by decide +kernel
theorem dX0_stepsBetween_67 : decode cX0_stepsBetween 67 = .ok (.ireturn, 1) := by decide +kernel
theorem dX0_measure_0 : decode cX0_measure 0 = .ok (.iconst 0, 1) := by decide +kernel
theorem dX0_measure_1 : decode cX0_measure 1 = .ok (.istore 5, 2) := by decide +kernel
theorem dX0_measure_3 : decode cX0_measure 3 = .ok (.iload 5, 2) := by decide +kernel
theorem dX0_measure_5 : decode cX0_measure 5 = .ok (.aload 4, 2) := by decide +kernel
theorem dX0_measure_7 : decode cX0_measure 7 = .ok (.arraylength, 1) := by decide +kernel
theorem dX0_measure_8 : decode cX0_measure 8 = .ok (.if_icmp .ge 16, 3) := by decide +kernel
theorem dX0_measure_11 : decode cX0_measure 11 = .ok (.aload 4, 2) := by decide +kernel
theorem dX0_measure_13 : decode cX0_measure 13 = .ok (.iload 5, 2) := by decide +kernel
theorem dX0_measure_15 : decode cX0_measure 15 = .ok (.bipush (-2), 2) := by decide +kernel
theorem dX0_measure_17 : decode cX0_measure 17 = .ok (.iastore, 1) := by decide +kernel
theorem dX0_measure_18 : decode cX0_measure 18 = .ok (.iinc 5 1, 3) := by decide +kernel
theorem dX0_measure_21 : decode cX0_measure 21 = .ok (.goto (-18), 3) := by decide +kernel
theorem dX0_measure_24 : decode cX0_measure 24 = .ok (.iload_n 3, 1) := by decide +kernel
theorem dX0_measure_25 : decode cX0_measure 25 = .ok (.invokestatic 25, 3) := by decide +kernel
theorem dX0_measure_28 : decode cX0_measure 28 = .ok (.lload_n 1, 1) := by decide +kernel
theorem dX0_measure_29 : decode cX0_measure 29 = .ok (.land, 1) := by decide +kernel
theorem dX0_measure_30 : decode cX0_measure 30 = .ok (.lstore 5, 2) := by decide +kernel
theorem dX0_measure_32 : decode cX0_measure 32 = .ok (.lload 5, 2) := by decide +kernel
theorem dX0_measure_34 : decode cX0_measure 34 = .ok (.lstore 7, 2) := by decide +kernel
theorem dX0_measure_36 : decode cX0_measure 36 = .ok (.iconst 0, 1) := by decide +kernel
theorem dX0_measure_37 : decode cX0_measure 37 = .ok (.istore 9, 2) := by decide +kernel
theorem dX0_measure_39 : decode cX0_measure 39 = .ok (.iload 9, 2) := by decide +kernel
theorem dX0_measure_41 : decode cX0_measure 41 = .ok (.bipush 48, 2) := by decide +kernel
theorem dX0_measure_43 : decode cX0_measure 43 = .ok (.if_icmp .ge 74, 3) := by decide +kernel
theorem dX0_measure_46 : decode cX0_measure 46 = .ok (.lload 5, 2) := by decide +kernel
theorem dX0_measure_48 : decode cX0_measure 48 = .ok (.lconst 0, 1) := by decide +kernel
theorem dX0_measure_49 : decode cX0_measure 49 = .ok (.lcmp, 1) := by decide +kernel
theorem dX0_measure_50 : decode cX0_measure 50 = .ok (.ifCond .eq 67, 3) := by decide +kernel
theorem dX0_measure_53 : decode cX0_measure 53 = .ok (.iconst 0, 1) := by decide +kernel
theorem dX0_measure_54 : decode cX0_measure 54 = .ok (.istore 10, 2) := by decide +kernel
theorem dX0_measure_56 : decode cX0_measure 56 = .ok (.iload 10, 2) := by decide +kernel
theorem dX0_measure_58 : decode cX0_measure 58 = .ok (.aload 4, 2) := by decide +kernel
theorem dX0_measure_60 : decode cX0_measure 60 = .ok (.arraylength, 1) := by decide +kernel
theorem dX0_measure_61 : decode cX0_measure 61 = .ok (.if_icmp .ge 26, 3) := by decide +kernel
theorem dX0_measure_64 : decode cX0_measure 64 = .ok (.lload 5, 2) := by decide +kernel
theorem dX0_measure_66 : decode cX0_measure 66 = .ok (.iload 10, 2) := by decide +kernel
theorem dX0_measure_68 : decode cX0_measure 68 = .ok (.invokestatic 70, 3) := by decide +kernel
theorem dX0_measure_71 : decode cX0_measure 71 = .ok (.ifCond .eq 10, 3) := by decide +kernel
theorem dX0_measure_74 : decode cX0_measure 74 = .ok (.aload 4, 2) := by decide +kernel
theorem dX0_measure_76 : decode cX0_measure 76 = .ok (.iload 10, 2) := by decide +kernel
theorem dX0_measure_78 : decode cX0_measure 78 = .ok (.iload 9, 2) := by decide +kernel
theorem dX0_measure_80 : decode cX0_measure 80 = .ok (.iastore, 1) := by decide +kernel
theorem dX0_measure_81 : decode cX0_measure 81 = .ok (.iinc 10 1, 3) := by decide +kernel
theorem dX0_measure_84 : decode cX0_measure 84 = .ok (.goto (-28), 3) := by decide +kernel
theorem dX0_measure_87 : decode cX0_measure 87 = .ok (.aload_n 0, 1) := by decide +kernel
theorem dX0_measure_88 : decode cX0_measure 88 = .ok (.lload 5, 2) := by decide +kernel
theorem dX0_measure_90 : decode cX0_measure 90 = .ok (.invokevirtual 53, 3) := by decide +kernel
theorem dX0_measure_93 : decode cX0_measure 93 = .ok (.lload_n 1, 1) := by decide +kernel
theorem dX0_measure_94 : decode cX0_measure 94 = .ok (.land, 1) := by decide +kernel
theorem dX0_measure_95 : decode cX0_measure 95 = .ok (.lload 7, 2) := by decide +kernel
theorem dX0_measure_97 : decode cX0_measure 97 = .ok (.ldc2_w 51, 3) := by decide +kernel
theorem dX0_measure_100 : decode cX0_measure 100 = .ok (.lxor, 1) := by decide +kernel
theorem dX0_measure_101 : decode cX0_measure 101 = .ok (.land, 1) := by decide +kernel
theorem dX0_measure_102 : decode cX0_measure 102 = .ok (.lstore 5, 2) := by decide +kernel
theorem dX0_measure_104 : decode cX0_measure 104 = .ok (.lload 7, 2) := by decide +kernel
theorem dX0_measure_106 : decode cX0_measure 106 = .ok (.lload 5, 2) := by decide +kernel
theorem dX0_measure_108 : decode cX0_measure 108 = .ok (.lor, 1) := by decide +kernel
theorem dX0_measure_109 : decode cX0_measure 109 = .ok (.lstore 7, 2) := by decide +kernel
theorem dX0_measure_111 : decode cX0_measure 111 = .ok (.iinc 9 1, 3) := by decide +kernel
theorem dX0_measure_114 : decode cX0_measure 114 = .ok (.goto (-75), 3) := by decide +kernel
theorem dX0_measure_117 : decode cX0_measure 117 = .ok (.return_, 1) := by decide +kernel
theorem dX0_longestWay_0 : decode cX0_longestWay 0 = .ok (.bipush (-2), 2) := by decide +kernel
theorem dX0_longestWay_2 : decode cX0_longestWay 2 = .ok (.istore_n 3, 1) := by decide +kernel
theorem dX0_longestWay_3 : decode cX0_longestWay 3 = .ok (.iconst 0, 1) := by decide +kernel
theorem dX0_longestWay_4 : decode cX0_longestWay 4 = .ok (.istore 4, 2) := by decide +kernel
theorem dX0_longestWay_6 : decode cX0_longestWay 6 = .ok (.iload 4, 2) := by decide +kernel
theorem dX0_longestWay_8 : decode cX0_longestWay 8 = .ok (.aload_n 0, 1) := by decide +kernel
theorem dX0_longestWay_9 : decode cX0_longestWay 9 = .ok (.getfield 22, 3) := by decide +kernel
theorem dX0_longestWay_12 : decode cX0_longestWay 12 = .ok (.if_icmp .ge 30, 3) := by decide +kernel
theorem dX0_longestWay_15 : decode cX0_longestWay 15 = .ok (.lload_n 1, 1) := by decide +kernel
theorem dX0_longestWay_16 : decode cX0_longestWay 16 = .ok (.iload 4, 2) := by decide +kernel
theorem dX0_longestWay_18 : decode cX0_longestWay 18 = .ok (.invokestatic 70, 3) := by decide +kernel
theorem dX0_longestWay_21 : decode cX0_longestWay 21 = .ok (.ifCond .eq 15, 3) := by decide +kernel
theorem dX0_longestWay_24 : decode cX0_longestWay 24 = .ok (.iload_n 3, 1) := by decide +kernel
theorem dX0_longestWay_25 : decode cX0_longestWay 25 = .ok (.aload_n 0, 1) := by decide +kernel
theorem dX0_longestWay_26 : decode cX0_longestWay 26 = .ok (.lload_n 1, 1) := by decide +kernel
theorem dX0_longestWay_27 : decode cX0_longestWay 27 = .ok (.iload 4, 2) := by decide +kernel
theorem dX0_longestWay_29 : decode cX0_longestWay 29 = .ok (.invokevirtual 78, 3) := by decide +kernel
theorem dX0_longestWay_32 : decode cX0_longestWay 32 = .ok (.invokestatic 81, 3) := by decide +kernel
theorem dX0_longestWay_35 : decode cX0_longestWay 35 = .ok (.istore_n 3, 1) := by decide +kernel
theorem dX0_longestWay_36 : decode cX0_longestWay 36 = .ok (.iinc 4 1, 3) := by decide +kernel
theorem dX0_longestWay_39 : decode cX0_longestWay 39 = .ok (.goto (-33), 3) := by decide +kernel
theorem dX0_longestWay_42 : decode cX0_longestWay 42 = .ok (.iload_n 3, 1) := by decide +kernel
theorem dX0_longestWay_43 : decode cX0_longestWay 43 = .ok (.ireturn, 1) := by decide +kernel
theorem dX0_farthest_0 : decode cX0_farthest 0 = .ok (.iload_n 3, 1) := by decide +kernel
theorem dX0_farthest_1 : decode cX0_farthest 1 = .ok (.invokestatic 25, 3) := by decide +kernel
theorem dX0_farthest_4 : decode cX0_farthest 4 = .ok (.lload_n 1, 1) := by decide +kernel
theorem dX0_farthest_5 : decode cX0_farthest 5 = .ok (.land, 1) := by decide +kernel
theorem dX0_farthest_6 : decode cX0_farthest 6 = .ok (.lstore 4, 2) := by decide +kernel
theorem dX0_farthest_8 : decode cX0_farthest 8 = .ok (.lload 4, 2) := by decide +kernel
theorem dX0_farthest_10 : decode cX0_farthest 10 = .ok (.lstore 6, 2) := by decide +kernel
theorem dX0_farthest_12 : decode cX0_farthest 12 = .ok (.iconst 0, 1) := by decide +kernel
theorem dX0_farthest_13 : decode cX0_farthest 13 = .ok (.istore 8, 2) := by decide +kernel
theorem dX0_farthest_15 : decode cX0_farthest 15 = .ok (.iconst 0, 1) := by decide +kernel
theorem dX0_farthest_16 : decode cX0_farthest 16 = .ok (.istore 9, 2) := by decide +kernel
theorem dX0_farthest_18 : decode cX0_farthest 18 = .ok (.iload 9, 2) := by decide +kernel
theorem dX0_farthest_20 : decode cX0_farthest 20 = .ok (.bipush 48, 2) := by decide +kernel
theorem dX0_farthest_22 : decode cX0_farthest 22 = .ok (.if_icmp .ge 44, 3) := by decide +kernel
theorem dX0_farthest_25 : decode cX0_farthest 25 = .ok (.lload 4, 2) := by decide +kernel
theorem dX0_farthest_27 : decode cX0_farthest 27 = .ok (.lconst 0, 1) := by decide +kernel
theorem dX0_farthest_28 : decode cX0_farthest 28 = .ok (.lcmp, 1) := by decide +kernel
theorem dX0_farthest_29 : decode cX0_farthest 29 = .ok (.ifCond .eq 37, 3) := by decide +kernel
theorem dX0_farthest_32 : decode cX0_farthest 32 = .ok (.iload 9, 2) := by decide +kernel
theorem dX0_farthest_34 : decode cX0_farthest 34 = .ok (.istore 8, 2) := by decide +kernel
theorem dX0_farthest_36 : decode cX0_farthest 36 = .ok (.aload_n 0, 1) := by decide +kernel
theorem dX0_farthest_37 : decode cX0_farthest 37 = .ok (.lload 4, 2) := by decide +kernel
theorem dX0_farthest_39 : decode cX0_farthest 39 = .ok (.invokevirtual 53, 3) := by decide +kernel
theorem dX0_farthest_42 : decode cX0_farthest 42 = .ok (.lload_n 1, 1) := by decide +kernel
theorem dX0_farthest_43 : decode cX0_farthest 43 = .ok (.land, 1) := by decide +kernel
theorem dX0_farthest_44 : decode cX0_farthest 44 = .ok (.lload 6, 2) := by decide +kernel
theorem dX0_farthest_46 : decode cX0_farthest 46 = .ok (.ldc2_w 51, 3) := by decide +kernel
theorem dX0_farthest_49 : decode cX0_farthest 49 = .ok (.lxor, 1) := by decide +kernel
theorem dX0_farthest_50 : decode cX0_farthest 50 = .ok (.land, 1) := by decide +kernel
theorem dX0_farthest_51 : decode cX0_farthest 51 = .ok (.lstore 4, 2) := by decide +kernel
theorem dX0_farthest_53 : decode cX0_farthest 53 = .ok (.lload 6, 2) := by decide +kernel
theorem dX0_farthest_55 : decode cX0_farthest 55 = .ok (.lload 4, 2) := by decide +kernel
theorem dX0_farthest_57 : decode cX0_farthest 57 = .ok (.lor, 1) := by decide +kernel
theorem dX0_farthest_58 : decode cX0_farthest 58 = .ok (.lstore 6, 2) := by decide +kernel
theorem dX0_farthest_60 : decode cX0_farthest 60 = .ok (.iinc 9 1, 3) := by decide +kernel
theorem dX0_farthest_63 : decode cX0_farthest 63 = .ok (.goto (-45), 3) := by decide +kernel
theorem dX0_farthest_66 : decode cX0_farthest 66 = .ok (.iload 8, 2) := by decide +kernel
theorem dX0_farthest_68 : decode cX0_farthest 68 = .ok (.ireturn, 1) := by decide +kernel
theorem dX0_weekLater_0 : decode cX0_weekLater 0 = .ok (.lload_n 1, 1) := by decide +kernel
theorem dX0_weekLater_1 : decode cX0_weekLater 1 = .ok (.lstore 6, 2) := by decide +kernel
theorem dX0_weekLater_3 : decode cX0_weekLater 3 = .ok (.iconst 0, 1) := by decide +kernel
theorem dX0_weekLater_4 : decode cX0_weekLater 4 = .ok (.istore 8, 2) := by decide +kernel
theorem dX0_weekLater_6 : decode cX0_weekLater 6 = .ok (.iload 8, 2) := by decide +kernel
theorem dX0_weekLater_8 : decode cX0_weekLater 8 = .ok (.aload_n 0, 1) := by decide +kernel
theorem dX0_weekLater_9 : decode cX0_weekLater 9 = .ok (.getfield 22, 3) := by decide +kernel
theorem dX0_weekLater_12 : decode cX0_weekLater 12 = .ok (.if_icmp .ge 52, 3) := by decide +kernel
theorem dX0_weekLater_15 : decode cX0_weekLater 15 = .ok (.lload_n 1, 1) := by decide +kernel
theorem dX0_weekLater_16 : decode cX0_weekLater 16 = .ok (.lload_n 3, 1) := by decide +kernel
theorem dX0_weekLater_17 : decode cX0_weekLater 17 = .ok (.ldc2_w 51, 3) := by decide +kernel
theorem dX0_weekLater_20 : decode cX0_weekLater 20 = .ok (.lxor, 1) := by decide +kernel
theorem dX0_weekLater_21 : decode cX0_weekLater 21 = .ok (.land, 1) := by decide +kernel
theorem dX0_weekLater_22 : decode cX0_weekLater 22 = .ok (.iload 8, 2) := by decide +kernel
theorem dX0_weekLater_24 : decode cX0_weekLater 24 = .ok (.invokestatic 70, 3) := by decide +kernel
theorem dX0_weekLater_27 : decode cX0_weekLater 27 = .ok (.ifCond .eq 31, 3) := by decide +kernel
theorem dX0_weekLater_30 : decode cX0_weekLater 30 = .ok (.iconst 4, 1) := by decide +kernel
theorem dX0_weekLater_31 : decode cX0_weekLater 31 = .ok (.aload_n 0, 1) := by decide +kernel
theorem dX0_weekLater_32 : decode cX0_weekLater 32 = .ok (.lload_n 1, 1) := by decide +kernel
theorem dX0_weekLater_33 : decode cX0_weekLater 33 = .ok (.iload 8, 2) := by decide +kernel
theorem dX0_weekLater_35 : decode cX0_weekLater 35 = .ok (.invokevirtual 74, 3) := by decide +kernel
theorem dX0_weekLater_38 : decode cX0_weekLater 38 = .ok (.isub, 1) := by decide +kernel
theorem dX0_weekLater_39 : decode cX0_weekLater 39 = .ok (.iload 5, 2) := by decide +kernel
theorem dX0_weekLater_41 : decode cX0_weekLater 41 = .ok (.if_icmp .lt 17, 3) := by decide +kernel
theorem dX0_weekLater_44 : decode cX0_weekLater 44 = .ok (.lload 6, 2) := by decide +kernel
theorem dX0_weekLater_46 : decode cX0_weekLater 46 = .ok (.iload 8, 2) := by decide +kernel
theorem dX0_weekLater_48 : decode cX0_weekLater 48 = .ok (.invokestatic 25, 3) := by decide +kernel
theorem dX0_weekLater_51 : decode cX0_weekLater 51 = .ok (.ldc2_w 51, 3) := by decide +kernel
theorem dX0_weekLater_54 : decode cX0_weekLater 54 = .ok (.lxor, 1) := by decide +kernel
theorem dX0_weekLater_55 : decode cX0_weekLater 55 = .ok (.land, 1) := by decide +kernel
theorem dX0_weekLater_56 : decode cX0_weekLater 56 = .ok (.lstore 6, 2) := by decide +kernel
theorem dX0_weekLater_58 : decode cX0_weekLater 58 = .ok (.iinc 8 1, 3) := by decide +kernel
theorem dX0_weekLater_61 : decode cX0_weekLater 61 = .ok (.goto (-55), 3) := by decide +kernel
theorem dX0_weekLater_64 : decode cX0_weekLater 64 = .ok (.lload 6, 2) := by decide +kernel
theorem dX0_weekLater_66 : decode cX0_weekLater 66 = .ok (.lreturn, 1) := by decide +kernel
theorem dX0_seenFromWall_0 : decode cX0_seenFromWall 0 = .ok (.aload_n 0, 1) := by decide +kernel
theorem dX0_seenFromWall_1 : decode cX0_seenFromWall 1 = .ok (.lload_n 1, 1) := by decide +kernel
theorem dX0_seenFromWall_2 : decode cX0_seenFromWall 2 = .ok (.iload_n 3, 1) := by decide +kernel
theorem dX0_seenFromWall_3 : decode cX0_seenFromWall 3 = .ok (.iconst 0, 1) := by decide +kernel
theorem dX0_seenFromWall_4 : decode cX0_seenFromWall 4 = .ok (.lconst 0, 1) := by decide +kernel
theorem dX0_seenFromWall_5 : decode cX0_seenFromWall 5 = .ok (.invokevirtual 86, 3) := by decide +kernel
theorem dX0_seenFromWall_8 : decode cX0_seenFromWall 8 = .ok (.ifCond .eq 7, 3) := by decide +kernel
theorem dX0_seenFromWall_11 : decode cX0_seenFromWall 11 = .ok (.iconst 1, 1) := by decide +kernel
theorem dX0_seenFromWall_12 : decode cX0_seenFromWall 12 = .ok (.goto 4, 3) := by decide +kernel
theorem dX0_seenFromWall_15 : decode cX0_seenFromWall 15 = .ok (.iconst 0, 1) := by decide +kernel
theorem dX0_seenFromWall_16 : decode cX0_seenFromWall 16 = .ok (.istore 4, 2) := by decide +kernel
theorem dX0_seenFromWall_18 : decode cX0_seenFromWall 18 = .ok (.iload 4, 2) := by decide +kernel
theorem dX0_seenFromWall_20 : decode cX0_seenFromWall 20 = .ok (.aload_n 0, 1) := by decide +kernel
theorem dX0_seenFromWall_21 : decode cX0_seenFromWall 21 = .ok (.lload_n 1, 1) := by decide +kernel
theorem dX0_seenFromWall_22 : decode cX0_seenFromWall 22 = .ok (.iload_n 3, 1) := by decide +kernel
theorem dX0_seenFromWall_23 : decode cX0_seenFromWall 23 = .ok (.iconst (-1), 1) := by decide +kernel
theorem dX0_seenFromWall_24 : decode cX0_seenFromWall 24 = .ok (.aload_n 0, 1) := by decide +kernel
theorem dX0_seenFromWall_25 : decode cX0_seenFromWall 25 = .ok (.getfield 33, 3) := by decide +kernel
theorem dX0_seenFromWall_28 : decode cX0_seenFromWall 28 = .ok (.invokevirtual 86, 3) := by decide +kernel
theorem dX0_seenFromWall_31 : decode cX0_seenFromWall 31 = .ok (.ifCond .eq 7, 3) := by decide +kernel
theorem dX0_seenFromWall_34 : decode cX0_seenFromWall 34 = .ok (.iconst 2, 1) := by decide +kernel
theorem dX0_seenFromWall_35 : decode cX0_seenFromWall 35 = .ok (.goto 4, 3) := by decide +kernel
theorem dX0_seenFromWall_38 : decode cX0_seenFromWall 38 = .ok (.iconst 0, 1) := by decide +kernel
theorem dX0_seenFromWall_39 : decode cX0_seenFromWall 39 = .ok (.ior, 1) := by decide +kernel
theorem dX0_seenFromWall_40 : decode cX0_seenFromWall 40 = .ok (.istore 4, 2) := by decide +kernel
theorem dX0_seenFromWall_42 : decode cX0_seenFromWall 42 = .ok (.iload 4, 2) := by decide +kernel
theorem dX0_seenFromWall_44 : decode cX0_seenFromWall 44 = .ok (.aload_n 0, 1) := by decide +kernel
theorem dX0_seenFromWall_45 : decode cX0_seenFromWall 45 = .ok (.lload_n 1, 1) := by decide +kernel
theorem dX0_seenFromWall_46 : decode cX0_seenFromWall 46 = .ok (.iload_n 3, 1) := by decide +kernel
theorem dX0_seenFromWall_47 : decode cX0_seenFromWall 47 = .ok (.iconst 1, 1) := by decide +kernel
theorem dX0_seenFromWall_48 : decode cX0_seenFromWall 48 = .ok (.aload_n 0, 1) := by decide +kernel
theorem dX0_seenFromWall_49 : decode cX0_seenFromWall 49 = .ok (.getfield 36, 3) := by decide +kernel
theorem dX0_seenFromWall_52 : decode cX0_seenFromWall 52 = .ok (.invokevirtual 86, 3) := by decide +kernel
theorem dX0_seenFromWall_55 : decode cX0_seenFromWall 55 = .ok (.ifCond .eq 7, 3) := by decide +kernel
theorem dX0_seenFromWall_58 : decode cX0_seenFromWall 58 = .ok (.iconst 4, 1) := by decide +kernel
theorem dX0_seenFromWall_59 : decode cX0_seenFromWall 59 = .ok (.goto 4, 3) := by decide +kernel
theorem dX0_seenFromWall_62 : decode cX0_seenFromWall 62 = .ok (.iconst 0, 1) := by decide +kernel
theorem dX0_seenFromWall_63 : decode cX0_seenFromWall 63 = .ok (.ior, 1) := by decide +kernel
theorem dX0_seenFromWall_64 : decode cX0_seenFromWall 64 = .ok (.istore 4, 2) := by decide +kernel
theorem dX0_seenFromWall_66 : decode cX0_seenFromWall 66 = .ok (.iload 4, 2) := by decide +kernel
theorem dX0_seenFromWall_68 : decode cX0_seenFromWall 68 = .ok (.ireturn, 1) := by decide +kernel
theorem dX0_isSeenAlong_0 : decode cX0_isSeenAlong 0 = .ok (.iload_n 3, 1) := by decide +kernel
theorem dX0_isSeenAlong_1 : decode cX0_isSeenAlong 1 = .ok (.istore 7, 2) := by decide +kernel
theorem dX0_isSeenAlong_3 : decode cX0_isSeenAlong 3 = .ok (.iconst 0, 1) := by decide +kernel
theorem dX0_isSeenAlong_4 : decode cX0_isSeenAlong 4 = .ok (.istore 8, 2) := by decide +kernel
theorem dX0_isSeenAlong_6 : decode cX0_isSeenAlong 6 = .ok (.iload 8, 2) := by decide +kernel
theorem dX0_isSeenAlong_8 : decode cX0_isSeenAlong 8 = .ok (.bipush 6, 2) := by decide +kernel
theorem dX0_isSeenAlong_10 : decode cX0_isSeenAlong 10 = .ok (.if_icmp .ge 53, 3) := by decide +kernel
theorem dX0_isSeenAlong_13 : decode cX0_isSeenAlong 13 = .ok (.iload 7, 2) := by decide +kernel
theorem dX0_isSeenAlong_15 : decode cX0_isSeenAlong 15 = .ok (.aload_n 0, 1) := by decide +kernel
theorem dX0_isSeenAlong_16 : decode cX0_isSeenAlong 16 = .ok (.getfield 15, 3) := by decide +kernel
theorem dX0_isSeenAlong_19 : decode cX0_isSeenAlong 19 = .ok (.if_icmp .lt 13, 3) := by decide +kernel
theorem dX0_isSeenAlong_22 : decode cX0_isSeenAlong 22 = .ok (.lload 5, 2) := by decide +kernel
theorem dX0_isSeenAlong_24 : decode cX0_isSeenAlong 24 = .ok (.iload 7, 2) := by decide +kernel
theorem dX0_isSeenAlong_26 : decode cX0_isSeenAlong 26 = .ok (.invokestatic 70, 3) := by decide +kernel
theorem dX0_isSeenAlong_29 : decode cX0_isSeenAlong 29 = .ok (.ifCond .eq 5, 3) := by decide +kernel
theorem dX0_isSeenAlong_32 : decode cX0_isSeenAlong 32 = .ok (.iconst 1, 1) := by decide +kernel
theorem dX0_isSeenAlong_33 : decode cX0_isSeenAlong 33 = .ok (.ireturn, 1) := by decide +kernel
theorem dX0_isSeenAlong_34 : decode cX0_isSeenAlong 34 = .ok (.iload 7, 2) := by decide +kernel
theorem dX0_isSeenAlong_36 : decode cX0_isSeenAlong 36 = .ok (.aload_n 0, 1) := by decide +kernel
theorem dX0_isSeenAlong_37 : decode cX0_isSeenAlong 37 = .ok (.getfield 15, 3) := by decide +kernel
theorem dX0_isSeenAlong_40 : decode cX0_isSeenAlong 40 = .ok (.isub, 1) := by decide +kernel
theorem dX0_isSeenAlong_41 : decode cX0_isSeenAlong 41 = .ok (.iload 4, 2) := by decide +kernel
theorem dX0_isSeenAlong_43 : decode cX0_isSeenAlong 43 = .ok (.iadd, 1) := by decide +kernel
theorem dX0_isSeenAlong_44 : decode cX0_isSeenAlong 44 = .ok (.istore 7, 2) := by decide +kernel
theorem dX0_isSeenAlong_46 : decode cX0_isSeenAlong 46 = .ok (.lload_n 1, 1) := by decide +kernel
theorem dX0_isSeenAlong_47 : decode cX0_isSeenAlong 47 = .ok (.iload 7, 2) := by decide +kernel
theorem dX0_isSeenAlong_49 : decode cX0_isSeenAlong 49 = .ok (.invokestatic 70, 3) := by decide +kernel
theorem dX0_isSeenAlong_52 : decode cX0_isSeenAlong 52 = .ok (.ifCond .ne 5, 3) := by decide +kernel
theorem dX0_isSeenAlong_55 : decode cX0_isSeenAlong 55 = .ok (.iconst 0, 1) := by decide +kernel
theorem dX0_isSeenAlong_56 : decode cX0_isSeenAlong 56 = .ok (.ireturn, 1) := by decide +kernel
theorem dX0_isSeenAlong_57 : decode cX0_isSeenAlong 57 = .ok (.iinc 8 1, 3) := by decide +kernel
theorem dX0_isSeenAlong_60 : decode cX0_isSeenAlong 60 = .ok (.goto (-54), 3) := by decide +kernel
theorem dX0_isSeenAlong_63 : decode cX0_isSeenAlong 63 = .ok (.iconst 1, 1) := by decide +kernel
theorem dX0_isSeenAlong_64 : decode cX0_isSeenAlong 64 = .ok (.ireturn, 1) := by decide +kernel
theorem dX1_init_0 : decode cX1_init 0 = .ok (.aload_n 0, 1) := by decide +kernel
theorem dX1_init_1 : decode cX1_init 1 = .ok (.invokespecial 3, 3) := by decide +kernel
theorem dX1_init_4 : decode cX1_init 4 = .ok (.aload_n 0, 1) := by decide +kernel
theorem dX1_init_5 : decode cX1_init 5 = .ok (.bipush 20, 2) := by decide +kernel
theorem dX1_init_7 : decode cX1_init 7 = .ok (.newarray .long, 2) := by decide +kernel
theorem dX1_init_9 : decode cX1_init 9 = .ok (.putfield 11, 3) := by decide +kernel
theorem dX1_init_12 : decode cX1_init 12 = .ok (.aload_n 0, 1) := by decide +kernel
theorem dX1_init_13 : decode cX1_init 13 = .ok (.bipush 20, 2) := by decide +kernel
theorem dX1_init_15 : decode cX1_init 15 = .ok (.newarray .int, 2) := by decide +kernel
theorem dX1_init_17 : decode cX1_init 17 = .ok (.putfield 15, 3) := by decide +kernel
theorem dX1_init_20 : decode cX1_init 20 = .ok (.aload_n 0, 1) := by decide +kernel
theorem dX1_init_21 : decode cX1_init 21 = .ok (.iconst 3, 1) := by decide +kernel
theorem dX1_init_22 : decode cX1_init 22 = .ok (.newarray .long, 2) := by decide +kernel
theorem dX1_init_24 : decode cX1_init 24 = .ok (.putfield 19, 3) := by decide +kernel
theorem dX1_init_27 : decode cX1_init 27 = .ok (.aload_n 0, 1) := by decide +kernel
theorem dX1_init_28 : decode cX1_init 28 = .ok (.iconst 3, 1) := by decide +kernel
theorem dX1_init_29 : decode cX1_init 29 = .ok (.newarray .int, 2) := by decide +kernel
theorem dX1_init_31 : decode cX1_init 31 = .ok (.putfield 22, 3) := by decide +kernel
theorem dX1_init_34 : decode cX1_init 34 = .ok (.return_, 1) := by decide +kernel
theorem dX1_forget_0 : decode cX1_forget 0 = .ok (.aload_n 0, 1) := by decide +kernel
theorem dX1_forget_1 : decode cX1_forget 1 = .ok (.iconst 0, 1) := by decide +kernel
theorem dX1_forget_2 : decode cX1_forget 2 = .ok (.putfield 25, 3) := by decide +kernel
theorem dX1_forget_5 : decode cX1_forget 5 = .ok (.aload_n 0, 1) := by decide +kernel
theorem dX1_forget_6 : decode cX1_forget 6 = .ok (.iconst 0, 1) := by decide +kernel
theorem dX1_forget_7 : decode cX1_forget 7 = .ok (.putfield 29, 3) := by decide +kernel
theorem dX1_forget_10 : decode cX1_forget 10 = .ok (.return_, 1) := by decide +kernel
theorem dX1_forgetActs_0 : decode cX1_forgetActs 0 = .ok (.aload_n 0, 1) := by decide +kernel
theorem dX1_forgetActs_1 : decode cX1_forgetActs 1 = .ok (.iconst 0, 1) := by decide +kernel
theorem dX1_forgetActs_2 : decode cX1_forgetActs 2 = .ok (.putfield 25, 3) := by decide +kernel
theorem dX1_forgetActs_5 : decode cX1_forgetActs 5 = .ok (.return_, 1) := by decide +kernel
theorem dX1_actCount_0 : decode cX1_actCount 0 = .ok (.aload_n 0, 1) := by decide +kernel
theorem dX1_actCount_1 : decode cX1_actCount 1 = .ok (.getfield 25, 3) := by decide +kernel
theorem dX1_actCount_4 : decode cX1_actCount 4 = .ok (.ireturn, 1) := by decide +kernel
theorem dX1_markCount_0 : decode cX1_markCount 0 = .ok (.aload_n 0, 1) := by decide +kernel
theorem dX1_markCount_1 : decode cX1_markCount 1 = .ok (.getfield 29, 3) := by decide +kernel
theorem dX1_markCount_4 : decode cX1_markCount 4 = .ok (.ireturn, 1) := by decide +kernel
theorem dX1_keepAct_0 : decode cX1_keepAct 0 = .ok (.aload_n 0, 1) := by decide +kernel
theorem dX1_keepAct_1 : decode cX1_keepAct 1 = .ok (.getfield 25, 3) := by decide +kernel
theorem dX1_keepAct_4 : decode cX1_keepAct 4 = .ok (.bipush 20, 2) := by decide +kernel
theorem dX1_keepAct_6 : decode cX1_keepAct 6 = .ok (.if_icmp .lt 39, 3) := by decide +kernel
theorem dX1_keepAct_9 : decode cX1_keepAct 9 = .ok (.aload_n 0, 1) := by decide +kernel
theorem dX1_keepAct_10 : decode cX1_keepAct 10 = .ok (.getfield 11, 3) := by decide +kernel
theorem dX1_keepAct_13 : decode cX1_keepAct 13 = .ok (.iconst 1, 1) := by decide +kernel
theorem dX1_keepAct_14 : decode cX1_keepAct 14 = .ok (.aload_n 0, 1) := by decide +kernel
theorem dX1_keepAct_15 : decode cX1_keepAct 15 = .ok (.getfield 11, 3) := by decide +kernel
theorem dX1_keepAct_18 : decode cX1_keepAct 18 = .ok (.iconst 0, 1) := by decide +kernel
theorem dX1_keepAct_19 : decode cX1_keepAct 19 = .ok (.bipush 19, 2) := by decide +kernel
theorem dX1_keepAct_21 : decode cX1_keepAct 21 = .ok (.invokestatic 32, 3) := by decide +kernel
theorem dX1_keepAct_24 : decode cX1_keepAct 24 = .ok (.aload_n 0, 1) := by decide +kernel
theorem dX1_keepAct_25 : decode cX1_keepAct 25 = .ok (.getfield 15, 3) := by decide +kernel
theorem dX1_keepAct_28 : decode cX1_keepAct 28 = .ok (.iconst 1, 1) := by decide +kernel
theorem dX1_keepAct_29 : decode cX1_keepAct 29 = .ok (.aload_n 0, 1) := by decide +kernel
theorem dX1_keepAct_30 : decode cX1_keepAct 30 = .ok (.getfield 15, 3) := by decide +kernel
theorem dX1_keepAct_33 : decode cX1_keepAct 33 = .ok (.iconst 0, 1) := by decide +kernel
theorem dX1_keepAct_34 : decode cX1_keepAct 34 = .ok (.bipush 19, 2) := by decide +kernel
theorem dX1_keepAct_36 : decode cX1_keepAct 36 = .ok (.invokestatic 32, 3) := by decide +kernel
theorem dX1_keepAct_39 : decode cX1_keepAct 39 = .ok (.aload_n 0, 1) := by decide +kernel
theorem dX1_keepAct_40 : decode cX1_keepAct 40 = .ok (.bipush 19, 2) := by decide +kernel
theorem dX1_keepAct_42 : decode cX1_keepAct 42 = .ok (.putfield 25, 3) := by decide +kernel
theorem dX1_keepAct_45 : decode cX1_keepAct 45 = .ok (.aload_n 0, 1) := by decide +kernel
theorem dX1_keepAct_46 : decode cX1_keepAct 46 = .ok (.getfield 25, 3) := by decide +kernel
theorem dX1_keepAct_49 : decode cX1_keepAct 49 = .ok (.ifCond .lt 57, 3) := by decide +kernel
theorem dX1_keepAct_52 : decode cX1_keepAct 52 = .ok (.aload_n 0, 1) := by decide +kernel
theorem dX1_keepAct_53 : decode cX1_keepAct 53 = .ok (.getfield 25, 3) := by decide +kernel
theorem dX1_keepAct_56 : decode cX1_keepAct 56 = .ok (.aload_n 0, 1) := by decide +kernel
theorem dX1_keepAct_57 : decode cX1_keepAct 57 = .ok (.getfield 11, 3) := by decide +kernel
theorem dX1_keepAct_60 : decode cX1_keepAct 60 = .ok (.arraylength, 1) := by decide +kernel
theorem dX1_keepAct_61 : decode cX1_keepAct 61 = .ok (.if_icmp .ge 45, 3) := by decide +kernel
theorem dX1_keepAct_64 : decode cX1_keepAct 64 = .ok (.aload_n 0, 1) := by decide +kernel
theorem dX1_keepAct_65 : decode cX1_keepAct 65 = .ok (.getfield 25, 3) := by decide +kernel
theorem dX1_keepAct_68 : decode cX1_keepAct 68 = .ok (.aload_n 0, 1) := by decide +kernel
theorem dX1_keepAct_69 : decode cX1_keepAct 69 = .ok (.getfield 15, 3) := by decide +kernel
theorem dX1_keepAct_72 : decode cX1_keepAct 72 = .ok (.arraylength, 1) := by decide +kernel
theorem dX1_keepAct_73 : decode cX1_keepAct 73 = .ok (.if_icmp .ge 33, 3) := by decide +kernel
theorem dX1_keepAct_76 : decode cX1_keepAct 76 = .ok (.aload_n 0, 1) := by decide +kernel
theorem dX1_keepAct_77 : decode cX1_keepAct 77 = .ok (.getfield 11, 3) := by decide +kernel
theorem dX1_keepAct_80 : decode cX1_keepAct 80 = .ok (.aload_n 0, 1) := by decide +kernel
theorem dX1_keepAct_81 : decode cX1_keepAct 81 = .ok (.getfield 25, 3) := by decide +kernel
theorem dX1_keepAct_84 : decode cX1_keepAct 84 = .ok (.lload_n 1, 1) := by decide +kernel
theorem dX1_keepAct_85 : decode cX1_keepAct 85 = .ok (.lastore, 1) := by decide +kernel
theorem dX1_keepAct_86 : decode cX1_keepAct 86 = .ok (.aload_n 0, 1) := by decide +kernel
theorem dX1_keepAct_87 : decode cX1_keepAct 87 = .ok (.getfield 15, 3) := by decide +kernel
theorem dX1_keepAct_90 : decode cX1_keepAct 90 = .ok (.aload_n 0, 1) := by decide +kernel
theorem dX1_keepAct_91 : decode cX1_keepAct 91 = .ok (.getfield 25, 3) := by decide +kernel
theorem dX1_keepAct_94 : decode cX1_keepAct 94 = .ok (.iload_n 3, 1) := by decide +kernel
theorem dX1_keepAct_95 : decode cX1_keepAct 95 = .ok (.iastore, 1) := by decide +kernel
theorem dX1_keepAct_96 : decode cX1_keepAct 96 = .ok (.aload_n 0, 1) := by decide +kernel
theorem dX1_keepAct_97 : decode cX1_keepAct 97 = .ok (.dup, 1) := by decide +kernel
theorem dX1_keepAct_98 : decode cX1_keepAct 98 = .ok (.getfield 25, 3) := by decide +kernel
theorem dX1_keepAct_101 : decode cX1_keepAct 101 = .ok (.iconst 1, 1) := by decide +kernel
theorem dX1_keepAct_102 : decode cX1_keepAct 102 = .ok (.iadd, 1) := by decide +kernel
theorem dX1_keepAct_103 : decode cX1_keepAct 103 = .ok (.putfield 25, 3) := by decide +kernel
theorem dX1_keepAct_106 : decode cX1_keepAct 106 = .ok (.return_, 1) := by decide +kernel
theorem dX1_latestCells_0 : decode cX1_latestCells 0 = .ok (.aload_n 0, 1) := by decide +kernel
theorem dX1_latestCells_1 : decode cX1_latestCells 1 = .ok (.getfield 25, 3) := by decide +kernel
theorem dX1_latestCells_4 : decode cX1_latestCells 4 = .ok (.ifCond .le 29, 3) := by decide +kernel
theorem dX1_latestCells_7 : decode cX1_latestCells 7 = .ok (.aload_n 0, 1) := by decide +kernel
theorem dX1_latestCells_8 : decode cX1_latestCells 8 = .ok (.getfield 25, 3) := by decide +kernel
theorem dX1_latestCells_11 : decode cX1_latestCells 11 = .ok (.aload_n 0, 1) := by decide +kernel
theorem dX1_latestCells_12 : decode cX1_latestCells 12 = .ok (.getfield 11, 3) := by decide +kernel
theorem dX1_latestCells_15 : decode cX1_latestCells 15 = .ok (.arraylength, 1) := by decide +kernel
theorem dX1_latestCells_16 : decode cX1_latestCells 16 = .ok (.if_icmp .gt 17, 3) := by decide +kernel
theorem dX1_latestCells_19 : decode cX1_latestCells 19 = .ok (.aload_n 0, 1) := by decide +kernel
theorem dX1_latestCells_20 : decode cX1_latestCells 20 = .ok (.getfield 11, 3) := by decide +kernel
theorem dX1_latestCells_23 : decode cX1_latestCells 23 = .ok (.aload_n 0, 1) := by decide +kernel
theorem dX1_latestCells_24 : decode cX1_latestCells 24 = .ok (.getfield 25, 3) := by decide +kernel
theorem dX1_latestCells_27 : decode cX1_latestCells 27 = .ok (.iconst 1, 1) := by decide +kernel
theorem dX1_latestCells_28 : decode cX1_latestCells 28 = .ok (.isub, 1) := by decide +kernel
theorem dX1_latestCells_29 : decode cX1_latestCells 29 = .ok (.laload, 1) := by decide +kernel
theorem dX1_latestCells_30 : decode cX1_latestCells 30 = .ok (.goto 4, 3) := by decide +kernel
theorem dX1_latestCells_33 : decode cX1_latestCells 33 = .ok (.lconst 0, 1) := by decide +kernel
theorem dX1_latestCells_34 : decode cX1_latestCells 34 = .ok (.lreturn, 1) := by decide +kernel
theorem dX1_latestSeed_0 : decode cX1_latestSeed 0 = .ok (.aload_n 0, 1) := by decide +kernel
theorem dX1_latestSeed_1 : decode cX1_latestSeed 1 = .ok (.getfield 25, 3) := by decide +kernel
theorem dX1_latestSeed_4 : decode cX1_latestSeed 4 = .ok (.ifCond .le 29, 3) := by decide +kernel
theorem dX1_latestSeed_7 : decode cX1_latestSeed 7 = .ok (.aload_n 0, 1) := by decide +kernel
theorem dX1_latestSeed_8 : decode cX1_latestSeed 8 = .ok (.getfield 25, 3) := by decide +kernel
theorem dX1_latestSeed_11 : decode cX1_latestSeed 11 = .ok (.aload_n 0, 1) := by decide +kernel
theorem dX1_latestSeed_12 : decode cX1_latestSeed 12 = .ok (.getfield 15, 3) := by decide +kernel
theorem dX1_latestSeed_15 : decode cX1_latestSeed 15 = .ok (.arraylength, 1) := by decide +kernel
theorem dX1_latestSeed_16 : decode cX1_latestSeed 16 = .ok (.if_icmp .gt 17, 3) := by decide +kernel
theorem dX1_latestSeed_19 : decode cX1_latestSeed 19 = .ok (.aload_n 0, 1) := by decide +kernel
theorem dX1_latestSeed_20 : decode cX1_latestSeed 20 = .ok (.getfield 15, 3) := by decide +kernel
theorem dX1_latestSeed_23 : decode cX1_latestSeed 23 = .ok (.aload_n 0, 1) := by decide +kernel
theorem dX1_latestSeed_24 : decode cX1_latestSeed 24 = .ok (.getfield 25, 3) := by decide +kernel
theorem dX1_latestSeed_27 : decode cX1_latestSeed 27 = .ok (.iconst 1, 1) := by decide +kernel
theorem dX1_latestSeed_28 : decode cX1_latestSeed 28 = .ok (.isub, 1) := by decide +kernel
theorem dX1_latestSeed_29 : decode cX1_latestSeed 29 = .ok (.iaload, 1) := by decide +kernel
theorem dX1_latestSeed_30 : decode cX1_latestSeed 30 = .ok (.goto 4, 3) := by decide +kernel
theorem dX1_latestSeed_33 : decode cX1_latestSeed 33 = .ok (.iconst 0, 1) := by decide +kernel
theorem dX1_latestSeed_34 : decode cX1_latestSeed 34 = .ok (.ireturn, 1) := by decide +kernel
theorem dX1_dropLatest_0 : decode cX1_dropLatest 0 = .ok (.aload_n 0, 1) := by decide +kernel
theorem dX1_dropLatest_1 : decode cX1_dropLatest 1 = .ok (.getfield 25, 3) := by decide +kernel
theorem dX1_dropLatest_4 : decode cX1_dropLatest 4 = .ok (.ifCond .le 13, 3) := by decide +kernel
theorem dX1_dropLatest_7 : decode cX1_dropLatest 7 = .ok (.aload_n 0, 1) := by decide +kernel
theorem dX1_dropLatest_8 : decode cX1_dropLatest 8 = .ok (.dup, 1) := by decide +kernel
theorem dX1_dropLatest_9 : decode cX1_dropLatest 9 = .ok (.getfield 25, 3) := by decide +kernel
theorem dX1_dropLatest_12 : decode cX1_dropLatest 12 = .ok (.iconst 1, 1) := by decide +kernel
theorem dX1_dropLatest_13 : decode cX1_dropLatest 13 = .ok (.isub, 1) := by decide +kernel
theorem dX1_dropLatest_14 : decode cX1_dropLatest 14 = .ok (.putfield 25, 3) := by decide +kernel
theorem dX1_dropLatest_17 : decode cX1_dropLatest 17 = .ok (.return_, 1) := by decide +kernel
theorem dX1_addMark_0 : decode cX1_addMark 0 = .ok (.aload_n 0, 1) := by decide +kernel
theorem dX1_addMark_1 : decode cX1_addMark 1 = .ok (.getfield 29, 3) := by decide +kernel
theorem dX1_addMark_4 : decode cX1_addMark 4 = .ok (.ifCond .lt 27, 3) := by decide +kernel
theorem dX1_addMark_7 : decode cX1_addMark 7 = .ok (.aload_n 0, 1) := by decide +kernel
theorem dX1_addMark_8 : decode cX1_addMark 8 = .ok (.getfield 29, 3) := by decide +kernel
theorem dX1_addMark_11 : decode cX1_addMark 11 = .ok (.aload_n 0, 1) := by decide +kernel
theorem dX1_addMark_12 : decode cX1_addMark 12 = .ok (.getfield 19, 3) := by decide +kernel
theorem dX1_addMark_15 : decode cX1_addMark 15 = .ok (.arraylength, 1) := by decide +kernel
theorem dX1_addMark_16 : decode cX1_addMark 16 = .ok (.if_icmp .ge 15, 3) := by decide +kernel
theorem dX1_addMark_19 : decode cX1_addMark 19 = .ok (.aload_n 0, 1) := by decide +kernel
theorem dX1_addMark_20 : decode cX1_addMark 20 = .ok (.getfield 29, 3) := by decide +kernel
theorem dX1_addMark_23 : decode cX1_addMark 23 = .ok (.aload_n 0, 1) := by decide +kernel
theorem dX1_addMark_24 : decode cX1_addMark 24 = .ok (.getfield 22, 3) := by decide +kernel
theorem dX1_addMark_27 : decode cX1_addMark 27 = .ok (.arraylength, 1) := by decide +kernel
theorem dX1_addMark_28 : decode cX1_addMark 28 = .ok (.if_icmp .lt 5, 3) := by decide +kernel
theorem dX1_addMark_31 : decode cX1_addMark 31 = .ok (.iconst (-1), 1) := by decide +kernel
theorem dX1_addMark_32 : decode cX1_addMark 32 = .ok (.ireturn, 1) := by decide +kernel
theorem dX1_addMark_33 : decode cX1_addMark 33 = .ok (.aload_n 0, 1) := by decide +kernel
theorem dX1_addMark_34 : decode cX1_addMark 34 = .ok (.getfield 19, 3) := by decide +kernel
theorem dX1_addMark_37 : decode cX1_addMark 37 = .ok (.aload_n 0, 1) := by decide +kernel
theorem dX1_addMark_38 : decode cX1_addMark 38 = .ok (.getfield 29, 3) := by decide +kernel
theorem dX1_addMark_41 : decode cX1_addMark 41 = .ok (.lload_n 1, 1) := by decide +kernel
theorem dX1_addMark_42 : decode cX1_addMark 42 = .ok (.lastore, 1) := by decide +kernel
theorem dX1_addMark_43 : decode cX1_addMark 43 = .ok (.aload_n 0, 1) := by decide +kernel
theorem dX1_addMark_44 : decode cX1_addMark 44 = .ok (.getfield 22, 3) := by decide +kernel
theorem dX1_addMark_47 : decode cX1_addMark 47 = .ok (.aload_n 0, 1) := by decide +kernel
theorem dX1_addMark_48 : decode cX1_addMark 48 = .ok (.getfield 29, 3) := by decide +kernel
theorem dX1_addMark_51 : decode cX1_addMark 51 = .ok (.iload_n 3, 1) := by decide +kernel
theorem dX1_addMark_52 : decode cX1_addMark 52 = .ok (.iastore, 1) := by decide +kernel
theorem dX1_addMark_53 : decode cX1_addMark 53 = .ok (.aload_n 0, 1) := by decide +kernel
theorem dX1_addMark_54 : decode cX1_addMark 54 = .ok (.dup, 1) := by decide +kernel
theorem dX1_addMark_55 : decode cX1_addMark 55 = .ok (.getfield 29, 3) := by decide +kernel
theorem dX1_addMark_58 : decode cX1_addMark 58 = .ok (.iconst 1, 1) := by decide +kernel
theorem dX1_addMark_59 : decode cX1_addMark 59 = .ok (.iadd, 1) := by decide +kernel
theorem dX1_addMark_60 : decode cX1_addMark 60 = .ok (.putfield 29, 3) := by decide +kernel
theorem dX1_addMark_63 : decode cX1_addMark 63 = .ok (.aload_n 0, 1) := by decide +kernel
theorem dX1_addMark_64 : decode cX1_addMark 64 = .ok (.getfield 29, 3) := by decide +kernel
theorem dX1_addMark_67 : decode cX1_addMark 67 = .ok (.iconst 1, 1) := by decide +kernel
theorem dX1_addMark_68 : decode cX1_addMark 68 = .ok (.isub, 1) := by decide +kernel
theorem dX1_addMark_69 : decode cX1_addMark 69 = .ok (.ireturn, 1) := by decide +kernel
theorem dX1_hasMark_0 : decode cX1_hasMark 0 = .ok (.iload_n 1, 1) := by decide +kernel
theorem dX1_hasMark_1 : decode cX1_hasMark 1 = .ok (.ifCond .lt 15, 3) := by decide +kernel
theorem dX1_hasMark_4 : decode cX1_hasMark 4 = .ok (.iload_n 1, 1) := by decide +kernel
theorem dX1_hasMark_5 : decode cX1_hasMark 5 = .ok (.aload_n 0, 1) := by decide +kernel
theorem dX1_hasMark_6 : decode cX1_hasMark 6 = .ok (.getfield 29, 3) := by decide +kernel
theorem dX1_hasMark_9 : decode cX1_hasMark 9 = .ok (.if_icmp .ge 7, 3) := by decide +kernel
theorem dX1_hasMark_12 : decode cX1_hasMark 12 = .ok (.iconst 1, 1) := by decide +kernel
theorem dX1_hasMark_13 : decode cX1_hasMark 13 = .ok (.goto 4, 3) := by decide +kernel
theorem dX1_hasMark_16 : decode cX1_hasMark 16 = .ok (.iconst 0, 1) := by decide +kernel
theorem dX1_hasMark_17 : decode cX1_hasMark 17 = .ok (.ireturn, 1) := by decide +kernel
theorem dX1_markedCells_0 : decode cX1_markedCells 0 = .ok (.iload_n 1, 1) := by decide +kernel
theorem dX1_markedCells_1 : decode cX1_markedCells 1 = .ok (.ifCond .lt 21, 3) := by decide +kernel
theorem dX1_markedCells_4 : decode cX1_markedCells 4 = .ok (.iload_n 1, 1) := by decide +kernel
theorem dX1_markedCells_5 : decode cX1_markedCells 5 = .ok (.aload_n 0, 1) := by decide +kernel
theorem dX1_markedCells_6 : decode cX1_markedCells 6 = .ok (.getfield 19, 3) := by decide +kernel
theorem dX1_markedCells_9 : decode cX1_markedCells 9 = .ok (.arraylength, 1) := by decide +kernel
theorem dX1_markedCells_10 : decode cX1_markedCells 10 = .ok (.if_icmp .ge 12, 3) := by decide +kernel
theorem dX1_markedCells_13 : decode cX1_markedCells 13 = .ok (.aload_n 0, 1) := by decide +kernel
theorem dX1_markedCells_14 : decode cX1_markedCells 14 = .ok (.getfield 19, 3) := by decide +kernel
theorem dX1_markedCells_17 : decode cX1_markedCells 17 = .ok (.iload_n 1, 1) := by decide +kernel
theorem dX1_markedCells_18 : decode cX1_markedCells 18 = .ok (.laload, 1) := by decide +kernel
theorem dX1_markedCells_19 : decode cX1_markedCells 19 = .ok (.goto 4, 3) := by decide +kernel
theorem dX1_markedCells_22 : decode cX1_markedCells 22 = .ok (.lconst 0, 1) := by decide +kernel
theorem dX1_markedCells_23 : decode cX1_markedCells 23 = .ok (.lreturn, 1) := by decide +kernel
theorem dX1_markedSeed_0 : decode cX1_markedSeed 0 = .ok (.iload_n 1, 1) := by decide +kernel
theorem dX1_markedSeed_1 : decode cX1_markedSeed 1 = .ok (.ifCond .lt 21, 3) := by decide +kernel
theorem dX1_markedSeed_4 : decode cX1_markedSeed 4 = .ok (.iload_n 1, 1) := by decide +kernel
theorem dX1_markedSeed_5 : decode cX1_markedSeed 5 = .ok (.aload_n 0, 1) := by decide +kernel
theorem dX1_markedSeed_6 : decode cX1_markedSeed 6 = .ok (.getfield 22, 3) := by decide +kernel
theorem dX1_markedSeed_9 : decode cX1_markedSeed 9 = .ok (.arraylength, 1) := by decide +kernel
theorem dX1_markedSeed_10 : decode cX1_markedSeed 10 = .ok (.if_icmp .ge 12, 3) := by decide +kernel
theorem dX1_markedSeed_13 : decode cX1_markedSeed 13 = .ok (.aload_n 0, 1) := by decide +kernel
theorem dX1_markedSeed_14 : decode cX1_markedSeed 14 = .ok (.getfield 22, 3) := by decide +kernel
theorem dX1_markedSeed_17 : decode cX1_markedSeed 17 = .ok (.iload_n 1, 1) := by decide +kernel
theorem dX1_markedSeed_18 : decode cX1_markedSeed 18 = .ok (.iaload, 1) := by decide +kernel
theorem dX1_markedSeed_19 : decode cX1_markedSeed 19 = .ok (.goto 4, 3) := by decide +kernel
theorem dX1_markedSeed_22 : decode cX1_markedSeed 22 = .ok (.iconst 0, 1) := by decide +kernel
theorem dX1_markedSeed_23 : decode cX1_markedSeed 23 = .ok (.ireturn, 1) := by decide +kernel
theorem dX2_init_0 : decode cX2_init 0 = .ok (.aload_n 0, 1) := by decide +kernel
theorem dX2_init_1 : decode cX2_init 1 = .ok (.invokespecial 1, 3) := by decide +kernel
theorem dX2_init_4 : decode cX2_init 4 = .ok (.return_, 1) := by decide +kernel
theorem dX2_empty_0 : decode cX2_empty 0 = .ok (.aload_n 0, 1) := by decide +kernel
theorem dX2_empty_1 : decode cX2_empty 1 = .ok (.lconst 0, 1) := by decide +kernel
theorem dX2_empty_2 : decode cX2_empty 2 = .ok (.putfield 7, 3) := by decide +kernel
theorem dX2_empty_5 : decode cX2_empty 5 = .ok (.aload_n 0, 1) := by decide +kernel
theorem dX2_empty_6 : decode cX2_empty 6 = .ok (.lconst 0, 1) := by decide +kernel
theorem dX2_empty_7 : decode cX2_empty 7 = .ok (.putfield 13, 3) := by decide +kernel
theorem dX2_empty_10 : decode cX2_empty 10 = .ok (.aload_n 0, 1) := by decide +kernel
theorem dX2_empty_11 : decode cX2_empty 11 = .ok (.iconst 0, 1) := by decide +kernel
theorem dX2_empty_12 : decode cX2_empty 12 = .ok (.putfield 16, 3) := by decide +kernel
theorem dX2_empty_15 : decode cX2_empty 15 = .ok (.return_, 1) := by decide +kernel
theorem dX2_tell_0 : decode cX2_tell 0 = .ok (.iload_n 2, 1) := by decide +kernel
theorem dX2_tell_1 : decode cX2_tell 1 = .ok (.bipush 109, 2) := by decide +kernel
theorem dX2_tell_3 : decode cX2_tell 3 = .ok (.if_icmp .ne 19, 3) := by decide +kernel
theorem dX2_tell_6 : decode cX2_tell 6 = .ok (.aload_n 0, 1) := by decide +kernel
theorem dX2_tell_7 : decode cX2_tell 7 = .ok (.dup, 1) := by decide +kernel
theorem dX2_tell_8 : decode cX2_tell 8 = .ok (.getfield 7, 3) := by decide +kernel
theorem dX2_tell_11 : decode cX2_tell 11 = .ok (.iload_n 1, 1) := by decide +kernel
theorem dX2_tell_12 : decode cX2_tell 12 = .ok (.invokestatic 20, 3) := by decide +kernel
theorem dX2_tell_15 : decode cX2_tell 15 = .ok (.lor, 1) := by decide +kernel
theorem dX2_tell_16 : decode cX2_tell 16 = .ok (.putfield 7, 3) := by decide +kernel
theorem dX2_tell_19 : decode cX2_tell 19 = .ok (.goto 22, 3) := by decide +kernel
theorem dX2_tell_22 : decode cX2_tell 22 = .ok (.iload_n 2, 1) := by decide +kernel
theorem dX2_tell_23 : decode cX2_tell 23 = .ok (.bipush 115, 2) := by decide +kernel
theorem dX2_tell_25 : decode cX2_tell 25 = .ok (.if_icmp .ne 16, 3) := by decide +kernel
theorem dX2_tell_28 : decode cX2_tell 28 = .ok (.aload_n 0, 1) := by decide +kernel
theorem dX2_tell_29 : decode cX2_tell 29 = .ok (.dup, 1) := by decide +kernel
theorem dX2_tell_30 : decode cX2_tell 30 = .ok (.getfield 13, 3) := by decide +kernel
theorem dX2_tell_33 : decode cX2_tell 33 = .ok (.iload_n 1, 1) := by decide +kernel
theorem dX2_tell_34 : decode cX2_tell 34 = .ok (.invokestatic 20, 3) := by decide +kernel
theorem dX2_tell_37 : decode cX2_tell 37 = .ok (.lor, 1) := by decide +kernel
theorem dX2_tell_38 : decode cX2_tell 38 = .ok (.putfield 13, 3) := by decide +kernel
theorem dX2_tell_41 : decode cX2_tell 41 = .ok (.return_, 1) := by decide +kernel
theorem dX2_cellsUnlike_0 : decode cX2_cellsUnlike 0 = .ok (.aload_n 0, 1) := by decide +kernel
theorem dX2_cellsUnlike_1 : decode cX2_cellsUnlike 1 = .ok (.getfield 7, 3) := by decide +kernel
theorem dX2_cellsUnlike_4 : decode cX2_cellsUnlike 4 = .ok (.lload_n 1, 1) := by decide +kernel
theorem dX2_cellsUnlike_5 : decode cX2_cellsUnlike 5 = .ok (.ldc2_w 26, 3) := by decide +kernel
theorem dX2_cellsUnlike_8 : decode cX2_cellsUnlike 8 = .ok (.lxor, 1) := by decide +kernel
theorem dX2_cellsUnlike_9 : decode cX2_cellsUnlike 9 = .ok (.land, 1) := by decide +kernel
theorem dX2_cellsUnlike_10 : decode cX2_cellsUnlike 10 = .ok (.aload_n 0, 1) := by decide +kernel
theorem dX2_cellsUnlike_11 : decode cX2_cellsUnlike 11 = .ok (.getfield 13, 3) := by decide +kernel
theorem dX2_cellsUnlike_14 : decode cX2_cellsUnlike 14 = .ok (.lload_n 1, 1) := by decide +kernel
theorem dX2_cellsUnlike_15 : decode cX2_cellsUnlike 15 = .ok (.land, 1) := by decide +kernel
theorem dX2_cellsUnlike_16 : decode cX2_cellsUnlike 16 = .ok (.lor, 1) := by decide +kernel
theorem dX2_cellsUnlike_17 : decode cX2_cellsUnlike 17 = .ok (.lreturn, 1) := by decide +kernel
theorem dX3_init_0 : decode cX3_init 0 = .ok (.aload_n 0, 1) := by decide +kernel
theorem dX3_init_1 : decode cX3_init 1 = .ok (.invokespecial 3, 3) := by decide +kernel
theorem dX3_init_4 : decode cX3_init 4 = .ok (.aload_n 0, 1) := by decide +kernel
theorem dX3_init_5 : decode cX3_init 5 = .ok (.new 9, 3) := by decide +kernel
theorem dX3_init_8 : decode cX3_init 8 = .ok (.dup, 1) := by decide +kernel
theorem dX3_init_9 : decode cX3_init 9 = .ok (.invokespecial 11, 3) := by decide +kernel
theorem dX3_init_12 : decode cX3_init 12 = .ok (.putfield 12, 3) := by decide +kernel
theorem dX3_init_15 : decode cX3_init 15 = .ok (.aload_n 0, 1) := by decide +kernel
theorem dX3_init_16 : decode cX3_init 16 = .ok (.new 18, 3) := by decide +kernel
theorem dX3_init_19 : decode cX3_init 19 = .ok (.dup, 1) := by decide +kernel
theorem dX3_init_20 : decode cX3_init 20 = .ok (.invokespecial 20, 3) := by decide +kernel
theorem dX3_init_23 : decode cX3_init 23 = .ok (.putfield 21, 3) := by decide +kernel
theorem dX3_init_26 : decode cX3_init 26 = .ok (.aload_n 0, 1) := by decide +kernel
theorem dX3_init_27 : decode cX3_init 27 = .ok (.new 18, 3) := by decide +kernel
theorem dX3_init_30 : decode cX3_init 30 = .ok (.dup, 1) := by decide +kernel
theorem dX3_init_31 : decode cX3_init 31 = .ok (.invokespecial 20, 3) := by decide +kernel
theorem dX3_init_34 : decode cX3_init 34 = .ok (.putfield 25, 3) := by decide +kernel
theorem dX3_init_37 : decode cX3_init 37 = .ok (.aload_n 0, 1) := by decide +kernel
theorem dX3_init_38 : decode cX3_init 38 = .ok (.new 18, 3) := by decide +kernel
theorem dX3_init_41 : decode cX3_init 41 = .ok (.dup, 1) := by decide +kernel
theorem dX3_init_42 : decode cX3_init 42 = .ok (.invokespecial 20, 3) := by decide +kernel
theorem dX3_init_45 : decode cX3_init 45 = .ok (.putfield 28, 3) := by decide +kernel
theorem dX3_init_48 : decode cX3_init 48 = .ok (.aload_n 0, 1) := by decide +kernel
theorem dX3_init_49 : decode cX3_init 49 = .ok (.iconst 4, 1) := by decide +kernel
theorem dX3_init_50 : decode cX3_init 50 = .ok (.newarray .int, 2) := by decide +kernel
theorem dX3_init_52 : decode cX3_init 52 = .ok (.putfield 31, 3) := by decide +kernel
theorem dX3_init_55 : decode cX3_init 55 = .ok (.aload_n 0, 1) := by decide +kernel
theorem dX3_init_56 : decode cX3_init 56 = .ok (.iconst 5, 1) := by decide +kernel
theorem dX3_init_57 : decode cX3_init 57 = .ok (.newarray .int, 2) := by decide +kernel
theorem dX3_init_59 : decode cX3_init 59 = .ok (.putfield 35, 3) := by decide +kernel
theorem dX3_init_62 : decode cX3_init 62 = .ok (.aload_n 0, 1) := by decide +kernel
theorem dX3_init_63 : decode cX3_init 63 = .ok (.iconst 5, 1) := by decide +kernel
theorem dX3_init_64 : decode cX3_init 64 = .ok (.newarray .int, 2) := by decide +kernel
theorem dX3_init_66 : decode cX3_init 66 = .ok (.putfield 38, 3) := by decide +kernel
theorem dX3_init_69 : decode cX3_init 69 = .ok (.aload_n 0, 1) := by decide +kernel
theorem dX3_init_70 : decode cX3_init 70 = .ok (.iconst 5, 1) := by decide +kernel
theorem dX3_init_71 : decode cX3_init 71 = .ok (.anewarray 41, 3) := by decide +kernel
theorem dX3_init_74 : decode cX3_init 74 = .ok (.putfield 43, 3) := by decide +kernel
theorem dX3_init_77 : decode cX3_init 77 = .ok (.iconst 0, 1) := by decide +kernel
theorem dX3_init_78 : decode cX3_init 78 = .ok (.istore_n 1, 1) := by decide +kernel
theorem dX3_init_79 : decode cX3_init 79 = .ok (.iload_n 1, 1) := by decide +kernel
theorem dX3_init_80 : decode cX3_init 80 = .ok (.aload_n 0, 1) := by decide +kernel
theorem dX3_init_81 : decode cX3_init 81 = .ok (.getfield 43, 3) := by decide +kernel
theorem dX3_init_84 : decode cX3_init 84 = .ok (.arraylength, 1) := by decide +kernel
theorem dX3_init_85 : decode cX3_init 85 = .ok (.if_icmp .ge 22, 3) := by decide +kernel
theorem dX3_init_88 : decode cX3_init 88 = .ok (.aload_n 0, 1) := by decide +kernel
theorem dX3_init_89 : decode cX3_init 89 = .ok (.getfield 43, 3) := by decide +kernel
theorem dX3_init_92 : decode cX3_init 92 = .ok (.iload_n 1, 1) := by decide +kernel
theorem dX3_init_93 : decode cX3_init 93 = .ok (.new 41, 3) := by decide +kernel
theorem dX3_init_96 : decode cX3_init 96 = .ok (.dup, 1) := by decide +kernel
theorem dX3_init_97 : decode cX3_init 97 = .ok (.invokespecial 47, 3) := by decide +kernel
theorem dX3_init_100 : decode cX3_init 100 = .ok (.aastore, 1) := by decide +kernel
theorem dX3_init_101 : decode cX3_init 101 = .ok (.iinc 1 1, 3) := by decide +kernel
theorem dX3_init_104 : decode cX3_init 104 = .ok (.goto (-25), 3) := by decide +kernel
theorem dX3_init_107 : decode cX3_init 107 = .ok (.aload_n 0, 1) := by decide +kernel
theorem dX3_init_108 : decode cX3_init 108 = .ok (.bipush (-2), 2) := by decide +kernel
theorem dX3_init_110 : decode cX3_init 110 = .ok (.putfield 48, 3) := by decide +kernel
theorem dX3_init_113 : decode cX3_init 113 = .ok (.return_, 1) := by decide +kernel
theorem dX3_empty_0 : decode cX3_empty 0 = .ok (.aload_n 0, 1) := by decide +kernel
theorem dX3_empty_1 : decode cX3_empty 1 = .ok (.getfield 12, 3) := by decide +kernel
theorem dX3_empty_4 : decode cX3_empty 4 = .ok (.iconst 0, 1) := by decide +kernel
theorem dX3_empty_5 : decode cX3_empty 5 = .ok (.iconst 0, 1) := by decide +kernel
theorem dX3_empty_6 : decode cX3_empty 6 = .ok (.invokevirtual 52, 3) := by decide +kernel
theorem dX3_empty_9 : decode cX3_empty 9 = .ok (.aload_n 0, 1) := by decide +kernel
theorem dX3_empty_10 : decode cX3_empty 10 = .ok (.getfield 21, 3) := by decide +kernel
theorem dX3_empty_13 : decode cX3_empty 13 = .ok (.invokevirtual 56, 3) := by decide +kernel
theorem dX3_empty_16 : decode cX3_empty 16 = .ok (.aload_n 0, 1) := by decide +kernel
theorem dX3_empty_17 : decode cX3_empty 17 = .ok (.getfield 25, 3) := by decide +kernel
theorem dX3_empty_20 : decode cX3_empty 20 = .ok (.invokevirtual 56, 3) := by decide +kernel
theorem dX3_empty_23 : decode cX3_empty 23 = .ok (.aload_n 0, 1) := by decide +kernel
theorem dX3_empty_24 : decode cX3_empty 24 = .ok (.getfield 28, 3) := by decide +kernel
theorem dX3_empty_27 : decode cX3_empty 27 = .ok (.invokevirtual 56, 3) := by decide +kernel
theorem dX3_empty_30 : decode cX3_empty 30 = .ok (.aload_n 0, 1) := by decide +kernel
theorem dX3_empty_31 : decode cX3_empty 31 = .ok (.iconst 0, 1) := by decide +kernel
theorem dX3_empty_32 : decode cX3_empty 32 = .ok (.putfield 59, 3) := by decide +kernel
theorem dX3_empty_35 : decode cX3_empty 35 = .ok (.aload_n 0, 1) := by decide +kernel
theorem dX3_empty_36 : decode cX3_empty 36 = .ok (.lconst 0, 1) := by decide +kernel
theorem dX3_empty_37 : decode cX3_empty 37 = .ok (.putfield 62, 3) := by decide +kernel
theorem dX3_empty_40 : decode cX3_empty 40 = .ok (.aload_n 0, 1) := by decide +kernel
theorem dX3_empty_41 : decode cX3_empty 41 = .ok (.bipush (-2), 2) := by decide +kernel
theorem dX3_empty_43 : decode cX3_empty 43 = .ok (.putfield 48, 3) := by decide +kernel
theorem dX3_empty_46 : decode cX3_empty 46 = .ok (.aload_n 0, 1) := by decide +kernel
theorem dX3_empty_47 : decode cX3_empty 47 = .ok (.iconst 0, 1) := by decide +kernel
theorem dX3_empty_48 : decode cX3_empty 48 = .ok (.putfield 66, 3) := by decide +kernel
theorem dX3_empty_51 : decode cX3_empty 51 = .ok (.aload_n 0, 1) := by decide +kernel
theorem dX3_empty_52 : decode cX3_empty 52 = .ok (.iconst 0, 1) := by decide +kernel
theorem dX3_empty_53 : decode cX3_empty 53 = .ok (.putfield 69, 3) := by decide +kernel
theorem dX3_empty_56 : decode cX3_empty 56 = .ok (.return_, 1) := by decide +kernel
theorem dX3_lay_0 : decode cX3_lay 0 = .ok (.aload_n 0, 1) := by decide +kernel
theorem dX3_lay_1 : decode cX3_lay 1 = .ok (.getfield 12, 3) := by decide +kernel
theorem dX3_lay_4 : decode cX3_lay 4 = .ok (.iload_n 1, 1) := by decide +kernel
theorem dX3_lay_5 : decode cX3_lay 5 = .ok (.iload_n 2, 1) := by decide +kernel
theorem dX3_lay_6 : decode cX3_lay 6 = .ok (.invokevirtual 52, 3) := by decide +kernel
theorem dX3_lay_9 : decode cX3_lay 9 = .ok (.aload_n 0, 1) := by decide +kernel
theorem dX3_lay_10 : decode cX3_lay 10 = .ok (.iload_n 3, 1) := by decide +kernel
theorem dX3_lay_11 : decode cX3_lay 11 = .ok (.putfield 72, 3) := by decide +kernel
theorem dX3_lay_14 : decode cX3_lay 14 = .ok (.aload_n 0, 1) := by decide +kernel
theorem dX3_lay_15 : decode cX3_lay 15 = .ok (.iload 4, 2) := by decide +kernel
theorem dX3_lay_17 : decode cX3_lay 17 = .ok (.putfield 75, 3) := by decide +kernel
theorem dX3_lay_20 : decode cX3_lay 20 = .ok (.aload_n 0, 1) := by decide +kernel
theorem dX3_lay_21 : decode cX3_lay 21 = .ok (.iload 5, 2) := by decide +kernel
theorem dX3_lay_23 : decode cX3_lay 23 = .ok (.putfield 78, 3) := by decide +kernel
theorem dX3_lay_26 : decode cX3_lay 26 = .ok (.return_, 1) := by decide +kernel
theorem dX3_isLaid_0 : decode cX3_isLaid 0 = .ok (.aload_n 0, 1) := by decide +kernel
theorem dX3_isLaid_1 : decode cX3_isLaid 1 = .ok (.getfield 12, 3) := by decide +kernel
theorem dX3_isLaid_4 : decode cX3_isLaid 4 = .ok (.getfield 81, 3) := by decide +kernel
theorem dX3_isLaid_7 : decode cX3_isLaid 7 = .ok (.ifCond .le 7, 3) := by decide +kernel
theorem dX3_isLaid_10 : decode cX3_isLaid 10 = .ok (.iconst 1, 1) := by decide +kernel
theorem dX3_isLaid_11 : decode cX3_isLaid 11 = .ok (.goto 4, 3) := by decide +kernel
theorem dX3_isLaid_14 : decode cX3_isLaid 14 = .ok (.iconst 0, 1) := by decide +kernel
theorem dX3_isLaid_15 : decode cX3_isLaid 15 = .ok (.ireturn, 1) := by decide +kernel
theorem dX3_lacksRows_0 : decode cX3_lacksRows 0 = .ok (.aload_n 0, 1) := by decide +kernel
theorem dX3_lacksRows_1 : decode cX3_lacksRows 1 = .ok (.getfield 21, 3) := by decide +kernel
theorem dX3_lacksRows_4 : decode cX3_lacksRows 4 = .ok (.getfield 84, 3) := by decide +kernel
theorem dX3_lacksRows_7 : decode cX3_lacksRows 7 = .ok (.aload_n 0, 1) := by decide +kernel
theorem dX3_lacksRows_8 : decode cX3_lacksRows 8 = .ok (.getfield 12, 3) := by decide +kernel
theorem dX3_lacksRows_11 : decode cX3_lacksRows 11 = .ok (.getfield 87, 3) := by decide +kernel
theorem dX3_lacksRows_14 : decode cX3_lacksRows 14 = .ok (.if_icmp .ge 7, 3) := by decide +kernel
theorem dX3_lacksRows_17 : decode cX3_lacksRows 17 = .ok (.iconst 1, 1) := by decide +kernel
theorem dX3_lacksRows_18 : decode cX3_lacksRows 18 = .ok (.goto 4, 3) := by decide +kernel
theorem dX3_lacksRows_21 : decode cX3_lacksRows 21 = .ok (.iconst 0, 1) := by decide +kernel
theorem dX3_lacksRows_22 : decode cX3_lacksRows 22 = .ok (.ireturn, 1) := by decide +kernel
theorem dX3_hasNoise_0 : decode cX3_hasNoise 0 = .ok (.aload_n 0, 1) := by decide +kernel
theorem dX3_hasNoise_1 : decode cX3_hasNoise 1 = .ok (.getfield 48, 3) := by decide +kernel
theorem dX3_hasNoise_4 : decode cX3_hasNoise 4 = .ok (.bipush (-2), 2) := by decide +kernel
theorem dX3_hasNoise_6 : decode cX3_hasNoise 6 = .ok (.if_icmp .eq 7, 3) := by decide +kernel
theorem dX3_hasNoise_9 : decode cX3_hasNoise 9 = .ok (.iconst 1, 1) := by decide +kernel
theorem dX3_hasNoise_10 : decode cX3_hasNoise 10 = .ok (.goto 4, 3) := by decide +kernel
theorem dX3_hasNoise_13 : decode cX3_hasNoise 13 = .ok (.iconst 0, 1) := by decide +kernel
theorem dX3_hasNoise_14 : decode cX3_hasNoise 14 = .ok (.ireturn, 1) := by decide +kernel
theorem dX3_hasRoomFor_0 : decode cX3_hasRoomFor 0 = .ok (.iload_n 1, 1) := by decide +kernel
theorem dX3_hasRoomFor_1 : decode cX3_hasRoomFor 1 = .ok (.tableswitch 166 1 7 #[43, 66, 89, 112, 166, 130, 148], 43) := by decide +kernel
theorem dX3_hasRoomFor_44 : decode cX3_hasRoomFor 44 = .ok (.aload_n 0, 1) := by decide +kernel
theorem dX3_hasRoomFor_45 : decode cX3_hasRoomFor 45 = .ok (.getfield 21, 3) := by decide +kernel
theorem dX3_hasRoomFor_48 : decode cX3_hasRoomFor 48 = .ok (.getfield 84, 3) := by decide +kernel
theorem dX3_hasRoomFor_51 : decode cX3_hasRoomFor 51 = .ok (.aload_n 0, 1) := by decide +kernel
theorem dX3_hasRoomFor_52 : decode cX3_hasRoomFor 52 = .ok (.getfield 12, 3) := by decide +kernel
theorem dX3_hasRoomFor_55 : decode cX3_hasRoomFor 55 = .ok (.getfield 87, 3) := by decide +kernel
theorem dX3_hasRoomFor_58 : decode cX3_hasRoomFor 58 = .ok (.if_icmp .ge 7, 3) := by decide +kernel
theorem dX3_hasRoomFor_61 : decode cX3_hasRoomFor 61 = .ok (.iconst 1, 1) := by decide +kernel
theorem dX3_hasRoomFor_62 : decode cX3_hasRoomFor 62 = .ok (.goto 4, 3) := by decide +kernel
theorem dX3_hasRoomFor_65 : decode cX3_hasRoomFor 65 = .ok (.iconst 0, 1) := by decide +kernel
theorem dX3_hasRoomFor_66 : decode cX3_hasRoomFor 66 = .ok (.ireturn, 1) := by decide +kernel
theorem dX3_hasRoomFor_67 : decode cX3_hasRoomFor 67 = .ok (.aload_n 0, 1) := by decide +kernel
theorem dX3_hasRoomFor_68 : decode cX3_hasRoomFor 68 = .ok (.getfield 25, 3) := by decide +kernel
theorem dX3_hasRoomFor_71 : decode cX3_hasRoomFor 71 = .ok (.getfield 84, 3) := by decide +kernel
theorem dX3_hasRoomFor_74 : decode cX3_hasRoomFor 74 = .ok (.aload_n 0, 1) := by decide +kernel
theorem dX3_hasRoomFor_75 : decode cX3_hasRoomFor 75 = .ok (.getfield 12, 3) := by decide +kernel
theorem dX3_hasRoomFor_78 : decode cX3_hasRoomFor 78 = .ok (.getfield 87, 3) := by decide +kernel
theorem dX3_hasRoomFor_81 : decode cX3_hasRoomFor 81 = .ok (.if_icmp .ge 7, 3) := by decide +kernel
theorem dX3_hasRoomFor_84 : decode cX3_hasRoomFor 84 = .ok (.iconst 1, 1) := by decide +kernel
theorem dX3_hasRoomFor_85 : decode cX3_hasRoomFor 85 = .ok (.goto 4, 3) := by decide +kernel
theorem dX3_hasRoomFor_88 : decode cX3_hasRoomFor 88 = .ok (.iconst 0, 1) := by decide +kernel
theorem dX3_hasRoomFor_89 : decode cX3_hasRoomFor 89 = .ok (.ireturn, 1) := by decide +kernel
theorem dX3_hasRoomFor_90 : decode cX3_hasRoomFor 90 = .ok (.aload_n 0, 1) := by decide +kernel
theorem dX3_hasRoomFor_91 : decode cX3_hasRoomFor 91 = .ok (.getfield 28, 3) := by decide +kernel
theorem dX3_hasRoomFor_94 : decode cX3_hasRoomFor 94 = .ok (.getfield 84, 3) := by decide +kernel
theorem dX3_hasRoomFor_97 : decode cX3_hasRoomFor 97 = .ok (.aload_n 0, 1) := by decide +kernel
theorem dX3_hasRoomFor_98 : decode cX3_hasRoomFor 98 = .ok (.getfield 12, 3) := by decide +kernel
theorem dX3_hasRoomFor_101 : decode cX3_hasRoomFor 101 = .ok (.getfield 87, 3) := by decide +kernel
theorem dX3_hasRoomFor_104 : decode cX3_hasRoomFor 104 = .ok (.if_icmp .ge 7, 3) := by decide +kernel
theorem dX3_hasRoomFor_107 : decode cX3_hasRoomFor 107 = .ok (.iconst 1, 1) := by decide +kernel
theorem dX3_hasRoomFor_108 : decode cX3_hasRoomFor 108 = .ok (.goto 4, 3) := by decide +kernel
theorem dX3_hasRoomFor_111 : decode cX3_hasRoomFor 111 = .ok (.iconst 0, 1) := by decide +kernel
theorem dX3_hasRoomFor_112 : decode cX3_hasRoomFor 112 = .ok (.ireturn, 1) := by decide +kernel
theorem dX3_hasRoomFor_113 : decode cX3_hasRoomFor 113 = .ok (.aload_n 0, 1) := by decide +kernel
theorem dX3_hasRoomFor_114 : decode cX3_hasRoomFor 114 = .ok (.getfield 59, 3) := by decide +kernel
theorem dX3_hasRoomFor_117 : decode cX3_hasRoomFor 117 = .ok (.aload_n 0, 1) := by decide +kernel
theorem dX3_hasRoomFor_118 : decode cX3_hasRoomFor 118 = .ok (.getfield 31, 3) := by decide +kernel
theorem dX3_hasRoomFor_121 : decode cX3_hasRoomFor 121 = .ok (.arraylength, 1) := by decide +kernel
theorem dX3_hasRoomFor_122 : decode cX3_hasRoomFor 122 = .ok (.if_icmp .ge 7, 3) := by decide +kernel
theorem dX3_hasRoomFor_125 : decode cX3_hasRoomFor 125 = .ok (.iconst 1, 1) := by decide +kernel
theorem dX3_hasRoomFor_126 : decode cX3_hasRoomFor 126 = .ok (.goto 4, 3) := by decide +kernel
theorem dX3_hasRoomFor_129 : decode cX3_hasRoomFor 129 = .ok (.iconst 0, 1) := by decide +kernel
theorem dX3_hasRoomFor_130 : decode cX3_hasRoomFor 130 = .ok (.ireturn, 1) := by decide +kernel
theorem dX3_hasRoomFor_131 : decode cX3_hasRoomFor 131 = .ok (.aload_n 0, 1) := by decide +kernel
theorem dX3_hasRoomFor_132 : decode cX3_hasRoomFor 132 = .ok (.getfield 66, 3) := by decide +kernel
theorem dX3_hasRoomFor_135 : decode cX3_hasRoomFor 135 = .ok (.aload_n 0, 1) := by decide +kernel
theorem dX3_hasRoomFor_136 : decode cX3_hasRoomFor 136 = .ok (.getfield 35, 3) := by decide +kernel
theorem dX3_hasRoomFor_139 : decode cX3_hasRoomFor 139 = .ok (.arraylength, 1) := by decide +kernel
theorem dX3_hasRoomFor_140 : decode cX3_hasRoomFor 140 = .ok (.if_icmp .ge 7, 3) := by decide +kernel
theorem dX3_hasRoomFor_143 : decode cX3_hasRoomFor 143 = .ok (.iconst 1, 1) := by decide +kernel
theorem dX3_hasRoomFor_144 : decode cX3_hasRoomFor 144 = .ok (.goto 4, 3) := by decide +kernel
theorem dX3_hasRoomFor_147 : decode cX3_hasRoomFor 147 = .ok (.iconst 0, 1) := by decide +kernel
theorem dX3_hasRoomFor_148 : decode cX3_hasRoomFor 148 = .ok (.ireturn, 1) := by decide +kernel
theorem dX3_hasRoomFor_149 : decode cX3_hasRoomFor 149 = .ok (.aload_n 0, 1) := by decide +kernel
theorem dX3_hasRoomFor_150 : decode cX3_hasRoomFor 150 = .ok (.getfield 69, 3) := by decide +kernel
theorem dX3_hasRoomFor_153 : decode cX3_hasRoomFor 153 = .ok (.aload_n 0, 1) := by decide +kernel
theorem dX3_hasRoomFor_154 : decode cX3_hasRoomFor 154 = .ok (.getfield 43, 3) := by decide +kernel
theorem dX3_hasRoomFor_157 : decode cX3_hasRoomFor 157 = .ok (.arraylength, 1) := by decide +kernel
theorem dX3_hasRoomFor_158 : decode cX3_hasRoomFor 158 = .ok (.if_icmp .ge 7, 3) := by decide +kernel
theorem dX3_hasRoomFor_161 : decode cX3_hasRoomFor 161 = .ok (.iconst 1, 1) := by decide +kernel
theorem dX3_hasRoomFor_162 : decode cX3_hasRoomFor 162 = .ok (.goto 4, 3) := by decide +kernel
theorem dX3_hasRoomFor_165 : decode cX3_hasRoomFor 165 = .ok (.iconst 0, 1) := by decide +kernel
theorem dX3_hasRoomFor_166 : decode cX3_hasRoomFor 166 = .ok (.ireturn, 1) := by decide +kernel
theorem dX3_hasRoomFor_167 : decode cX3_hasRoomFor 167 = .ok (.iconst 1, 1) := by decide +kernel
theorem dX3_hasRoomFor_168 : decode cX3_hasRoomFor 168 = .ok (.ireturn, 1) := by decide +kernel
theorem dX3_addGate_0 : decode cX3_addGate 0 = .ok (.aload_n 0, 1) := by decide +kernel
theorem dX3_addGate_1 : decode cX3_addGate 1 = .ok (.getfield 59, 3) := by decide +kernel
theorem dX3_addGate_4 : decode cX3_addGate 4 = .ok (.aload_n 0, 1) := by decide +kernel
theorem dX3_addGate_5 : decode cX3_addGate 5 = .ok (.getfield 31, 3) := by decide +kernel
theorem dX3_addGate_8 : decode cX3_addGate 8 = .ok (.arraylength, 1) := by decide +kernel
theorem dX3_addGate_9 : decode cX3_addGate 9 = .ok (.if_icmp .ge 36, 3) := by decide +kernel
theorem dX3_addGate_12 : decode cX3_addGate 12 = .ok (.aload_n 0, 1) := by decide +kernel
theorem dX3_addGate_13 : decode cX3_addGate 13 = .ok (.getfield 31, 3) := by decide +kernel
theorem dX3_addGate_16 : decode cX3_addGate 16 = .ok (.aload_n 0, 1) := by decide +kernel
theorem dX3_addGate_17 : decode cX3_addGate 17 = .ok (.getfield 59, 3) := by decide +kernel
theorem dX3_addGate_20 : decode cX3_addGate 20 = .ok (.iload_n 1, 1) := by decide +kernel
theorem dX3_addGate_21 : decode cX3_addGate 21 = .ok (.iastore, 1) := by decide +kernel
theorem dX3_addGate_22 : decode cX3_addGate 22 = .ok (.aload_n 0, 1) := by decide +kernel
theorem dX3_addGate_23 : decode cX3_addGate 23 = .ok (.dup, 1) := by decide +kernel
theorem dX3_addGate_24 : decode cX3_addGate 24 = .ok (.getfield 62, 3) := by decide +kernel
theorem dX3_addGate_27 : decode cX3_addGate 27 = .ok (.iload_n 1, 1) := by decide +kernel
theorem dX3_addGate_28 : decode cX3_addGate 28 = .ok (.invokestatic 90, 3) := by decide +kernel
theorem dX3_addGate_31 : decode cX3_addGate 31 = .ok (.lor, 1) := by decide +kernel
theorem dX3_addGate_32 : decode cX3_addGate 32 = .ok (.putfield 62, 3) := by decide +kernel
theorem dX3_addGate_35 : decode cX3_addGate 35 = .ok (.aload_n 0, 1) := by decide +kernel
theorem dX3_addGate_36 : decode cX3_addGate 36 = .ok (.dup, 1) := by decide +kernel
theorem dX3_addGate_37 : decode cX3_addGate 37 = .ok (.getfield 59, 3) := by decide +kernel
theorem dX3_addGate_40 : decode cX3_addGate 40 = .ok (.iconst 1, 1) := by decide +kernel
theorem dX3_addGate_41 : decode cX3_addGate 41 = .ok (.iadd, 1) := by decide +kernel
theorem dX3_addGate_42 : decode cX3_addGate 42 = .ok (.putfield 59, 3) := by decide +kernel
theorem dX3_addGate_45 : decode cX3_addGate 45 = .ok (.return_, 1) := by decide +kernel
theorem dX3_addHeard_0 : decode cX3_addHeard 0 = .ok (.aload_n 0, 1) := by decide +kernel
theorem dX3_addHeard_1 : decode cX3_addHeard 1 = .ok (.getfield 66, 3) := by decide +kernel
theorem dX3_addHeard_4 : decode cX3_addHeard 4 = .ok (.aload_n 0, 1) := by decide +kernel
theorem dX3_addHeard_5 : decode cX3_addHeard 5 = .ok (.getfield 35, 3) := by decide +kernel
theorem dX3_addHeard_8 : decode cX3_addHeard 8 = .ok (.arraylength, 1) := by decide +kernel
theorem dX3_addHeard_9 : decode cX3_addHeard 9 = .ok (.if_icmp .ge 45, 3) := by decide +kernel
theorem dX3_addHeard_12 : decode cX3_addHeard 12 = .ok (.aload_n 0, 1) := by decide +kernel
theorem dX3_addHeard_13 : decode cX3_addHeard 13 = .ok (.getfield 66, 3) := by decide +kernel
theorem dX3_addHeard_16 : decode cX3_addHeard 16 = .ok (.aload_n 0, 1) := by decide +kernel
theorem dX3_addHeard_17 : decode cX3_addHeard 17 = .ok (.getfield 38, 3) := by decide +kernel
theorem dX3_addHeard_20 : decode cX3_addHeard 20 = .ok (.arraylength, 1) := by decide +kernel
theorem dX3_addHeard_21 : decode cX3_addHeard 21 = .ok (.if_icmp .ge 33, 3) := by decide +kernel
theorem dX3_addHeard_24 : decode cX3_addHeard 24 = .ok (.aload_n 0, 1) := by decide +kernel
theorem dX3_addHeard_25 : decode cX3_addHeard 25 = .ok (.getfield 38, 3) := by decide +kernel
theorem dX3_addHeard_28 : decode cX3_addHeard 28 = .ok (.aload_n 0, 1) := by decide +kernel
theorem dX3_addHeard_29 : decode cX3_addHeard 29 = .ok (.getfield 66, 3) := by decide +kernel
theorem dX3_addHeard_32 : decode cX3_addHeard 32 = .ok (.iload_n 1, 1) := by decide +kernel
theorem dX3_addHeard_33 : decode cX3_addHeard 33 = .ok (.iastore, 1) := by decide +kernel
theorem dX3_addHeard_34 : decode cX3_addHeard 34 = .ok (.aload_n 0, 1) := by decide +kernel
theorem dX3_addHeard_35 : decode cX3_addHeard 35 = .ok (.getfield 35, 3) := by decide +kernel
theorem dX3_addHeard_38 : decode cX3_addHeard 38 = .ok (.aload_n 0, 1) := by decide +kernel
theorem dX3_addHeard_39 : decode cX3_addHeard 39 = .ok (.getfield 66, 3) := by decide +kernel
theorem dX3_addHeard_42 : decode cX3_addHeard 42 = .ok (.iload_n 2, 1) := by decide +kernel
theorem dX3_addHeard_43 : decode cX3_addHeard 43 = .ok (.iastore, 1) := by decide +kernel
theorem dX3_addHeard_44 : decode cX3_addHeard 44 = .ok (.aload_n 0, 1) := by decide +kernel
theorem dX3_addHeard_45 : decode cX3_addHeard 45 = .ok (.dup, 1) := by decide +kernel
theorem dX3_addHeard_46 : decode cX3_addHeard 46 = .ok (.getfield 66, 3) := by decide +kernel
theorem dX3_addHeard_49 : decode cX3_addHeard 49 = .ok (.iconst 1, 1) := by decide +kernel
theorem dX3_addHeard_50 : decode cX3_addHeard 50 = .ok (.iadd, 1) := by decide +kernel
theorem dX3_addHeard_51 : decode cX3_addHeard 51 = .ok (.putfield 66, 3) := by decide +kernel
theorem dX3_addHeard_54 : decode cX3_addHeard 54 = .ok (.return_, 1) := by decide +kernel
theorem dX3_addWalker_0 : decode cX3_addWalker 0 = .ok (.aload_n 0, 1) := by decide +kernel
theorem dX3_addWalker_1 : decode cX3_addWalker 1 = .ok (.getfield 69, 3) := by decide +kernel
theorem dX3_addWalker_4 : decode cX3_addWalker 4 = .ok (.aload_n 0, 1) := by decide +kernel
theorem dX3_addWalker_5 : decode cX3_addWalker 5 = .ok (.getfield 43, 3) := by decide +kernel
theorem dX3_addWalker_8 : decode cX3_addWalker 8 = .ok (.arraylength, 1) := by decide +kernel
theorem dX3_addWalker_9 : decode cX3_addWalker 9 = .ok (.if_icmp .ge 57, 3) := by decide +kernel
theorem dX3_addWalker_12 : decode cX3_addWalker 12 = .ok (.aload_n 0, 1) := by decide +kernel
theorem dX3_addWalker_13 : decode cX3_addWalker 13 = .ok (.getfield 43, 3) := by decide +kernel
theorem dX3_addWalker_16 : decode cX3_addWalker 16 = .ok (.aload_n 0, 1) := by decide +kernel
theorem dX3_addWalker_17 : decode cX3_addWalker 17 = .ok (.getfield 69, 3) := by decide +kernel
theorem dX3_addWalker_20 : decode cX3_addWalker 20 = .ok (.aaload, 1) := by decide +kernel
theorem dX3_addWalker_21 : decode cX3_addWalker 21 = .ok (.astore 7, 2) := by decide +kernel
theorem dX3_addWalker_23 : decode cX3_addWalker 23 = .ok (.aload 7, 2) := by decide +kernel
theorem dX3_addWalker_25 : decode cX3_addWalker 25 = .ok (.lload_n 1, 1) := by decide +kernel
theorem dX3_addWalker_26 : decode cX3_addWalker 26 = .ok (.putfield 94, 3) := by decide +kernel
theorem dX3_addWalker_29 : decode cX3_addWalker 29 = .ok (.aload 7, 2) := by decide +kernel
theorem dX3_addWalker_31 : decode cX3_addWalker 31 = .ok (.iload_n 3, 1) := by decide +kernel
theorem dX3_addWalker_32 : decode cX3_addWalker 32 = .ok (.putfield 97, 3) := by decide +kernel
theorem dX3_addWalker_35 : decode cX3_addWalker 35 = .ok (.aload 7, 2) := by decide +kernel
theorem dX3_addWalker_37 : decode cX3_addWalker 37 = .ok (.iload 4, 2) := by decide +kernel
theorem dX3_addWalker_39 : decode cX3_addWalker 39 = .ok (.putfield 100, 3) := by decide +kernel
theorem dX3_addWalker_42 : decode cX3_addWalker 42 = .ok (.aload 7, 2) := by decide +kernel
theorem dX3_addWalker_44 : decode cX3_addWalker 44 = .ok (.iload 5, 2) := by decide +kernel
theorem dX3_addWalker_46 : decode cX3_addWalker 46 = .ok (.putfield 103, 3) := by decide +kernel
theorem dX3_addWalker_49 : decode cX3_addWalker 49 = .ok (.aload 7, 2) := by decide +kernel
theorem dX3_addWalker_51 : decode cX3_addWalker 51 = .ok (.iload 6, 2) := by decide +kernel
theorem dX3_addWalker_53 : decode cX3_addWalker 53 = .ok (.putfield 106, 3) := by decide +kernel
theorem dX3_addWalker_56 : decode cX3_addWalker 56 = .ok (.aload_n 0, 1) := by decide +kernel
theorem dX3_addWalker_57 : decode cX3_addWalker 57 = .ok (.dup, 1) := by decide +kernel
theorem dX3_addWalker_58 : decode cX3_addWalker 58 = .ok (.getfield 69, 3) := by decide +kernel
theorem dX3_addWalker_61 : decode cX3_addWalker 61 = .ok (.iconst 1, 1) := by decide +kernel
theorem dX3_addWalker_62 : decode cX3_addWalker 62 = .ok (.iadd, 1) := by decide +kernel
theorem dX3_addWalker_63 : decode cX3_addWalker 63 = .ok (.putfield 69, 3) := by decide +kernel
theorem dX3_addWalker_66 : decode cX3_addWalker 66 = .ok (.return_, 1) := by decide +kernel
theorem dX3_hasWalkerNamed_0 : decode cX3_hasWalkerNamed 0 = .ok (.iconst 0, 1) := by decide +kernel
theorem dX3_hasWalkerNamed_1 : decode cX3_hasWalkerNamed 1 = .ok (.istore_n 3, 1) := by decide +kernel
theorem dX3_hasWalkerNamed_2 : decode cX3_hasWalkerNamed 2 = .ok (.iload_n 3, 1) := by decide +kernel
theorem dX3_hasWalkerNamed_3 : decode cX3_hasWalkerNamed 3 = .ok (.aload_n 0, 1) := by decide +kernel
theorem dX3_hasWalkerNamed_4 : decode cX3_hasWalkerNamed 4 = .ok (.getfield 69, 3) := by decide +kernel
theorem dX3_hasWalkerNamed_7 : decode cX3_hasWalkerNamed 7 = .ok (.if_icmp .ge 34, 3) := by decide +kernel
theorem dX3_hasWalkerNamed_10 : decode cX3_hasWalkerNamed 10 = .ok (.iload_n 3, 1) := by decide +kernel
theorem dX3_hasWalkerNamed_11 : decode cX3_hasWalkerNamed 11 = .ok (.aload_n 0, 1) := by decide +kernel
theorem dX3_hasWalkerNamed_12 : decode cX3_hasWalkerNamed 12 = .ok (.getfield 43, 3) := by decide +kernel
theorem dX3_hasWalkerNamed_15 : decode cX3_hasWalkerNamed 15 = .ok (.arraylength, 1) := by decide +kernel
theorem dX3_hasWalkerNamed_16 : decode cX3_hasWalkerNamed 16 = .ok (.if_icmp .ge 25, 3) := by decide +kernel
theorem dX3_hasWalkerNamed_19 : decode cX3_hasWalkerNamed 19 = .ok (.aload_n 0, 1) := by decide +kernel
theorem dX3_hasWalkerNamed_20 : decode cX3_hasWalkerNamed 20 = .ok (.getfield 43, 3) := by decide +kernel
theorem dX3_hasWalkerNamed_23 : decode cX3_hasWalkerNamed 23 = .ok (.iload_n 3, 1) := by decide +kernel
theorem dX3_hasWalkerNamed_24 : decode cX3_hasWalkerNamed 24 = .ok (.aaload, 1) := by decide +kernel
theorem dX3_hasWalkerNamed_25 : decode cX3_hasWalkerNamed 25 = .ok (.getfield 94, 3) := by decide +kernel
theorem dX3_hasWalkerNamed_28 : decode cX3_hasWalkerNamed 28 = .ok (.lload_n 1, 1) := by decide +kernel
theorem dX3_hasWalkerNamed_29 : decode cX3_hasWalkerNamed 29 = .ok (.lcmp, 1) := by decide +kernel
theorem dX3_hasWalkerNamed_30 : decode cX3_hasWalkerNamed 30 = .ok (.ifCond .ne 5, 3) := by decide +kernel
theorem dX3_hasWalkerNamed_33 : decode cX3_hasWalkerNamed 33 = .ok (.iconst 1, 1) := by decide +kernel
theorem dX3_hasWalkerNamed_34 : decode cX3_hasWalkerNamed 34 = .ok (.ireturn, 1) := by decide +kernel
theorem dX3_hasWalkerNamed_35 : decode cX3_hasWalkerNamed 35 = .ok (.iinc 3 1, 3) := by decide +kernel
theorem dX3_hasWalkerNamed_38 : decode cX3_hasWalkerNamed 38 = .ok (.goto (-36), 3) := by decide +kernel
theorem dX3_hasWalkerNamed_41 : decode cX3_hasWalkerNamed 41 = .ok (.iconst 0, 1) := by decide +kernel
theorem dX3_hasWalkerNamed_42 : decode cX3_hasWalkerNamed 42 = .ok (.ireturn, 1) := by decide +kernel
theorem dX3_gateCell_0 : decode cX3_gateCell 0 = .ok (.iload_n 1, 1) := by decide +kernel
theorem dX3_gateCell_1 : decode cX3_gateCell 1 = .ok (.ifCond .lt 21, 3) := by decide +kernel
theorem dX3_gateCell_4 : decode cX3_gateCell 4 = .ok (.iload_n 1, 1) := by decide +kernel
theorem dX3_gateCell_5 : decode cX3_gateCell 5 = .ok (.aload_n 0, 1) := by decide +kernel
theorem dX3_gateCell_6 : decode cX3_gateCell 6 = .ok (.getfield 31, 3) := by decide +kernel
theorem dX3_gateCell_9 : decode cX3_gateCell 9 = .ok (.arraylength, 1) := by decide +kernel
theorem dX3_gateCell_10 : decode cX3_gateCell 10 = .ok (.if_icmp .ge 12, 3) := by decide +kernel
theorem dX3_gateCell_13 : decode cX3_gateCell 13 = .ok (.aload_n 0, 1) := by decide +kernel
theorem dX3_gateCell_14 : decode cX3_gateCell 14 = .ok (.getfield 31, 3) := by decide +kernel
theorem dX3_gateCell_17 : decode cX3_gateCell 17 = .ok (.iload_n 1, 1) := by decide +kernel
theorem dX3_gateCell_18 : decode cX3_gateCell 18 = .ok (.iaload, 1) := by decide +kernel
theorem dX3_gateCell_19 : decode cX3_gateCell 19 = .ok (.goto 5, 3) := by decide +kernel
theorem dX3_gateCell_22 : decode cX3_gateCell 22 = .ok (.bipush (-2), 2) := by decide +kernel
theorem dX3_gateCell_24 : decode cX3_gateCell 24 = .ok (.ireturn, 1) := by decide +kernel
theorem dX3_heardCell_0 : decode cX3_heardCell 0 = .ok (.iload_n 1, 1) := by decide +kernel
theorem dX3_heardCell_1 : decode cX3_heardCell 1 = .ok (.ifCond .lt 21, 3) := by decide +kernel
theorem dX3_heardCell_4 : decode cX3_heardCell 4 = .ok (.iload_n 1, 1) := by decide +kernel
theorem dX3_heardCell_5 : decode cX3_heardCell 5 = .ok (.aload_n 0, 1) := by decide +kernel
theorem dX3_heardCell_6 : decode cX3_heardCell 6 = .ok (.getfield 35, 3) := by decide +kernel
theorem dX3_heardCell_9 : decode cX3_heardCell 9 = .ok (.arraylength, 1) := by decide +kernel
theorem dX3_heardCell_10 : decode cX3_heardCell 10 = .ok (.if_icmp .ge 12, 3) := by decide +kernel
theorem dX3_heardCell_13 : decode cX3_heardCell 13 = .ok (.aload_n 0, 1) := by decide +kernel
theorem dX3_heardCell_14 : decode cX3_heardCell 14 = .ok (.getfield 35, 3) := by decide +kernel
theorem dX3_heardCell_17 : decode cX3_heardCell 17 = .ok (.iload_n 1, 1) := by decide +kernel
theorem dX3_heardCell_18 : decode cX3_heardCell 18 = .ok (.iaload, 1) := by decide +kernel
theorem dX3_heardCell_19 : decode cX3_heardCell 19 = .ok (.goto 5, 3) := by decide +kernel
theorem dX3_heardCell_22 : decode cX3_heardCell 22 = .ok (.bipush (-2), 2) := by decide +kernel
theorem dX3_heardCell_24 : decode cX3_heardCell 24 = .ok (.ireturn, 1) := by decide +kernel
theorem dX3_heardSteps_0 : decode cX3_heardSteps 0 = .ok (.iload_n 1, 1) := by decide +kernel
theorem dX3_heardSteps_1 : decode cX3_heardSteps 1 = .ok (.ifCond .lt 21, 3) := by decide +kernel
theorem dX3_heardSteps_4 : decode cX3_heardSteps 4 = .ok (.iload_n 1, 1) := by decide +kernel
theorem dX3_heardSteps_5 : decode cX3_heardSteps 5 = .ok (.aload_n 0, 1) := by decide +kernel
theorem dX3_heardSteps_6 : decode cX3_heardSteps 6 = .ok (.getfield 38, 3) := by decide +kernel
theorem dX3_heardSteps_9 : decode cX3_heardSteps 9 = .ok (.arraylength, 1) := by decide +kernel
theorem dX3_heardSteps_10 : decode cX3_heardSteps 10 = .ok (.if_icmp .ge 12, 3) := by decide +kernel
theorem dX3_heardSteps_13 : decode cX3_heardSteps 13 = .ok (.aload_n 0, 1) := by decide +kernel
theorem dX3_heardSteps_14 : decode cX3_heardSteps 14 = .ok (.getfield 38, 3) := by decide +kernel
theorem dX3_heardSteps_17 : decode cX3_heardSteps 17 = .ok (.iload_n 1, 1) := by decide +kernel
theorem dX3_heardSteps_18 : decode cX3_heardSteps 18 = .ok (.iaload, 1) := by decide +kernel
theorem dX3_heardSteps_19 : decode cX3_heardSteps 19 = .ok (.goto 5, 3) := by decide +kernel
theorem dX3_heardSteps_22 : decode cX3_heardSteps 22 = .ok (.bipush (-2), 2) := by decide +kernel
theorem dX3_heardSteps_24 : decode cX3_heardSteps 24 = .ok (.ireturn, 1) := by decide +kernel
theorem dX3_walker_0 : decode cX3_walker 0 = .ok (.iload_n 1, 1) := by decide +kernel
theorem dX3_walker_1 : decode cX3_walker 1 = .ok (.ifCond .lt 21, 3) := by decide +kernel
theorem dX3_walker_4 : decode cX3_walker 4 = .ok (.iload_n 1, 1) := by decide +kernel
theorem dX3_walker_5 : decode cX3_walker 5 = .ok (.aload_n 0, 1) := by decide +kernel
theorem dX3_walker_6 : decode cX3_walker 6 = .ok (.getfield 43, 3) := by decide +kernel
theorem dX3_walker_9 : decode cX3_walker 9 = .ok (.arraylength, 1) := by decide +kernel
theorem dX3_walker_10 : decode cX3_walker 10 = .ok (.if_icmp .ge 12, 3) := by decide +kernel
theorem dX3_walker_13 : decode cX3_walker 13 = .ok (.aload_n 0, 1) := by decide +kernel
theorem dX3_walker_14 : decode cX3_walker 14 = .ok (.getfield 43, 3) := by decide +kernel
theorem dX3_walker_17 : decode cX3_walker 17 = .ok (.iload_n 1, 1) := by decide +kernel
theorem dX3_walker_18 : decode cX3_walker 18 = .ok (.aaload, 1) := by decide +kernel
theorem dX3_walker_19 : decode cX3_walker 19 = .ok (.goto 9, 3) := by decide +kernel
theorem dX3_walker_22 : decode cX3_walker 22 = .ok (.aload_n 0, 1) := by decide +kernel
theorem dX3_walker_23 : decode cX3_walker 23 = .ok (.getfield 43, 3) := by decide +kernel
theorem dX3_walker_26 : decode cX3_walker 26 = .ok (.iconst 0, 1) := by decide +kernel
theorem dX3_walker_27 : decode cX3_walker 27 = .ok (.aaload, 1) := by decide +kernel
theorem dX3_walker_28 : decode cX3_walker 28 = .ok (.areturn, 1) := by decide +kernel
theorem dX3_walkerCells_0 : decode cX3_walkerCells 0 = .ok (.lconst 0, 1) := by decide +kernel
theorem dX3_walkerCells_1 : decode cX3_walkerCells 1 = .ok (.lstore_n 1, 1) := by decide +kernel
theorem dX3_walkerCells_2 : decode cX3_walkerCells 2 = .ok (.iconst 0, 1) := by decide +kernel
theorem dX3_walkerCells_3 : decode cX3_walkerCells 3 = .ok (.istore_n 3, 1) := by decide +kernel
theorem dX3_walkerCells_4 : decode cX3_walkerCells 4 = .ok (.iload_n 3, 1) := by decide +kernel
theorem dX3_walkerCells_5 : decode cX3_walkerCells 5 = .ok (.aload_n 0, 1) := by decide +kernel
theorem dX3_walkerCells_6 : decode cX3_walkerCells 6 = .ok (.getfield 69, 3) := by decide +kernel
theorem dX3_walkerCells_9 : decode cX3_walkerCells 9 = .ok (.if_icmp .ge 33, 3) := by decide +kernel
theorem dX3_walkerCells_12 : decode cX3_walkerCells 12 = .ok (.iload_n 3, 1) := by decide +kernel
theorem dX3_walkerCells_13 : decode cX3_walkerCells 13 = .ok (.aload_n 0, 1) := by decide +kernel
theorem dX3_walkerCells_14 : decode cX3_walkerCells 14 = .ok (.getfield 43, 3) := by decide +kernel
theorem dX3_walkerCells_17 : decode cX3_walkerCells 17 = .ok (.arraylength, 1) := by decide +kernel
theorem dX3_walkerCells_18 : decode cX3_walkerCells 18 = .ok (.if_icmp .ge 24, 3) := by decide +kernel
theorem dX3_walkerCells_21 : decode cX3_walkerCells 21 = .ok (.lload_n 1, 1) := by decide +kernel
theorem dX3_walkerCells_22 : decode cX3_walkerCells 22 = .ok (.aload_n 0, 1) := by decide +kernel
theorem dX3_walkerCells_23 : decode cX3_walkerCells 23 = .ok (.getfield 43, 3) := by decide +kernel
theorem dX3_walkerCells_26 : decode cX3_walkerCells 26 = .ok (.iload_n 3, 1) := by decide +kernel
theorem dX3_walkerCells_27 : decode cX3_walkerCells 27 = .ok (.aaload, 1) := by decide +kernel
theorem dX3_walkerCells_28 : decode cX3_walkerCells 28 = .ok (.getfield 100, 3) := by decide +kernel
theorem dX3_walkerCells_31 : decode cX3_walkerCells 31 = .ok (.invokestatic 90, 3) := by decide +kernel
theorem dX3_walkerCells_34 : decode cX3_walkerCells 34 = .ok (.lor, 1) := by decide +kernel
theorem dX3_walkerCells_35 : decode cX3_walkerCells 35 = .ok (.lstore_n 1, 1) := by decide +kernel
theorem dX3_walkerCells_36 : decode cX3_walkerCells 36 = .ok (.iinc 3 1, 3) := by decide +kernel
theorem dX3_walkerCells_39 : decode cX3_walkerCells 39 = .ok (.goto (-35), 3) := by decide +kernel
theorem dX3_walkerCells_42 : decode cX3_walkerCells 42 = .ok (.lload_n 1, 1) := by decide +kernel
theorem dX3_walkerCells_43 : decode cX3_walkerCells 43 = .ok (.lreturn, 1) := by decide +kernel
theorem dX3_told_0 : decode cX3_told 0 = .ok (.iload_n 1, 1) := by decide +kernel
theorem dX3_told_1 : decode cX3_told 1 = .ok (.tableswitch 93 0 7 #[47, 55, 63, 68, 73, 78, 83, 88], 47) := by decide +kernel
theorem dX3_told_48 : decode cX3_told 48 = .ok (.aload_n 0, 1) := by decide +kernel
theorem dX3_told_49 : decode cX3_told 49 = .ok (.getfield 12, 3) := by decide +kernel
theorem dX3_told_52 : decode cX3_told 52 = .ok (.getfield 109, 3) := by decide +kernel
theorem dX3_told_55 : decode cX3_told 55 = .ok (.ireturn, 1) := by decide +kernel
theorem dX3_told_56 : decode cX3_told 56 = .ok (.aload_n 0, 1) := by decide +kernel
theorem dX3_told_57 : decode cX3_told 57 = .ok (.getfield 12, 3) := by decide +kernel
theorem dX3_told_60 : decode cX3_told 60 = .ok (.getfield 87, 3) := by decide +kernel
theorem dX3_told_63 : decode cX3_told 63 = .ok (.ireturn, 1) := by decide +kernel
theorem dX3_told_64 : decode cX3_told 64 = .ok (.aload_n 0, 1) := by decide +kernel
theorem dX3_told_65 : decode cX3_told 65 = .ok (.getfield 72, 3) := by decide +kernel
theorem dX3_told_68 : decode cX3_told 68 = .ok (.ireturn, 1) := by decide +kernel
theorem dX3_told_69 : decode cX3_told 69 = .ok (.aload_n 0, 1) := by decide +kernel
theorem dX3_told_70 : decode cX3_told 70 = .ok (.getfield 75, 3) := by decide +kernel
theorem dX3_told_73 : decode cX3_told 73 = .ok (.ireturn, 1) := by decide +kernel
theorem dX3_told_74 : decode cX3_told 74 = .ok (.aload_n 0, 1) := by decide +kernel
theorem dX3_told_75 : decode cX3_told 75 = .ok (.getfield 59, 3) := by decide +kernel
theorem dX3_told_78 : decode cX3_told 78 = .ok (.ireturn, 1) := by decide +kernel
theorem dX3_told_79 : decode cX3_told 79 = .ok (.aload_n 0, 1) := by decide +kernel
theorem dX3_told_80 : decode cX3_told 80 = .ok (.getfield 69, 3) := by decide +kernel
theorem dX3_told_83 : decode cX3_told 83 = .ok (.ireturn, 1) := by decide +kernel
theorem dX3_told_84 : decode cX3_told 84 = .ok (.aload_n 0, 1) := by decide +kernel
theorem dX3_told_85 : decode cX3_told 85 = .ok (.getfield 66, 3) := by decide +kernel
theorem dX3_told_88 : decode cX3_told 88 = .ok (.ireturn, 1) := by decide +kernel
theorem dX3_told_89 : decode cX3_told 89 = .ok (.aload_n 0, 1) := by decide +kernel
theorem dX3_told_90 : decode cX3_told 90 = .ok (.getfield 48, 3) := by decide +kernel
theorem dX3_told_93 : decode cX3_told 93 = .ok (.ireturn, 1) := by decide +kernel
theorem dX3_told_94 : decode cX3_told 94 = .ok (.iconst (-1), 1) := by decide +kernel
theorem dX3_told_95 : decode cX3_told 95 = .ok (.ireturn, 1) := by decide +kernel
theorem dX4_init_0 : decode cX4_init 0 = .ok (.aload_n 0, 1) := by decide +kernel
theorem dX4_init_1 : decode cX4_init 1 = .ok (.invokespecial 3, 3) := by decide +kernel
theorem dX4_init_4 : decode cX4_init 4 = .ok (.aload_n 0, 1) := by decide +kernel
theorem dX4_init_5 : decode cX4_init 5 = .ok (.aload_n 1, 1) := by decide +kernel
theorem dX4_init_6 : decode cX4_init 6 = .ok (.putfield 9, 3) := by decide +kernel
theorem dX4_init_9 : decode cX4_init 9 = .ok (.return_, 1) := by decide +kernel
theorem dX4_faultFound_0 : decode cX4_faultFound 0 = .ok (.aload_n 0, 1) := by decide +kernel
theorem dX4_faultFound_1 : decode cX4_faultFound 1 = .ok (.getfield 15, 3) := by decide +kernel
theorem dX4_faultFound_4 : decode cX4_faultFound 4 = .ok (.ireturn, 1) := by decide +kernel
theorem dX4_placeOfFault_0 : decode cX4_placeOfFault 0 = .ok (.aload_n 0, 1) := by decide +kernel
theorem dX4_placeOfFault_1 : decode cX4_placeOfFault 1 = .ok (.getfield 19, 3) := by decide +kernel
theorem dX4_placeOfFault_4 : decode cX4_placeOfFault 4 = .ok (.ireturn, 1) := by decide +kernel
theorem dX4_read_0 : decode cX4_read 0 = .ok (.aload_n 0, 1) := by decide +kernel
theorem dX4_read_1 : decode cX4_read 1 = .ok (.iconst 0, 1) := by decide +kernel
theorem dX4_read_2 : decode cX4_read 2 = .ok (.putfield 15, 3) := by decide +kernel
theorem dX4_read_5 : decode cX4_read 5 = .ok (.aload_n 0, 1) := by decide +kernel
theorem dX4_read_6 : decode cX4_read 6 = .ok (.iconst (-1), 1) := by decide +kernel
theorem dX4_read_7 : decode cX4_read 7 = .ok (.putfield 19, 3) := by decide +kernel
theorem dX4_read_10 : decode cX4_read 10 = .ok (.aload_n 1, 1) := by decide +kernel
theorem dX4_read_11 : decode cX4_read 11 = .ok (.invokevirtual 22, 3) := by decide +kernel
theorem dX4_read_14 : decode cX4_read 14 = .ok (.aload_n 0, 1) := by decide +kernel
theorem dX4_read_15 : decode cX4_read 15 = .ok (.getfield 9, 3) := by decide +kernel
theorem dX4_read_18 : decode cX4_read 18 = .ok (.iload_n 2, 1) := by decide +kernel
theorem dX4_read_19 : decode cX4_read 19 = .ok (.invokevirtual 27, 3) := by decide +kernel
theorem dX4_read_22 : decode cX4_read 22 = .ok (.iconst 0, 1) := by decide +kernel
theorem dX4_read_23 : decode cX4_read 23 = .ok (.istore_n 3, 1) := by decide +kernel
theorem dX4_read_24 : decode cX4_read 24 = .ok (.iload_n 3, 1) := by decide +kernel
theorem dX4_read_25 : decode cX4_read 25 = .ok (.iload_n 2, 1) := by decide +kernel
theorem dX4_read_26 : decode cX4_read 26 = .ok (.if_icmp .gt 58, 3) := by decide +kernel
theorem dX4_read_29 : decode cX4_read 29 = .ok (.aload_n 0, 1) := by decide +kernel
theorem dX4_read_30 : decode cX4_read 30 = .ok (.aload_n 1, 1) := by decide +kernel
theorem dX4_read_31 : decode cX4_read 31 = .ok (.invokevirtual 33, 3) := by decide +kernel
theorem dX4_read_34 : decode cX4_read 34 = .ok (.ifCond .ne 5, 3) := by decide +kernel
theorem dX4_read_37 : decode cX4_read 37 = .ok (.iconst 0, 1) := by decide +kernel
theorem dX4_read_38 : decode cX4_read 38 = .ok (.ireturn, 1) := by decide +kernel
theorem dX4_read_39 : decode cX4_read 39 = .ok (.aload_n 0, 1) := by decide +kernel
theorem dX4_read_40 : decode cX4_read 40 = .ok (.getfield 9, 3) := by decide +kernel
theorem dX4_read_43 : decode cX4_read 43 = .ok (.invokevirtual 37, 3) := by decide +kernel
theorem dX4_read_46 : decode cX4_read 46 = .ok (.ifCond .ne 21, 3) := by decide +kernel
theorem dX4_read_49 : decode cX4_read 49 = .ok (.aload_n 1, 1) := by decide +kernel
theorem dX4_read_50 : decode cX4_read 50 = .ok (.invokevirtual 41, 3) := by decide +kernel
theorem dX4_read_53 : decode cX4_read 53 = .ok (.ifCond .eq 12, 3) := by decide +kernel
theorem dX4_read_56 : decode cX4_read 56 = .ok (.aload_n 0, 1) := by decide +kernel
theorem dX4_read_57 : decode cX4_read 57 = .ok (.bipush 6, 2) := by decide +kernel
theorem dX4_read_59 : decode cX4_read 59 = .ok (.invokevirtual 45, 3) := by decide +kernel
theorem dX4_read_62 : decode cX4_read 62 = .ok (.goto 4, 3) := by decide +kernel
theorem dX4_read_65 : decode cX4_read 65 = .ok (.iconst 1, 1) := by decide +kernel
theorem dX4_read_66 : decode cX4_read 66 = .ok (.ireturn, 1) := by decide +kernel
theorem dX4_read_67 : decode cX4_read 67 = .ok (.aload_n 0, 1) := by decide +kernel
theorem dX4_read_68 : decode cX4_read 68 = .ok (.bipush 59, 2) := by decide +kernel
theorem dX4_read_70 : decode cX4_read 70 = .ok (.invokevirtual 49, 3) := by decide +kernel
theorem dX4_read_73 : decode cX4_read 73 = .ok (.ifCond .ne 5, 3) := by decide +kernel
theorem dX4_read_76 : decode cX4_read 76 = .ok (.iconst 0, 1) := by decide +kernel
theorem dX4_read_77 : decode cX4_read 77 = .ok (.ireturn, 1) := by decide +kernel
theorem dX4_read_78 : decode cX4_read 78 = .ok (.iinc 3 1, 3) := by decide +kernel
theorem dX4_read_81 : decode cX4_read 81 = .ok (.goto (-57), 3) := by decide +kernel
theorem dX4_read_84 : decode cX4_read 84 = .ok (.aload_n 0, 1) := by decide +kernel
theorem dX4_read_85 : decode cX4_read 85 = .ok (.iconst 1, 1) := by decide +kernel
theorem dX4_read_86 : decode cX4_read 86 = .ok (.invokevirtual 45, 3) := by decide +kernel
theorem dX4_read_89 : decode cX4_read 89 = .ok (.ireturn, 1) := by decide +kernel
theorem dX4_readLine_0 : decode cX4_readLine 0 = .ok (.aload_n 0, 1) := by decide +kernel
theorem dX4_readLine_1 : decode cX4_readLine 1 = .ok (.getfield 9, 3) := by decide +kernel
theorem dX4_readLine_4 : decode cX4_readLine 4 = .ok (.ldc 53, 2) := by decide +kernel
theorem dX4_readLine_6 : decode cX4_readLine 6 = .ok (.invokevirtual 55, 3) := by decide +kernel
theorem dX4_readLine_9 : decode cX4_readLine 9 = .ok (.istore_n 2, 1) := by decide +kernel
theorem dX4_readLine_10 : decode cX4_readLine 10 = .ok (.iload_n 2, 1) := by decide +kernel
theorem dX4_readLine_11 : decode cX4_readLine 11 = .ok (.iconst (-1), 1) := by decide +kernel
theorem dX4_readLine_12 : decode cX4_readLine 12 = .ok (.if_icmp .ne 9, 3) := by decide +kernel
theorem dX4_readLine_15 : decode cX4_readLine 15 = .ok (.aload_n 0, 1) := by decide +kernel
theorem dX4_readLine_16 : decode cX4_readLine 16 = .ok (.iconst 1, 1) := by decide +kernel
theorem dX4_readLine_17 : decode cX4_readLine 17 = .ok (.invokevirtual 45, 3) := by decide +kernel
theorem dX4_readLine_20 : decode cX4_readLine 20 = .ok (.ireturn, 1) := by decide +kernel
theorem dX4_readLine_21 : decode cX4_readLine 21 = .ok (.iload_n 2, 1) := by decide +kernel
theorem dX4_readLine_22 : decode cX4_readLine 22 = .ok (.ifCond .ne 24, 3) := by decide +kernel
theorem dX4_readLine_25 : decode cX4_readLine 25 = .ok (.aload_n 1, 1) := by decide +kernel
theorem dX4_readLine_26 : decode cX4_readLine 26 = .ok (.invokevirtual 59, 3) := by decide +kernel
theorem dX4_readLine_29 : decode cX4_readLine 29 = .ok (.ifCond .eq 11, 3) := by decide +kernel
theorem dX4_readLine_32 : decode cX4_readLine 32 = .ok (.aload_n 0, 1) := by decide +kernel
theorem dX4_readLine_33 : decode cX4_readLine 33 = .ok (.iconst 3, 1) := by decide +kernel
theorem dX4_readLine_34 : decode cX4_readLine 34 = .ok (.invokevirtual 45, 3) := by decide +kernel
theorem dX4_readLine_37 : decode cX4_readLine 37 = .ok (.goto 8, 3) := by decide +kernel
theorem dX4_readLine_40 : decode cX4_readLine 40 = .ok (.aload_n 0, 1) := by decide +kernel
theorem dX4_readLine_41 : decode cX4_readLine 41 = .ok (.aload_n 1, 1) := by decide +kernel
theorem dX4_readLine_42 : decode cX4_readLine 42 = .ok (.invokevirtual 62, 3) := by decide +kernel
theorem dX4_readLine_45 : decode cX4_readLine 45 = .ok (.ireturn, 1) := by decide +kernel
theorem dX4_readLine_46 : decode cX4_readLine 46 = .ok (.aload_n 1, 1) := by decide +kernel
theorem dX4_readLine_47 : decode cX4_readLine 47 = .ok (.invokevirtual 59, 3) := by decide +kernel
theorem dX4_readLine_50 : decode cX4_readLine 50 = .ok (.ifCond .ne 10, 3) := by decide +kernel
theorem dX4_readLine_53 : decode cX4_readLine 53 = .ok (.aload_n 0, 1) := by decide +kernel
theorem dX4_readLine_54 : decode cX4_readLine 54 = .ok (.bipush 6, 2) := by decide +kernel
theorem dX4_readLine_56 : decode cX4_readLine 56 = .ok (.invokevirtual 45, 3) := by decide +kernel
theorem dX4_readLine_59 : decode cX4_readLine 59 = .ok (.ireturn, 1) := by decide +kernel
theorem dX4_readLine_60 : decode cX4_readLine 60 = .ok (.iload_n 2, 1) := by decide +kernel
theorem dX4_readLine_61 : decode cX4_readLine 61 = .ok (.iconst 5, 1) := by decide +kernel
theorem dX4_readLine_62 : decode cX4_readLine 62 = .ok (.if_icmp .ne 16, 3) := by decide +kernel
theorem dX4_readLine_65 : decode cX4_readLine 65 = .ok (.aload_n 1, 1) := by decide +kernel
theorem dX4_readLine_66 : decode cX4_readLine 66 = .ok (.invokevirtual 65, 3) := by decide +kernel
theorem dX4_readLine_69 : decode cX4_readLine 69 = .ok (.ifCond .eq 9, 3) := by decide +kernel
theorem dX4_readLine_72 : decode cX4_readLine 72 = .ok (.aload_n 0, 1) := by decide +kernel
theorem dX4_readLine_73 : decode cX4_readLine 73 = .ok (.iconst 3, 1) := by decide +kernel
theorem dX4_readLine_74 : decode cX4_readLine 74 = .ok (.invokevirtual 45, 3) := by decide +kernel
theorem dX4_readLine_77 : decode cX4_readLine 77 = .ok (.ireturn, 1) := by decide +kernel
theorem dX4_readLine_78 : decode cX4_readLine 78 = .ok (.aload_n 1, 1) := by decide +kernel
theorem dX4_readLine_79 : decode cX4_readLine 79 = .ok (.iload_n 2, 1) := by decide +kernel
theorem dX4_readLine_80 : decode cX4_readLine 80 = .ok (.invokevirtual 68, 3) := by decide +kernel
theorem dX4_readLine_83 : decode cX4_readLine 83 = .ok (.ifCond .ne 9, 3) := by decide +kernel
theorem dX4_readLine_86 : decode cX4_readLine 86 = .ok (.aload_n 0, 1) := by decide +kernel
theorem dX4_readLine_87 : decode cX4_readLine 87 = .ok (.iconst 5, 1) := by decide +kernel
theorem dX4_readLine_88 : decode cX4_readLine 88 = .ok (.invokevirtual 45, 3) := by decide +kernel
theorem dX4_readLine_91 : decode cX4_readLine 91 = .ok (.ireturn, 1) := by decide +kernel
theorem dX4_readLine_92 : decode cX4_readLine 92 = .ok (.aload_n 0, 1) := by decide +kernel
theorem dX4_readLine_93 : decode cX4_readLine 93 = .ok (.getfield 9, 3) := by decide +kernel
theorem dX4_readLine_96 : decode cX4_readLine 96 = .ok (.invokevirtual 71, 3) := by decide +kernel
theorem dX4_readLine_99 : decode cX4_readLine 99 = .ok (.iload_n 2, 1) := by decide +kernel
theorem dX4_readLine_100 : decode cX4_readLine 100 = .ok (.tableswitch 101 1 7 #[44, 55, 66, 77, 83, 89, 95], 44) := by decide +kernel
theorem dX4_readLine_144 : decode cX4_readLine 144 = .ok (.aload_n 0, 1) := by decide +kernel
theorem dX4_readLine_145 : decode cX4_readLine 145 = .ok (.aload_n 1, 1) := by decide +kernel
theorem dX4_readLine_146 : decode cX4_readLine 146 = .ok (.aload_n 1, 1) := by decide +kernel
theorem dX4_readLine_147 : decode cX4_readLine 147 = .ok (.getfield 74, 3) := by decide +kernel
theorem dX4_readLine_150 : decode cX4_readLine 150 = .ok (.iconst 0, 1) := by decide +kernel
theorem dX4_readLine_151 : decode cX4_readLine 151 = .ok (.invokevirtual 78, 3) := by decide +kernel
theorem dX4_readLine_154 : decode cX4_readLine 154 = .ok (.ireturn, 1) := by decide +kernel
theorem dX4_readLine_155 : decode cX4_readLine 155 = .ok (.aload_n 0, 1) := by decide +kernel
theorem dX4_readLine_156 : decode cX4_readLine 156 = .ok (.aload_n 1, 1) := by decide +kernel
theorem dX4_readLine_157 : decode cX4_readLine 157 = .ok (.aload_n 1, 1) := by decide +kernel
theorem dX4_readLine_158 : decode cX4_readLine 158 = .ok (.getfield 82, 3) := by decide +kernel
theorem dX4_readLine_161 : decode cX4_readLine 161 = .ok (.iconst 1, 1) := by decide +kernel
theorem dX4_readLine_162 : decode cX4_readLine 162 = .ok (.invokevirtual 78, 3) := by decide +kernel
theorem dX4_readLine_165 : decode cX4_readLine 165 = .ok (.ireturn, 1) := by decide +kernel
theorem dX4_readLine_166 : decode cX4_readLine 166 = .ok (.aload_n 0, 1) := by decide +kernel
theorem dX4_readLine_167 : decode cX4_readLine 167 = .ok (.aload_n 1, 1) := by decide +kernel
theorem dX4_readLine_168 : decode cX4_readLine 168 = .ok (.aload_n 1, 1) := by decide +kernel
theorem dX4_readLine_169 : decode cX4_readLine 169 = .ok (.getfield 85, 3) := by decide +kernel
theorem dX4_readLine_172 : decode cX4_readLine 172 = .ok (.iconst 1, 1) := by decide +kernel
theorem dX4_readLine_173 : decode cX4_readLine 173 = .ok (.invokevirtual 78, 3) := by decide +kernel
theorem dX4_readLine_176 : decode cX4_readLine 176 = .ok (.ireturn, 1) := by decide +kernel
theorem dX4_readLine_177 : decode cX4_readLine 177 = .ok (.aload_n 0, 1) := by decide +kernel
theorem dX4_readLine_178 : decode cX4_readLine 178 = .ok (.aload_n 1, 1) := by decide +kernel
theorem dX4_readLine_179 : decode cX4_readLine 179 = .ok (.invokevirtual 88, 3) := by decide +kernel
theorem dX4_readLine_182 : decode cX4_readLine 182 = .ok (.ireturn, 1) := by decide +kernel
theorem dX4_readLine_183 : decode cX4_readLine 183 = .ok (.aload_n 0, 1) := by decide +kernel
theorem dX4_readLine_184 : decode cX4_readLine 184 = .ok (.aload_n 1, 1) := by decide +kernel
theorem dX4_readLine_185 : decode cX4_readLine 185 = .ok (.invokevirtual 91, 3) := by decide +kernel
theorem dX4_readLine_188 : decode cX4_readLine 188 = .ok (.ireturn, 1) := by decide +kernel
theorem dX4_readLine_189 : decode cX4_readLine 189 = .ok (.aload_n 0, 1) := by decide +kernel
theorem dX4_readLine_190 : decode cX4_readLine 190 = .ok (.aload_n 1, 1) := by decide +kernel
theorem dX4_readLine_191 : decode cX4_readLine 191 = .ok (.invokevirtual 94, 3) := by decide +kernel
theorem dX4_readLine_194 : decode cX4_readLine 194 = .ok (.ireturn, 1) := by decide +kernel
theorem dX4_readLine_195 : decode cX4_readLine 195 = .ok (.aload_n 0, 1) := by decide +kernel
theorem dX4_readLine_196 : decode cX4_readLine 196 = .ok (.aload_n 1, 1) := by decide +kernel
theorem dX4_readLine_197 : decode cX4_readLine 197 = .ok (.invokevirtual 97, 3) := by decide +kernel
theorem dX4_readLine_200 : decode cX4_readLine 200 = .ok (.ireturn, 1) := by decide +kernel
theorem dX4_readLine_201 : decode cX4_readLine 201 = .ok (.aload_n 0, 1) := by decide +kernel
theorem dX4_readLine_202 : decode cX4_readLine 202 = .ok (.iconst 1, 1) := by decide +kernel
theorem dX4_readLine_203 : decode cX4_readLine 203 = .ok (.invokevirtual 45, 3) := by decide +kernel
theorem dX4_readLine_206 : decode cX4_readLine 206 = .ok (.ireturn, 1) := by decide +kernel
theorem dX4_readSizes_0 : decode cX4_readSizes 0 = .ok (.aload_n 0, 1) := by decide +kernel
theorem dX4_readSizes_1 : decode cX4_readSizes 1 = .ok (.getfield 9, 3) := by decide +kernel
theorem dX4_readSizes_4 : decode cX4_readSizes 4 = .ok (.invokevirtual 71, 3) := by decide +kernel
theorem dX4_readSizes_7 : decode cX4_readSizes 7 = .ok (.aload_n 0, 1) := by decide +kernel
theorem dX4_readSizes_8 : decode cX4_readSizes 8 = .ok (.ldc 100, 2) := by decide +kernel
theorem dX4_readSizes_10 : decode cX4_readSizes 10 = .ok (.iconst 2, 1) := by decide +kernel
theorem dX4_readSizes_11 : decode cX4_readSizes 11 = .ok (.bipush 8, 2) := by decide +kernel
theorem dX4_readSizes_13 : decode cX4_readSizes 13 = .ok (.invokevirtual 102, 3) := by decide +kernel
theorem dX4_readSizes_16 : decode cX4_readSizes 16 = .ok (.ifCond .ne 5, 3) := by decide +kernel
theorem dX4_readSizes_19 : decode cX4_readSizes 19 = .ok (.iconst 0, 1) := by decide +kernel
theorem dX4_readSizes_20 : decode cX4_readSizes 20 = .ok (.ireturn, 1) := by decide +kernel
theorem dX4_readSizes_21 : decode cX4_readSizes 21 = .ok (.aload_n 0, 1) := by decide +kernel
theorem dX4_readSizes_22 : decode cX4_readSizes 22 = .ok (.getfield 106, 3) := by decide +kernel
theorem dX4_readSizes_25 : decode cX4_readSizes 25 = .ok (.istore_n 2, 1) := by decide +kernel
theorem dX4_readSizes_26 : decode cX4_readSizes 26 = .ok (.aload_n 0, 1) := by decide +kernel
theorem dX4_readSizes_27 : decode cX4_readSizes 27 = .ok (.ldc 109, 2) := by decide +kernel
theorem dX4_readSizes_29 : decode cX4_readSizes 29 = .ok (.iconst 2, 1) := by decide +kernel
theorem dX4_readSizes_30 : decode cX4_readSizes 30 = .ok (.bipush 6, 2) := by decide +kernel
theorem dX4_readSizes_32 : decode cX4_readSizes 32 = .ok (.invokevirtual 102, 3) := by decide +kernel
theorem dX4_readSizes_35 : decode cX4_readSizes 35 = .ok (.ifCond .ne 5, 3) := by decide +kernel
theorem dX4_readSizes_38 : decode cX4_readSizes 38 = .ok (.iconst 0, 1) := by decide +kernel
theorem dX4_readSizes_39 : decode cX4_readSizes 39 = .ok (.ireturn, 1) := by decide +kernel
theorem dX4_readSizes_40 : decode cX4_readSizes 40 = .ok (.aload_n 0, 1) := by decide +kernel
theorem dX4_readSizes_41 : decode cX4_readSizes 41 = .ok (.getfield 106, 3) := by decide +kernel
theorem dX4_readSizes_44 : decode cX4_readSizes 44 = .ok (.istore_n 3, 1) := by decide +kernel
theorem dX4_readSizes_45 : decode cX4_readSizes 45 = .ok (.aload_n 0, 1) := by decide +kernel
theorem dX4_readSizes_46 : decode cX4_readSizes 46 = .ok (.ldc 111, 2) := by decide +kernel
theorem dX4_readSizes_48 : decode cX4_readSizes 48 = .ok (.iconst 1, 1) := by decide +kernel
theorem dX4_readSizes_49 : decode cX4_readSizes 49 = .ok (.sipush 200, 3) := by decide +kernel
theorem dX4_readSizes_52 : decode cX4_readSizes 52 = .ok (.invokevirtual 102, 3) := by decide +kernel
theorem dX4_readSizes_55 : decode cX4_readSizes 55 = .ok (.ifCond .ne 5, 3) := by decide +kernel
theorem dX4_readSizes_58 : decode cX4_readSizes 58 = .ok (.iconst 0, 1) := by decide +kernel
theorem dX4_readSizes_59 : decode cX4_readSizes 59 = .ok (.ireturn, 1) := by decide +kernel
theorem dX4_readSizes_60 : decode cX4_readSizes 60 = .ok (.aload_n 0, 1) := by decide +kernel
theorem dX4_readSizes_61 : decode cX4_readSizes 61 = .ok (.getfield 106, 3) := by decide +kernel
theorem dX4_readSizes_64 : decode cX4_readSizes 64 = .ok (.istore 4, 2) := by decide +kernel
theorem dX4_readSizes_66 : decode cX4_readSizes 66 = .ok (.aload_n 0, 1) := by decide +kernel
theorem dX4_readSizes_67 : decode cX4_readSizes 67 = .ok (.ldc 113, 2) := by decide +kernel
theorem dX4_readSizes_69 : decode cX4_readSizes 69 = .ok (.iconst 0, 1) := by decide +kernel
theorem dX4_readSizes_70 : decode cX4_readSizes 70 = .ok (.bipush 99, 2) := by decide +kernel
theorem dX4_readSizes_72 : decode cX4_readSizes 72 = .ok (.invokevirtual 102, 3) := by decide +kernel
theorem dX4_readSizes_75 : decode cX4_readSizes 75 = .ok (.ifCond .ne 5, 3) := by decide +kernel
theorem dX4_readSizes_78 : decode cX4_readSizes 78 = .ok (.iconst 0, 1) := by decide +kernel
theorem dX4_readSizes_79 : decode cX4_readSizes 79 = .ok (.ireturn, 1) := by decide +kernel
theorem dX4_readSizes_80 : decode cX4_readSizes 80 = .ok (.aload_n 0, 1) := by decide +kernel
theorem dX4_readSizes_81 : decode cX4_readSizes 81 = .ok (.getfield 106, 3) := by decide +kernel
theorem dX4_readSizes_84 : decode cX4_readSizes 84 = .ok (.istore 5, 2) := by decide +kernel
theorem dX4_readSizes_86 : decode cX4_readSizes 86 = .ok (.aload_n 0, 1) := by decide +kernel
theorem dX4_readSizes_87 : decode cX4_readSizes 87 = .ok (.ldc 115, 2) := by decide +kernel
theorem dX4_readSizes_89 : decode cX4_readSizes 89 = .ok (.iconst 1, 1) := by decide +kernel
theorem dX4_readSizes_90 : decode cX4_readSizes 90 = .ok (.iconst 4, 1) := by decide +kernel
theorem dX4_readSizes_91 : decode cX4_readSizes 91 = .ok (.invokevirtual 102, 3) := by decide +kernel
theorem dX4_readSizes_94 : decode cX4_readSizes 94 = .ok (.ifCond .ne 5, 3) := by decide +kernel
theorem dX4_readSizes_97 : decode cX4_readSizes 97 = .ok (.iconst 0, 1) := by decide +kernel
theorem dX4_readSizes_98 : decode cX4_readSizes 98 = .ok (.ireturn, 1) := by decide +kernel
theorem dX4_readSizes_99 : decode cX4_readSizes 99 = .ok (.aload_n 1, 1) := by decide +kernel
theorem dX4_readSizes_100 : decode cX4_readSizes 100 = .ok (.iload_n 2, 1) := by decide +kernel
theorem dX4_readSizes_101 : decode cX4_readSizes 101 = .ok (.iload_n 3, 1) := by decide +kernel
theorem dX4_readSizes_102 : decode cX4_readSizes 102 = .ok (.iload 4, 2) := by decide +kernel
theorem dX4_readSizes_104 : decode cX4_readSizes 104 = .ok (.iload 5, 2) := by decide +kernel
theorem dX4_readSizes_106 : decode cX4_readSizes 106 = .ok (.aload_n 0, 1) := by decide +kernel
theorem dX4_readSizes_107 : decode cX4_readSizes 107 = .ok (.getfield 106, 3) := by decide +kernel
theorem dX4_readSizes_110 : decode cX4_readSizes 110 = .ok (.invokevirtual 117, 3) := by decide +kernel
theorem dX4_readSizes_113 : decode cX4_readSizes 113 = .ok (.iconst 1, 1) := by decide +kernel
theorem dX4_readSizes_114 : decode cX4_readSizes 114 = .ok (.ireturn, 1) := by decide +kernel
theorem dX4_readRow_0 : decode cX4_readRow 0 = .ok (.aload_n 0, 1) := by decide +kernel
theorem dX4_readRow_1 : decode cX4_readRow 1 = .ok (.getfield 9, 3) := by decide +kernel
theorem dX4_readRow_4 : decode cX4_readRow 4 = .ok (.invokevirtual 37, 3) := by decide +kernel
theorem dX4_readRow_7 : decode cX4_readRow 7 = .ok (.iconst 1, 1) := by decide +kernel
theorem dX4_readRow_8 : decode cX4_readRow 8 = .ok (.if_icmp .eq 9, 3) := by decide +kernel
theorem dX4_readRow_11 : decode cX4_readRow 11 = .ok (.aload_n 0, 1) := by decide +kernel
theorem dX4_readRow_12 : decode cX4_readRow 12 = .ok (.iconst 1, 1) := by decide +kernel
theorem dX4_readRow_13 : decode cX4_readRow 13 = .ok (.invokevirtual 45, 3) := by decide +kernel
theorem dX4_readRow_16 : decode cX4_readRow 16 = .ok (.ireturn, 1) := by decide +kernel
theorem dX4_readRow_17 : decode cX4_readRow 17 = .ok (.aload_n 1, 1) := by decide +kernel
theorem dX4_readRow_18 : decode cX4_readRow 18 = .ok (.getfield 121, 3) := by decide +kernel
theorem dX4_readRow_21 : decode cX4_readRow 21 = .ok (.getfield 125, 3) := by decide +kernel
theorem dX4_readRow_24 : decode cX4_readRow 24 = .ok (.istore 4, 2) := by decide +kernel
theorem dX4_readRow_26 : decode cX4_readRow 26 = .ok (.aload_n 0, 1) := by decide +kernel
theorem dX4_readRow_27 : decode cX4_readRow 27 = .ok (.getfield 9, 3) := by decide +kernel
theorem dX4_readRow_30 : decode cX4_readRow 30 = .ok (.invokevirtual 129, 3) := by decide +kernel
theorem dX4_readRow_33 : decode cX4_readRow 33 = .ok (.iload 4, 2) := by decide +kernel
theorem dX4_readRow_35 : decode cX4_readRow 35 = .ok (.if_icmp .eq 10, 3) := by decide +kernel
theorem dX4_readRow_38 : decode cX4_readRow 38 = .ok (.aload_n 0, 1) := by decide +kernel
theorem dX4_readRow_39 : decode cX4_readRow 39 = .ok (.bipush 7, 2) := by decide +kernel
theorem dX4_readRow_41 : decode cX4_readRow 41 = .ok (.invokevirtual 45, 3) := by decide +kernel
theorem dX4_readRow_44 : decode cX4_readRow 44 = .ok (.ireturn, 1) := by decide +kernel
theorem dX4_readRow_45 : decode cX4_readRow 45 = .ok (.iconst 0, 1) := by decide +kernel
theorem dX4_readRow_46 : decode cX4_readRow 46 = .ok (.istore 5, 2) := by decide +kernel
theorem dX4_readRow_48 : decode cX4_readRow 48 = .ok (.iload 5, 2) := by decide +kernel
theorem dX4_readRow_50 : decode cX4_readRow 50 = .ok (.iload 4, 2) := by decide +kernel
theorem dX4_readRow_52 : decode cX4_readRow 52 = .ok (.if_icmp .ge 71, 3) := by decide +kernel
theorem dX4_readRow_55 : decode cX4_readRow 55 = .ok (.aload_n 0, 1) := by decide +kernel
theorem dX4_readRow_56 : decode cX4_readRow 56 = .ok (.getfield 9, 3) := by decide +kernel
theorem dX4_readRow_59 : decode cX4_readRow 59 = .ok (.iload 5, 2) := by decide +kernel
theorem dX4_readRow_61 : decode cX4_readRow 61 = .ok (.invokevirtual 132, 3) := by decide +kernel
theorem dX4_readRow_64 : decode cX4_readRow 64 = .ok (.istore 6, 2) := by decide +kernel
theorem dX4_readRow_66 : decode cX4_readRow 66 = .ok (.iload 6, 2) := by decide +kernel
theorem dX4_readRow_68 : decode cX4_readRow 68 = .ok (.bipush 109, 2) := by decide +kernel
theorem dX4_readRow_70 : decode cX4_readRow 70 = .ok (.if_icmp .eq 28, 3) := by decide +kernel
theorem dX4_readRow_73 : decode cX4_readRow 73 = .ok (.iload 6, 2) := by decide +kernel
theorem dX4_readRow_75 : decode cX4_readRow 75 = .ok (.bipush 115, 2) := by decide +kernel
theorem dX4_readRow_77 : decode cX4_readRow 77 = .ok (.if_icmp .eq 21, 3) := by decide +kernel
theorem dX4_readRow_80 : decode cX4_readRow 80 = .ok (.iload_n 3, 1) := by decide +kernel
theorem dX4_readRow_81 : decode cX4_readRow 81 = .ok (.ifCond .eq 10, 3) := by decide +kernel
theorem dX4_readRow_84 : decode cX4_readRow 84 = .ok (.iload 6, 2) := by decide +kernel
theorem dX4_readRow_86 : decode cX4_readRow 86 = .ok (.bipush 97, 2) := by decide +kernel
theorem dX4_readRow_88 : decode cX4_readRow 88 = .ok (.if_icmp .eq 10, 3) := by decide +kernel
theorem dX4_readRow_91 : decode cX4_readRow 91 = .ok (.aload_n 0, 1) := by decide +kernel
theorem dX4_readRow_92 : decode cX4_readRow 92 = .ok (.bipush 7, 2) := by decide +kernel
theorem dX4_readRow_94 : decode cX4_readRow 94 = .ok (.invokevirtual 45, 3) := by decide +kernel
theorem dX4_readRow_97 : decode cX4_readRow 97 = .ok (.ireturn, 1) := by decide +kernel
theorem dX4_readRow_98 : decode cX4_readRow 98 = .ok (.aload_n 2, 1) := by decide +kernel
theorem dX4_readRow_99 : decode cX4_readRow 99 = .ok (.aload_n 1, 1) := by decide +kernel
theorem dX4_readRow_100 : decode cX4_readRow 100 = .ok (.getfield 121, 3) := by decide +kernel
theorem dX4_readRow_103 : decode cX4_readRow 103 = .ok (.iload 5, 2) := by decide +kernel
theorem dX4_readRow_105 : decode cX4_readRow 105 = .ok (.aload_n 2, 1) := by decide +kernel
theorem dX4_readRow_106 : decode cX4_readRow 106 = .ok (.getfield 136, 3) := by decide +kernel
theorem dX4_readRow_109 : decode cX4_readRow 109 = .ok (.invokevirtual 141, 3) := by decide +kernel
theorem dX4_readRow_112 : decode cX4_readRow 112 = .ok (.iload 6, 2) := by decide +kernel
theorem dX4_readRow_114 : decode cX4_readRow 114 = .ok (.invokevirtual 144, 3) := by decide +kernel
theorem dX4_readRow_117 : decode cX4_readRow 117 = .ok (.iinc 5 1, 3) := by decide +kernel
theorem dX4_readRow_120 : decode cX4_readRow 120 = .ok (.goto (-72), 3) := by decide +kernel
theorem dX4_readRow_123 : decode cX4_readRow 123 = .ok (.aload_n 2, 1) := by decide +kernel
theorem dX4_readRow_124 : decode cX4_readRow 124 = .ok (.dup, 1) := by decide +kernel
theorem dX4_readRow_125 : decode cX4_readRow 125 = .ok (.getfield 136, 3) := by decide +kernel
theorem dX4_readRow_128 : decode cX4_readRow 128 = .ok (.iconst 1, 1) := by decide +kernel
theorem dX4_readRow_129 : decode cX4_readRow 129 = .ok (.iadd, 1) := by decide +kernel
theorem dX4_readRow_130 : decode cX4_readRow 130 = .ok (.putfield 136, 3) := by decide +kernel
theorem dX4_readRow_133 : decode cX4_readRow 133 = .ok (.aload_n 0, 1) := by decide +kernel
theorem dX4_readRow_134 : decode cX4_readRow 134 = .ok (.getfield 9, 3) := by decide +kernel
theorem dX4_readRow_137 : decode cX4_readRow 137 = .ok (.invokevirtual 71, 3) := by decide +kernel
theorem dX4_readRow_140 : decode cX4_readRow 140 = .ok (.iconst 1, 1) := by decide +kernel
theorem dX4_readRow_141 : decode cX4_readRow 141 = .ok (.ireturn, 1) := by decide +kernel
theorem dX4_readGate_0 : decode cX4_readGate 0 = .ok (.aload_n 0, 1) := by decide +kernel
theorem dX4_readGate_1 : decode cX4_readGate 1 = .ok (.aload_n 1, 1) := by decide +kernel
theorem dX4_readGate_2 : decode cX4_readGate 2 = .ok (.getfield 121, 3) := by decide +kernel
theorem dX4_readGate_5 : decode cX4_readGate 5 = .ok (.invokevirtual 148, 3) := by decide +kernel
theorem dX4_readGate_8 : decode cX4_readGate 8 = .ok (.ifCond .ne 5, 3) := by decide +kernel
theorem dX4_readGate_11 : decode cX4_readGate 11 = .ok (.iconst 0, 1) := by decide +kernel
theorem dX4_readGate_12 : decode cX4_readGate 12 = .ok (.ireturn, 1) := by decide +kernel
theorem dX4_readGate_13 : decode cX4_readGate 13 = .ok (.aload_n 1, 1) := by decide +kernel
theorem dX4_readGate_14 : decode cX4_readGate 14 = .ok (.getfield 152, 3) := by decide +kernel
theorem dX4_readGate_17 : decode cX4_readGate 17 = .ok (.aload_n 0, 1) := by decide +kernel
theorem dX4_readGate_18 : decode cX4_readGate 18 = .ok (.getfield 156, 3) := by decide +kernel
theorem dX4_readGate_21 : decode cX4_readGate 21 = .ok (.invokestatic 159, 3) := by decide +kernel
theorem dX4_readGate_24 : decode cX4_readGate 24 = .ok (.ifCond .eq 13, 3) := by decide +kernel
theorem dX4_readGate_27 : decode cX4_readGate 27 = .ok (.aload_n 0, 1) := by decide +kernel
theorem dX4_readGate_28 : decode cX4_readGate 28 = .ok (.iconst 3, 1) := by decide +kernel
theorem dX4_readGate_29 : decode cX4_readGate 29 = .ok (.aload_n 0, 1) := by decide +kernel
theorem dX4_readGate_30 : decode cX4_readGate 30 = .ok (.getfield 163, 3) := by decide +kernel
theorem dX4_readGate_33 : decode cX4_readGate 33 = .ok (.invokevirtual 166, 3) := by decide +kernel
theorem dX4_readGate_36 : decode cX4_readGate 36 = .ok (.ireturn, 1) := by decide +kernel
theorem dX4_readGate_37 : decode cX4_readGate 37 = .ok (.aload_n 1, 1) := by decide +kernel
theorem dX4_readGate_38 : decode cX4_readGate 38 = .ok (.aload_n 0, 1) := by decide +kernel
theorem dX4_readGate_39 : decode cX4_readGate 39 = .ok (.getfield 156, 3) := by decide +kernel
theorem dX4_readGate_42 : decode cX4_readGate 42 = .ok (.invokevirtual 170, 3) := by decide +kernel
theorem dX4_readGate_45 : decode cX4_readGate 45 = .ok (.iconst 1, 1) := by decide +kernel
theorem dX4_readGate_46 : decode cX4_readGate 46 = .ok (.ireturn, 1) := by decide +kernel
theorem dX4_readNoise_0 : decode cX4_readNoise 0 = .ok (.aload_n 0, 1) := by decide +kernel
theorem dX4_readNoise_1 : decode cX4_readNoise 1 = .ok (.aload_n 1, 1) := by decide +kernel
theorem dX4_readNoise_2 : decode cX4_readNoise 2 = .ok (.getfield 121, 3) := by decide +kernel
theorem dX4_readNoise_5 : decode cX4_readNoise 5 = .ok (.invokevirtual 148, 3) := by decide +kernel
theorem dX4_readNoise_8 : decode cX4_readNoise 8 = .ok (.ifCond .ne 5, 3) := by decide +kernel
theorem dX4_readNoise_11 : decode cX4_readNoise 11 = .ok (.iconst 0, 1) := by decide +kernel
theorem dX4_readNoise_12 : decode cX4_readNoise 12 = .ok (.ireturn, 1) := by decide +kernel
theorem dX4_readNoise_13 : decode cX4_readNoise 13 = .ok (.aload_n 1, 1) := by decide +kernel
theorem dX4_readNoise_14 : decode cX4_readNoise 14 = .ok (.aload_n 0, 1) := by decide +kernel
theorem dX4_readNoise_15 : decode cX4_readNoise 15 = .ok (.getfield 156, 3) := by decide +kernel
theorem dX4_readNoise_18 : decode cX4_readNoise 18 = .ok (.putfield 173, 3) := by decide +kernel
theorem dX4_readNoise_21 : decode cX4_readNoise 21 = .ok (.iconst 1, 1) := by decide +kernel
theorem dX4_readNoise_22 : decode cX4_readNoise 22 = .ok (.ireturn, 1) := by decide +kernel
theorem dX4_readHeard_0 : decode cX4_readHeard 0 = .ok (.aload_n 0, 1) := by decide +kernel
theorem dX4_readHeard_1 : decode cX4_readHeard 1 = .ok (.iconst 0, 1) := by decide +kernel
theorem dX4_readHeard_2 : decode cX4_readHeard 2 = .ok (.bipush 60, 2) := by decide +kernel
theorem dX4_readHeard_4 : decode cX4_readHeard 4 = .ok (.invokevirtual 176, 3) := by decide +kernel
theorem dX4_readHeard_7 : decode cX4_readHeard 7 = .ok (.ifCond .ne 5, 3) := by decide +kernel
theorem dX4_readHeard_10 : decode cX4_readHeard 10 = .ok (.iconst 0, 1) := by decide +kernel
theorem dX4_readHeard_11 : decode cX4_readHeard 11 = .ok (.ireturn, 1) := by decide +kernel
theorem dX4_readHeard_12 : decode cX4_readHeard 12 = .ok (.aload_n 0, 1) := by decide +kernel
theorem dX4_readHeard_13 : decode cX4_readHeard 13 = .ok (.getfield 106, 3) := by decide +kernel
theorem dX4_readHeard_16 : decode cX4_readHeard 16 = .ok (.istore_n 2, 1) := by decide +kernel
theorem dX4_readHeard_17 : decode cX4_readHeard 17 = .ok (.aload_n 0, 1) := by decide +kernel
theorem dX4_readHeard_18 : decode cX4_readHeard 18 = .ok (.ldc 179, 2) := by decide +kernel
theorem dX4_readHeard_20 : decode cX4_readHeard 20 = .ok (.invokevirtual 181, 3) := by decide +kernel
theorem dX4_readHeard_23 : decode cX4_readHeard 23 = .ok (.ifCond .eq 14, 3) := by decide +kernel
theorem dX4_readHeard_26 : decode cX4_readHeard 26 = .ok (.aload_n 0, 1) := by decide +kernel
theorem dX4_readHeard_27 : decode cX4_readHeard 27 = .ok (.aload_n 1, 1) := by decide +kernel
theorem dX4_readHeard_28 : decode cX4_readHeard 28 = .ok (.getfield 121, 3) := by decide +kernel
theorem dX4_readHeard_31 : decode cX4_readHeard 31 = .ok (.invokevirtual 148, 3) := by decide +kernel
theorem dX4_readHeard_34 : decode cX4_readHeard 34 = .ok (.ifCond .ne 5, 3) := by decide +kernel
theorem dX4_readHeard_37 : decode cX4_readHeard 37 = .ok (.iconst 0, 1) := by decide +kernel
theorem dX4_readHeard_38 : decode cX4_readHeard 38 = .ok (.ireturn, 1) := by decide +kernel
theorem dX4_readHeard_39 : decode cX4_readHeard 39 = .ok (.aload_n 1, 1) := by decide +kernel
theorem dX4_readHeard_40 : decode cX4_readHeard 40 = .ok (.iload_n 2, 1) := by decide +kernel
theorem dX4_readHeard_41 : decode cX4_readHeard 41 = .ok (.aload_n 0, 1) := by decide +kernel
theorem dX4_readHeard_42 : decode cX4_readHeard 42 = .ok (.getfield 156, 3) := by decide +kernel
theorem dX4_readHeard_45 : decode cX4_readHeard 45 = .ok (.invokevirtual 185, 3) := by decide +kernel
theorem dX4_readHeard_48 : decode cX4_readHeard 48 = .ok (.iconst 1, 1) := by decide +kernel
theorem dX4_readHeard_49 : decode cX4_readHeard 49 = .ok (.ireturn, 1) := by decide +kernel
theorem dX4_readWalker_0 : decode cX4_readWalker 0 = .ok (.aload_n 0, 1) := by decide +kernel
theorem dX4_readWalker_1 : decode cX4_readWalker 1 = .ok (.getfield 9, 3) := by decide +kernel
theorem dX4_readWalker_4 : decode cX4_readWalker 4 = .ok (.invokevirtual 37, 3) := by decide +kernel
theorem dX4_readWalker_7 : decode cX4_readWalker 7 = .ok (.iconst 1, 1) := by decide +kernel
theorem dX4_readWalker_8 : decode cX4_readWalker 8 = .ok (.if_icmp .ne 16, 3) := by decide +kernel
theorem dX4_readWalker_11 : decode cX4_readWalker 11 = .ok (.aload_n 0, 1) := by decide +kernel
theorem dX4_readWalker_12 : decode cX4_readWalker 12 = .ok (.getfield 9, 3) := by decide +kernel
theorem dX4_readWalker_15 : decode cX4_readWalker 15 = .ok (.ldc 53, 2) := by decide +kernel
theorem dX4_readWalker_17 : decode cX4_readWalker 17 = .ok (.invokevirtual 55, 3) := by decide +kernel
theorem dX4_readWalker_20 : decode cX4_readWalker 20 = .ok (.iconst (-1), 1) := by decide +kernel
theorem dX4_readWalker_21 : decode cX4_readWalker 21 = .ok (.if_icmp .eq 9, 3) := by decide +kernel
theorem dX4_readWalker_24 : decode cX4_readWalker 24 = .ok (.aload_n 0, 1) := by decide +kernel
theorem dX4_readWalker_25 : decode cX4_readWalker 25 = .ok (.iconst 1, 1) := by decide +kernel
theorem dX4_readWalker_26 : decode cX4_readWalker 26 = .ok (.invokevirtual 45, 3) := by decide +kernel
theorem dX4_readWalker_29 : decode cX4_readWalker 29 = .ok (.ireturn, 1) := by decide +kernel
theorem dX4_readWalker_30 : decode cX4_readWalker 30 = .ok (.aload_n 0, 1) := by decide +kernel
theorem dX4_readWalker_31 : decode cX4_readWalker 31 = .ok (.getfield 9, 3) := by decide +kernel
theorem dX4_readWalker_34 : decode cX4_readWalker 34 = .ok (.invokevirtual 188, 3) := by decide +kernel
theorem dX4_readWalker_37 : decode cX4_readWalker 37 = .ok (.lstore_n 2, 1) := by decide +kernel
theorem dX4_readWalker_38 : decode cX4_readWalker 38 = .ok (.aload_n 1, 1) := by decide +kernel
theorem dX4_readWalker_39 : decode cX4_readWalker 39 = .ok (.lload_n 2, 1) := by decide +kernel
theorem dX4_readWalker_40 : decode cX4_readWalker 40 = .ok (.invokevirtual 192, 3) := by decide +kernel
theorem dX4_readWalker_43 : decode cX4_readWalker 43 = .ok (.ifCond .eq 9, 3) := by decide +kernel
theorem dX4_readWalker_46 : decode cX4_readWalker 46 = .ok (.aload_n 0, 1) := by decide +kernel
theorem dX4_readWalker_47 : decode cX4_readWalker 47 = .ok (.iconst 3, 1) := by decide +kernel
theorem dX4_readWalker_48 : decode cX4_readWalker 48 = .ok (.invokevirtual 45, 3) := by decide +kernel
theorem dX4_readWalker_51 : decode cX4_readWalker 51 = .ok (.ireturn, 1) := by decide +kernel
theorem dX4_readWalker_52 : decode cX4_readWalker 52 = .ok (.aload_n 0, 1) := by decide +kernel
theorem dX4_readWalker_53 : decode cX4_readWalker 53 = .ok (.getfield 9, 3) := by decide +kernel
theorem dX4_readWalker_56 : decode cX4_readWalker 56 = .ok (.invokevirtual 71, 3) := by decide +kernel
theorem dX4_readWalker_59 : decode cX4_readWalker 59 = .ok (.aload_n 0, 1) := by decide +kernel
theorem dX4_readWalker_60 : decode cX4_readWalker 60 = .ok (.ldc 196, 2) := by decide +kernel
theorem dX4_readWalker_62 : decode cX4_readWalker 62 = .ok (.invokevirtual 198, 3) := by decide +kernel
theorem dX4_readWalker_65 : decode cX4_readWalker 65 = .ok (.ifCond .ne 5, 3) := by decide +kernel
theorem dX4_readWalker_68 : decode cX4_readWalker 68 = .ok (.iconst 0, 1) := by decide +kernel
theorem dX4_readWalker_69 : decode cX4_readWalker 69 = .ok (.ireturn, 1) := by decide +kernel
theorem dX4_readWalker_70 : decode cX4_readWalker 70 = .ok (.aload_n 0, 1) := by decide +kernel
theorem dX4_readWalker_71 : decode cX4_readWalker 71 = .ok (.getfield 106, 3) := by decide +kernel
theorem dX4_readWalker_74 : decode cX4_readWalker 74 = .ok (.istore 4, 2) := by decide +kernel
theorem dX4_readWalker_76 : decode cX4_readWalker 76 = .ok (.aload_n 0, 1) := by decide +kernel
theorem dX4_readWalker_77 : decode cX4_readWalker 77 = .ok (.ldc 201, 2) := by decide +kernel
theorem dX4_readWalker_79 : decode cX4_readWalker 79 = .ok (.invokevirtual 181, 3) := by decide +kernel
theorem dX4_readWalker_82 : decode cX4_readWalker 82 = .ok (.ifCond .eq 32, 3) := by decide +kernel
theorem dX4_readWalker_85 : decode cX4_readWalker 85 = .ok (.aload_n 0, 1) := by decide +kernel
theorem dX4_readWalker_86 : decode cX4_readWalker 86 = .ok (.aload_n 1, 1) := by decide +kernel
theorem dX4_readWalker_87 : decode cX4_readWalker 87 = .ok (.getfield 121, 3) := by decide +kernel
theorem dX4_readWalker_90 : decode cX4_readWalker 90 = .ok (.invokevirtual 148, 3) := by decide +kernel
theorem dX4_readWalker_93 : decode cX4_readWalker 93 = .ok (.ifCond .eq 21, 3) := by decide +kernel
theorem dX4_readWalker_96 : decode cX4_readWalker 96 = .ok (.aload_n 0, 1) := by decide +kernel
theorem dX4_readWalker_97 : decode cX4_readWalker 97 = .ok (.ldc 203, 2) := by decide +kernel
theorem dX4_readWalker_99 : decode cX4_readWalker 99 = .ok (.invokevirtual 181, 3) := by decide +kernel
theorem dX4_readWalker_102 : decode cX4_readWalker 102 = .ok (.ifCond .eq 12, 3) := by decide +kernel
theorem dX4_readWalker_105 : decode cX4_readWalker 105 = .ok (.aload_n 0, 1) := by decide +kernel
theorem dX4_readWalker_106 : decode cX4_readWalker 106 = .ok (.ldc 205, 2) := by decide +kernel
theorem dX4_readWalker_108 : decode cX4_readWalker 108 = .ok (.invokevirtual 198, 3) := by decide +kernel
theorem dX4_readWalker_111 : decode cX4_readWalker 111 = .ok (.ifCond .ne 5, 3) := by decide +kernel
theorem dX4_readWalker_114 : decode cX4_readWalker 114 = .ok (.iconst 0, 1) := by decide +kernel
theorem dX4_readWalker_115 : decode cX4_readWalker 115 = .ok (.ireturn, 1) := by decide +kernel
theorem dX4_readWalker_116 : decode cX4_readWalker 116 = .ok (.aload_n 0, 1) := by decide +kernel
theorem dX4_readWalker_117 : decode cX4_readWalker 117 = .ok (.getfield 106, 3) := by decide +kernel
theorem dX4_readWalker_120 : decode cX4_readWalker 120 = .ok (.istore 5, 2) := by decide +kernel
theorem dX4_readWalker_122 : decode cX4_readWalker 122 = .ok (.aload_n 0, 1) := by decide +kernel
theorem dX4_readWalker_123 : decode cX4_readWalker 123 = .ok (.ldc 207, 2) := by decide +kernel
theorem dX4_readWalker_125 : decode cX4_readWalker 125 = .ok (.iconst 0, 1) := by decide +kernel
theorem dX4_readWalker_126 : decode cX4_readWalker 126 = .ok (.bipush 99, 2) := by decide +kernel
theorem dX4_readWalker_128 : decode cX4_readWalker 128 = .ok (.invokevirtual 102, 3) := by decide +kernel
theorem dX4_readWalker_131 : decode cX4_readWalker 131 = .ok (.ifCond .ne 5, 3) := by decide +kernel
theorem dX4_readWalker_134 : decode cX4_readWalker 134 = .ok (.iconst 0, 1) := by decide +kernel
theorem dX4_readWalker_135 : decode cX4_readWalker 135 = .ok (.ireturn, 1) := by decide +kernel
theorem dX4_readWalker_136 : decode cX4_readWalker 136 = .ok (.aload_n 1, 1) := by decide +kernel
theorem dX4_readWalker_137 : decode cX4_readWalker 137 = .ok (.lload_n 2, 1) := by decide +kernel
theorem dX4_readWalker_138 : decode cX4_readWalker 138 = .ok (.iload 4, 2) := by decide +kernel
theorem dX4_readWalker_140 : decode cX4_readWalker 140 = .ok (.aload_n 0, 1) := by decide +kernel
theorem dX4_readWalker_141 : decode cX4_readWalker 141 = .ok (.getfield 156, 3) := by decide +kernel
theorem dX4_readWalker_144 : decode cX4_readWalker 144 = .ok (.iload 5, 2) := by decide +kernel
theorem dX4_readWalker_146 : decode cX4_readWalker 146 = .ok (.aload_n 0, 1) := by decide +kernel
theorem dX4_readWalker_147 : decode cX4_readWalker 147 = .ok (.getfield 106, 3) := by decide +kernel
theorem dX4_readWalker_150 : decode cX4_readWalker 150 = .ok (.invokevirtual 209, 3) := by decide +kernel
theorem dX4_readWalker_153 : decode cX4_readWalker 153 = .ok (.iconst 1, 1) := by decide +kernel
theorem dX4_readWalker_154 : decode cX4_readWalker 154 = .ok (.ireturn, 1) := by decide +kernel
theorem dX4_takeSign_0 : decode cX4_takeSign 0 = .ok (.aload_n 0, 1) := by decide +kernel
theorem dX4_takeSign_1 : decode cX4_takeSign 1 = .ok (.getfield 9, 3) := by decide +kernel
theorem dX4_takeSign_4 : decode cX4_takeSign 4 = .ok (.iload_n 1, 1) := by decide +kernel
theorem dX4_takeSign_5 : decode cX4_takeSign 5 = .ok (.invokevirtual 213, 3) := by decide +kernel
theorem dX4_takeSign_8 : decode cX4_takeSign 8 = .ok (.ifCond .ne 9, 3) := by decide +kernel
theorem dX4_takeSign_11 : decode cX4_takeSign 11 = .ok (.aload_n 0, 1) := by decide +kernel
theorem dX4_takeSign_12 : decode cX4_takeSign 12 = .ok (.iconst 1, 1) := by decide +kernel
theorem dX4_takeSign_13 : decode cX4_takeSign 13 = .ok (.invokevirtual 45, 3) := by decide +kernel
theorem dX4_takeSign_16 : decode cX4_takeSign 16 = .ok (.ireturn, 1) := by decide +kernel
theorem dX4_takeSign_17 : decode cX4_takeSign 17 = .ok (.aload_n 0, 1) := by decide +kernel
theorem dX4_takeSign_18 : decode cX4_takeSign 18 = .ok (.getfield 9, 3) := by decide +kernel
theorem dX4_takeSign_21 : decode cX4_takeSign 21 = .ok (.invokevirtual 71, 3) := by decide +kernel
theorem dX4_takeSign_24 : decode cX4_takeSign 24 = .ok (.iconst 1, 1) := by decide +kernel
theorem dX4_takeSign_25 : decode cX4_takeSign 25 = .ok (.ireturn, 1) := by decide +kernel
theorem dX4_takeWord_0 : decode cX4_takeWord 0 = .ok (.aload_n 0, 1) := by decide +kernel
theorem dX4_takeWord_1 : decode cX4_takeWord 1 = .ok (.getfield 9, 3) := by decide +kernel
theorem dX4_takeWord_4 : decode cX4_takeWord 4 = .ok (.aload_n 1, 1) := by decide +kernel
theorem dX4_takeWord_5 : decode cX4_takeWord 5 = .ok (.invokevirtual 216, 3) := by decide +kernel
theorem dX4_takeWord_8 : decode cX4_takeWord 8 = .ok (.ifCond .ne 9, 3) := by decide +kernel
theorem dX4_takeWord_11 : decode cX4_takeWord 11 = .ok (.aload_n 0, 1) := by decide +kernel
theorem dX4_takeWord_12 : decode cX4_takeWord 12 = .ok (.iconst 1, 1) := by decide +kernel
theorem dX4_takeWord_13 : decode cX4_takeWord 13 = .ok (.invokevirtual 45, 3) := by decide +kernel
theorem dX4_takeWord_16 : decode cX4_takeWord 16 = .ok (.ireturn, 1) := by decide +kernel
theorem dX4_takeWord_17 : decode cX4_takeWord 17 = .ok (.aload_n 0, 1) := by decide +kernel
theorem dX4_takeWord_18 : decode cX4_takeWord 18 = .ok (.getfield 9, 3) := by decide +kernel
theorem dX4_takeWord_21 : decode cX4_takeWord 21 = .ok (.invokevirtual 71, 3) := by decide +kernel
theorem dX4_takeWord_24 : decode cX4_takeWord 24 = .ok (.iconst 1, 1) := by decide +kernel
theorem dX4_takeWord_25 : decode cX4_takeWord 25 = .ok (.ireturn, 1) := by decide +kernel
theorem dX4_takeOneOf_0 : decode cX4_takeOneOf 0 = .ok (.aload_n 0, 1) := by decide +kernel
theorem dX4_takeOneOf_1 : decode cX4_takeOneOf 1 = .ok (.aload_n 0, 1) := by decide +kernel
theorem dX4_takeOneOf_2 : decode cX4_takeOneOf 2 = .ok (.getfield 9, 3) := by decide +kernel
theorem dX4_takeOneOf_5 : decode cX4_takeOneOf 5 = .ok (.aload_n 1, 1) := by decide +kernel
theorem dX4_takeOneOf_6 : decode cX4_takeOneOf 6 = .ok (.invokevirtual 55, 3) := by decide +kernel
theorem dX4_takeOneOf_9 : decode cX4_takeOneOf 9 = .ok (.putfield 106, 3) := by decide +kernel
theorem dX4_takeOneOf_12 : decode cX4_takeOneOf 12 = .ok (.aload_n 0, 1) := by decide +kernel
theorem dX4_takeOneOf_13 : decode cX4_takeOneOf 13 = .ok (.getfield 106, 3) := by decide +kernel
theorem dX4_takeOneOf_16 : decode cX4_takeOneOf 16 = .ok (.iconst (-1), 1) := by decide +kernel
theorem dX4_takeOneOf_17 : decode cX4_takeOneOf 17 = .ok (.if_icmp .ne 9, 3) := by decide +kernel
theorem dX4_takeOneOf_20 : decode cX4_takeOneOf 20 = .ok (.aload_n 0, 1) := by decide +kernel
theorem dX4_takeOneOf_21 : decode cX4_takeOneOf 21 = .ok (.iconst 1, 1) := by decide +kernel
theorem dX4_takeOneOf_22 : decode cX4_takeOneOf 22 = .ok (.invokevirtual 45, 3) := by decide +kernel
theorem dX4_takeOneOf_25 : decode cX4_takeOneOf 25 = .ok (.ireturn, 1) := by decide +kernel
theorem dX4_takeOneOf_26 : decode cX4_takeOneOf 26 = .ok (.aload_n 0, 1) := by decide +kernel
theorem dX4_takeOneOf_27 : decode cX4_takeOneOf 27 = .ok (.getfield 9, 3) := by decide +kernel
theorem dX4_takeOneOf_30 : decode cX4_takeOneOf 30 = .ok (.invokevirtual 71, 3) := by decide +kernel
theorem dX4_takeOneOf_33 : decode cX4_takeOneOf 33 = .ok (.iconst 1, 1) := by decide +kernel
theorem dX4_takeOneOf_34 : decode cX4_takeOneOf 34 = .ok (.ireturn, 1) := by decide +kernel
theorem dX4_takeWhole_0 : decode cX4_takeWhole 0 = .ok (.aload_n 0, 1) := by decide +kernel
theorem dX4_takeWhole_1 : decode cX4_takeWhole 1 = .ok (.getfield 9, 3) := by decide +kernel
theorem dX4_takeWhole_4 : decode cX4_takeWhole 4 = .ok (.invokevirtual 37, 3) := by decide +kernel
theorem dX4_takeWhole_7 : decode cX4_takeWhole 7 = .ok (.iconst 2, 1) := by decide +kernel
theorem dX4_takeWhole_8 : decode cX4_takeWhole 8 = .ok (.if_icmp .eq 9, 3) := by decide +kernel
theorem dX4_takeWhole_11 : decode cX4_takeWhole 11 = .ok (.aload_n 0, 1) := by decide +kernel
theorem dX4_takeWhole_12 : decode cX4_takeWhole 12 = .ok (.iconst 1, 1) := by decide +kernel
theorem dX4_takeWhole_13 : decode cX4_takeWhole 13 = .ok (.invokevirtual 45, 3) := by decide +kernel
theorem dX4_takeWhole_16 : decode cX4_takeWhole 16 = .ok (.ireturn, 1) := by decide +kernel
theorem dX4_takeWhole_17 : decode cX4_takeWhole 17 = .ok (.aload_n 0, 1) := by decide +kernel
theorem dX4_takeWhole_18 : decode cX4_takeWhole 18 = .ok (.aload_n 0, 1) := by decide +kernel
theorem dX4_takeWhole_19 : decode cX4_takeWhole 19 = .ok (.getfield 9, 3) := by decide +kernel
theorem dX4_takeWhole_22 : decode cX4_takeWhole 22 = .ok (.invokevirtual 219, 3) := by decide +kernel
theorem dX4_takeWhole_25 : decode cX4_takeWhole 25 = .ok (.putfield 106, 3) := by decide +kernel
theorem dX4_takeWhole_28 : decode cX4_takeWhole 28 = .ok (.aload_n 0, 1) := by decide +kernel
theorem dX4_takeWhole_29 : decode cX4_takeWhole 29 = .ok (.getfield 106, 3) := by decide +kernel
theorem dX4_takeWhole_32 : decode cX4_takeWhole 32 = .ok (.iload_n 1, 1) := by decide +kernel
theorem dX4_takeWhole_33 : decode cX4_takeWhole 33 = .ok (.if_icmp .lt 11, 3) := by decide +kernel
theorem dX4_takeWhole_36 : decode cX4_takeWhole 36 = .ok (.aload_n 0, 1) := by decide +kernel
theorem dX4_takeWhole_37 : decode cX4_takeWhole 37 = .ok (.getfield 106, 3) := by decide +kernel
theorem dX4_takeWhole_40 : decode cX4_takeWhole 40 = .ok (.iload_n 2, 1) := by decide +kernel
theorem dX4_takeWhole_41 : decode cX4_takeWhole 41 = .ok (.if_icmp .le 9, 3) := by decide +kernel
theorem dX4_takeWhole_44 : decode cX4_takeWhole 44 = .ok (.aload_n 0, 1) := by decide +kernel
theorem dX4_takeWhole_45 : decode cX4_takeWhole 45 = .ok (.iconst 4, 1) := by decide +kernel
theorem dX4_takeWhole_46 : decode cX4_takeWhole 46 = .ok (.invokevirtual 45, 3) := by decide +kernel
theorem dX4_takeWhole_49 : decode cX4_takeWhole 49 = .ok (.ireturn, 1) := by decide +kernel
theorem dX4_takeWhole_50 : decode cX4_takeWhole 50 = .ok (.aload_n 0, 1) := by decide +kernel
theorem dX4_takeWhole_51 : decode cX4_takeWhole 51 = .ok (.getfield 9, 3) := by decide +kernel
theorem dX4_takeWhole_54 : decode cX4_takeWhole 54 = .ok (.invokevirtual 71, 3) := by decide +kernel
theorem dX4_takeWhole_57 : decode cX4_takeWhole 57 = .ok (.iconst 1, 1) := by decide +kernel
theorem dX4_takeWhole_58 : decode cX4_takeWhole 58 = .ok (.ireturn, 1) := by decide +kernel
theorem dX4_takeNamed_0 : decode cX4_takeNamed 0 = .ok (.aload_n 0, 1) := by decide +kernel
theorem dX4_takeNamed_1 : decode cX4_takeNamed 1 = .ok (.aload_n 1, 1) := by decide +kernel
theorem dX4_takeNamed_2 : decode cX4_takeNamed 2 = .ok (.invokevirtual 181, 3) := by decide +kernel
theorem dX4_takeNamed_5 : decode cX4_takeNamed 5 = .ok (.ifCond .eq 16, 3) := by decide +kernel
theorem dX4_takeNamed_8 : decode cX4_takeNamed 8 = .ok (.aload_n 0, 1) := by decide +kernel
theorem dX4_takeNamed_9 : decode cX4_takeNamed 9 = .ok (.iload_n 2, 1) := by decide +kernel
theorem dX4_takeNamed_10 : decode cX4_takeNamed 10 = .ok (.iload_n 3, 1) := by decide +kernel
theorem dX4_takeNamed_11 : decode cX4_takeNamed 11 = .ok (.invokevirtual 176, 3) := by decide +kernel
theorem dX4_takeNamed_14 : decode cX4_takeNamed 14 = .ok (.ifCond .eq 7, 3) := by decide +kernel
theorem dX4_takeNamed_17 : decode cX4_takeNamed 17 = .ok (.iconst 1, 1) := by decide +kernel
theorem dX4_takeNamed_18 : decode cX4_takeNamed 18 = .ok (.goto 4, 3) := by decide +kernel
theorem dX4_takeNamed_21 : decode cX4_takeNamed 21 = .ok (.iconst 0, 1) := by decide +kernel
theorem dX4_takeNamed_22 : decode cX4_takeNamed 22 = .ok (.ireturn, 1) := by decide +kernel
theorem dX4_takeCell_0 : decode cX4_takeCell 0 = .ok (.aload_n 0, 1) := by decide +kernel
theorem dX4_takeCell_1 : decode cX4_takeCell 1 = .ok (.iconst 0, 1) := by decide +kernel
theorem dX4_takeCell_2 : decode cX4_takeCell 2 = .ok (.aload_n 1, 1) := by decide +kernel
theorem dX4_takeCell_3 : decode cX4_takeCell 3 = .ok (.getfield 125, 3) := by decide +kernel
theorem dX4_takeCell_6 : decode cX4_takeCell 6 = .ok (.iconst 1, 1) := by decide +kernel
theorem dX4_takeCell_7 : decode cX4_takeCell 7 = .ok (.isub, 1) := by decide +kernel
theorem dX4_takeCell_8 : decode cX4_takeCell 8 = .ok (.invokevirtual 176, 3) := by decide +kernel
theorem dX4_takeCell_11 : decode cX4_takeCell 11 = .ok (.ifCond .ne 5, 3) := by decide +kernel
theorem dX4_takeCell_14 : decode cX4_takeCell 14 = .ok (.iconst 0, 1) := by decide +kernel
theorem dX4_takeCell_15 : decode cX4_takeCell 15 = .ok (.ireturn, 1) := by decide +kernel
theorem dX4_takeCell_16 : decode cX4_takeCell 16 = .ok (.aload_n 0, 1) := by decide +kernel
theorem dX4_takeCell_17 : decode cX4_takeCell 17 = .ok (.getfield 106, 3) := by decide +kernel
theorem dX4_takeCell_20 : decode cX4_takeCell 20 = .ok (.istore_n 2, 1) := by decide +kernel
theorem dX4_takeCell_21 : decode cX4_takeCell 21 = .ok (.aload_n 0, 1) := by decide +kernel
theorem dX4_takeCell_22 : decode cX4_takeCell 22 = .ok (.bipush 44, 2) := by decide +kernel
theorem dX4_takeCell_24 : decode cX4_takeCell 24 = .ok (.invokevirtual 49, 3) := by decide +kernel
theorem dX4_takeCell_27 : decode cX4_takeCell 27 = .ok (.ifCond .ne 5, 3) := by decide +kernel
theorem dX4_takeCell_30 : decode cX4_takeCell 30 = .ok (.iconst 0, 1) := by decide +kernel
theorem dX4_takeCell_31 : decode cX4_takeCell 31 = .ok (.ireturn, 1) := by decide +kernel
theorem dX4_takeCell_32 : decode cX4_takeCell 32 = .ok (.aload_n 0, 1) := by decide +kernel
theorem dX4_takeCell_33 : decode cX4_takeCell 33 = .ok (.aload_n 0, 1) := by decide +kernel
theorem dX4_takeCell_34 : decode cX4_takeCell 34 = .ok (.getfield 9, 3) := by decide +kernel
theorem dX4_takeCell_37 : decode cX4_takeCell 37 = .ok (.invokevirtual 222, 3) := by decide +kernel
theorem dX4_takeCell_40 : decode cX4_takeCell 40 = .ok (.putfield 163, 3) := by decide +kernel
theorem dX4_takeCell_43 : decode cX4_takeCell 43 = .ok (.aload_n 0, 1) := by decide +kernel
theorem dX4_takeCell_44 : decode cX4_takeCell 44 = .ok (.iconst 0, 1) := by decide +kernel
theorem dX4_takeCell_45 : decode cX4_takeCell 45 = .ok (.aload_n 1, 1) := by decide +kernel
theorem dX4_takeCell_46 : decode cX4_takeCell 46 = .ok (.getfield 225, 3) := by decide +kernel
theorem dX4_takeCell_49 : decode cX4_takeCell 49 = .ok (.iconst 1, 1) := by decide +kernel
theorem dX4_takeCell_50 : decode cX4_takeCell 50 = .ok (.isub, 1) := by decide +kernel
theorem dX4_takeCell_51 : decode cX4_takeCell 51 = .ok (.invokevirtual 176, 3) := by decide +kernel
theorem dX4_takeCell_54 : decode cX4_takeCell 54 = .ok (.ifCond .ne 5, 3) := by decide +kernel
theorem dX4_takeCell_57 : decode cX4_takeCell 57 = .ok (.iconst 0, 1) := by decide +kernel
theorem dX4_takeCell_58 : decode cX4_takeCell 58 = .ok (.ireturn, 1) := by decide +kernel
theorem dX4_takeCell_59 : decode cX4_takeCell 59 = .ok (.aload_n 0, 1) := by decide +kernel
theorem dX4_takeCell_60 : decode cX4_takeCell 60 = .ok (.aload_n 1, 1) := by decide +kernel
theorem dX4_takeCell_61 : decode cX4_takeCell 61 = .ok (.iload_n 2, 1) := by decide +kernel
theorem dX4_takeCell_62 : decode cX4_takeCell 62 = .ok (.aload_n 0, 1) := by decide +kernel
theorem dX4_takeCell_63 : decode cX4_takeCell 63 = .ok (.getfield 106, 3) := by decide +kernel
theorem dX4_takeCell_66 : decode cX4_takeCell 66 = .ok (.invokevirtual 141, 3) := by decide +kernel
theorem dX4_takeCell_69 : decode cX4_takeCell 69 = .ok (.putfield 156, 3) := by decide +kernel
theorem dX4_takeCell_72 : decode cX4_takeCell 72 = .ok (.iconst 1, 1) := by decide +kernel
theorem dX4_takeCell_73 : decode cX4_takeCell 73 = .ok (.ireturn, 1) := by decide +kernel
theorem dX4_fail_0 : decode cX4_fail 0 = .ok (.aload_n 0, 1) := by decide +kernel
theorem dX4_fail_1 : decode cX4_fail 1 = .ok (.iload_n 1, 1) := by decide +kernel
theorem dX4_fail_2 : decode cX4_fail 2 = .ok (.aload_n 0, 1) := by decide +kernel
theorem dX4_fail_3 : decode cX4_fail 3 = .ok (.getfield 9, 3) := by decide +kernel
theorem dX4_fail_6 : decode cX4_fail 6 = .ok (.invokevirtual 222, 3) := by decide +kernel
theorem dX4_fail_9 : decode cX4_fail 9 = .ok (.invokevirtual 166, 3) := by decide +kernel
theorem dX4_fail_12 : decode cX4_fail 12 = .ok (.ireturn, 1) := by decide +kernel
theorem dX4_failAt_0 : decode cX4_failAt 0 = .ok (.aload_n 0, 1) := by decide +kernel
theorem dX4_failAt_1 : decode cX4_failAt 1 = .ok (.iload_n 1, 1) := by decide +kernel
theorem dX4_failAt_2 : decode cX4_failAt 2 = .ok (.putfield 15, 3) := by decide +kernel
theorem dX4_failAt_5 : decode cX4_failAt 5 = .ok (.aload_n 0, 1) := by decide +kernel
theorem dX4_failAt_6 : decode cX4_failAt 6 = .ok (.iload_n 2, 1) := by decide +kernel
theorem dX4_failAt_7 : decode cX4_failAt 7 = .ok (.putfield 19, 3) := by decide +kernel
theorem dX4_failAt_10 : decode cX4_failAt 10 = .ok (.iconst 0, 1) := by decide +kernel
theorem dX4_failAt_11 : decode cX4_failAt 11 = .ok (.ireturn, 1) := by decide +kernel
theorem dX5_init_0 : decode cX5_init 0 = .ok (.aload_n 0, 1) := by decide +kernel
theorem dX5_init_1 : decode cX5_init 1 = .ok (.invokespecial 3, 3) := by decide +kernel
theorem dX5_init_4 : decode cX5_init 4 = .ok (.aload_n 0, 1) := by decide +kernel
theorem dX5_init_5 : decode cX5_init 5 = .ok (.bipush 12, 2) := by decide +kernel
theorem dX5_init_7 : decode cX5_init 7 = .ok (.newarray .int, 2) := by decide +kernel
theorem dX5_init_9 : decode cX5_init 9 = .ok (.putfield 9, 3) := by decide +kernel
theorem dX5_init_12 : decode cX5_init 12 = .ok (.aload_n 0, 1) := by decide +kernel
theorem dX5_init_13 : decode cX5_init 13 = .ok (.sipush 4096, 3) := by decide +kernel
theorem dX5_init_16 : decode cX5_init 16 = .ok (.newarray .int, 2) := by decide +kernel
theorem dX5_init_18 : decode cX5_init 18 = .ok (.putfield 15, 3) := by decide +kernel
theorem dX5_init_21 : decode cX5_init 21 = .ok (.aload_n 0, 1) := by decide +kernel
theorem dX5_init_22 : decode cX5_init 22 = .ok (.sipush 4096, 3) := by decide +kernel
theorem dX5_init_25 : decode cX5_init 25 = .ok (.newarray .int, 2) := by decide +kernel
theorem dX5_init_27 : decode cX5_init 27 = .ok (.putfield 18, 3) := by decide +kernel
theorem dX5_init_30 : decode cX5_init 30 = .ok (.return_, 1) := by decide +kernel
theorem dX5_fewestStrokes_0 : decode cX5_fewestStrokes 0 = .ok (.bipush 12, 2) := by decide +kernel
theorem dX5_fewestStrokes_2 : decode cX5_fewestStrokes 2 = .ok (.lload_n 2, 1) := by decide +kernel
theorem dX5_fewestStrokes_3 : decode cX5_fewestStrokes 3 = .ok (.invokestatic 21, 3) := by decide +kernel
theorem dX5_fewestStrokes_6 : decode cX5_fewestStrokes 6 = .ok (.invokestatic 27, 3) := by decide +kernel
theorem dX5_fewestStrokes_9 : decode cX5_fewestStrokes 9 = .ok (.istore 4, 2) := by decide +kernel
theorem dX5_fewestStrokes_11 : decode cX5_fewestStrokes 11 = .ok (.aload_n 0, 1) := by decide +kernel
theorem dX5_fewestStrokes_12 : decode cX5_fewestStrokes 12 = .ok (.aload_n 1, 1) := by decide +kernel
theorem dX5_fewestStrokes_13 : decode cX5_fewestStrokes 13 = .ok (.lload_n 2, 1) := by decide +kernel
theorem dX5_fewestStrokes_14 : decode cX5_fewestStrokes 14 = .ok (.iload 4, 2) := by decide +kernel
theorem dX5_fewestStrokes_16 : decode cX5_fewestStrokes 16 = .ok (.invokevirtual 33, 3) := by decide +kernel
theorem dX5_fewestStrokes_19 : decode cX5_fewestStrokes 19 = .ok (.iconst 1, 1) := by decide +kernel
theorem dX5_fewestStrokes_20 : decode cX5_fewestStrokes 20 = .ok (.iload 4, 2) := by decide +kernel
theorem dX5_fewestStrokes_22 : decode cX5_fewestStrokes 22 = .ok (.ishl, 1) := by decide +kernel
theorem dX5_fewestStrokes_23 : decode cX5_fewestStrokes 23 = .ok (.istore 5, 2) := by decide +kernel
theorem dX5_fewestStrokes_25 : decode cX5_fewestStrokes 25 = .ok (.iconst 0, 1) := by decide +kernel
theorem dX5_fewestStrokes_26 : decode cX5_fewestStrokes 26 = .ok (.istore 6, 2) := by decide +kernel
theorem dX5_fewestStrokes_28 : decode cX5_fewestStrokes 28 = .ok (.iload 6, 2) := by decide +kernel
theorem dX5_fewestStrokes_30 : decode cX5_fewestStrokes 30 = .ok (.iload 5, 2) := by decide +kernel
theorem dX5_fewestStrokes_32 : decode cX5_fewestStrokes 32 = .ok (.if_icmp .ge 55, 3) := by decide +kernel
theorem dX5_fewestStrokes_35 : decode cX5_fewestStrokes 35 = .ok (.iload 6, 2) := by decide +kernel
theorem dX5_fewestStrokes_37 : decode cX5_fewestStrokes 37 = .ok (.aload_n 0, 1) := by decide +kernel
theorem dX5_fewestStrokes_38 : decode cX5_fewestStrokes 38 = .ok (.getfield 15, 3) := by decide +kernel
theorem dX5_fewestStrokes_41 : decode cX5_fewestStrokes 41 = .ok (.arraylength, 1) := by decide +kernel
theorem dX5_fewestStrokes_42 : decode cX5_fewestStrokes 42 = .ok (.if_icmp .ge 45, 3) := by decide +kernel
theorem dX5_fewestStrokes_45 : decode cX5_fewestStrokes 45 = .ok (.iload 6, 2) := by decide +kernel
theorem dX5_fewestStrokes_47 : decode cX5_fewestStrokes 47 = .ok (.aload_n 0, 1) := by decide +kernel
theorem dX5_fewestStrokes_48 : decode cX5_fewestStrokes 48 = .ok (.getfield 18, 3) := by decide +kernel
theorem dX5_fewestStrokes_51 : decode cX5_fewestStrokes 51 = .ok (.arraylength, 1) := by decide +kernel
theorem dX5_fewestStrokes_52 : decode cX5_fewestStrokes 52 = .ok (.if_icmp .ge 35, 3) := by decide +kernel
theorem dX5_fewestStrokes_55 : decode cX5_fewestStrokes 55 = .ok (.aload_n 0, 1) := by decide +kernel
theorem dX5_fewestStrokes_56 : decode cX5_fewestStrokes 56 = .ok (.getfield 15, 3) := by decide +kernel
theorem dX5_fewestStrokes_59 : decode cX5_fewestStrokes 59 = .ok (.iload 6, 2) := by decide +kernel
theorem dX5_fewestStrokes_61 : decode cX5_fewestStrokes 61 = .ok (.iload 6, 2) := by decide +kernel
theorem dX5_fewestStrokes_63 : decode cX5_fewestStrokes 63 = .ok (.ifCond .ne 7, 3) := by decide +kernel
theorem dX5_fewestStrokes_66 : decode cX5_fewestStrokes 66 = .ok (.iconst 0, 1) := by decide +kernel
theorem dX5_fewestStrokes_67 : decode cX5_fewestStrokes 67 = .ok (.goto 5, 3) := by decide +kernel
theorem dX5_fewestStrokes_70 : decode cX5_fewestStrokes 70 = .ok (.bipush 13, 2) := by decide +kernel
theorem dX5_fewestStrokes_72 : decode cX5_fewestStrokes 72 = .ok (.iastore, 1) := by decide +kernel
theorem dX5_fewestStrokes_73 : decode cX5_fewestStrokes 73 = .ok (.aload_n 0, 1) := by decide +kernel
theorem dX5_fewestStrokes_74 : decode cX5_fewestStrokes 74 = .ok (.getfield 18, 3) := by decide +kernel
theorem dX5_fewestStrokes_77 : decode cX5_fewestStrokes 77 = .ok (.iload 6, 2) := by decide +kernel
theorem dX5_fewestStrokes_79 : decode cX5_fewestStrokes 79 = .ok (.iconst 0, 1) := by decide +kernel
theorem dX5_fewestStrokes_80 : decode cX5_fewestStrokes 80 = .ok (.iastore, 1) := by decide +kernel
theorem dX5_fewestStrokes_81 : decode cX5_fewestStrokes 81 = .ok (.iinc 6 1, 3) := by decide +kernel
theorem dX5_fewestStrokes_84 : decode cX5_fewestStrokes 84 = .ok (.goto (-56), 3) := by decide +kernel
theorem dX5_fewestStrokes_87 : decode cX5_fewestStrokes 87 = .ok (.iconst 0, 1) := by decide +kernel
theorem dX5_fewestStrokes_88 : decode cX5_fewestStrokes 88 = .ok (.istore 6, 2) := by decide +kernel
theorem dX5_fewestStrokes_90 : decode cX5_fewestStrokes 90 = .ok (.iload 6, 2) := by decide +kernel
theorem dX5_fewestStrokes_92 : decode cX5_fewestStrokes 92 = .ok (.iload 5, 2) := by decide +kernel
theorem dX5_fewestStrokes_94 : decode cX5_fewestStrokes 94 = .ok (.if_icmp .ge 17, 3) := by decide +kernel
theorem dX5_fewestStrokes_97 : decode cX5_fewestStrokes 97 = .ok (.aload_n 0, 1) := by decide +kernel
theorem dX5_fewestStrokes_98 : decode cX5_fewestStrokes 98 = .ok (.iload 6, 2) := by decide +kernel
theorem dX5_fewestStrokes_100 : decode cX5_fewestStrokes 100 = .ok (.iload 4, 2) := by decide +kernel
theorem dX5_fewestStrokes_102 : decode cX5_fewestStrokes 102 = .ok (.invokevirtual 37, 3) := by decide +kernel
theorem dX5_fewestStrokes_105 : decode cX5_fewestStrokes 105 = .ok (.iinc 6 1, 3) := by decide +kernel
theorem dX5_fewestStrokes_108 : decode cX5_fewestStrokes 108 = .ok (.goto (-18), 3) := by decide +kernel
theorem dX5_fewestStrokes_111 : decode cX5_fewestStrokes 111 = .ok (.iload 5, 2) := by decide +kernel
theorem dX5_fewestStrokes_113 : decode cX5_fewestStrokes 113 = .ok (.iconst 1, 1) := by decide +kernel
theorem dX5_fewestStrokes_114 : decode cX5_fewestStrokes 114 = .ok (.isub, 1) := by decide +kernel
theorem dX5_fewestStrokes_115 : decode cX5_fewestStrokes 115 = .ok (.istore 6, 2) := by decide +kernel
theorem dX5_fewestStrokes_117 : decode cX5_fewestStrokes 117 = .ok (.iload 6, 2) := by decide +kernel
theorem dX5_fewestStrokes_119 : decode cX5_fewestStrokes 119 = .ok (.ifCond .lt 23, 3) := by decide +kernel
theorem dX5_fewestStrokes_122 : decode cX5_fewestStrokes 122 = .ok (.iload 6, 2) := by decide +kernel
theorem dX5_fewestStrokes_124 : decode cX5_fewestStrokes 124 = .ok (.aload_n 0, 1) := by decide +kernel
theorem dX5_fewestStrokes_125 : decode cX5_fewestStrokes 125 = .ok (.getfield 15, 3) := by decide +kernel
theorem dX5_fewestStrokes_128 : decode cX5_fewestStrokes 128 = .ok (.arraylength, 1) := by decide +kernel
theorem dX5_fewestStrokes_129 : decode cX5_fewestStrokes 129 = .ok (.if_icmp .ge 13, 3) := by decide +kernel
theorem dX5_fewestStrokes_132 : decode cX5_fewestStrokes 132 = .ok (.aload_n 0, 1) := by decide +kernel
theorem dX5_fewestStrokes_133 : decode cX5_fewestStrokes 133 = .ok (.getfield 15, 3) := by decide +kernel
theorem dX5_fewestStrokes_136 : decode cX5_fewestStrokes 136 = .ok (.iload 6, 2) := by decide +kernel
theorem dX5_fewestStrokes_138 : decode cX5_fewestStrokes 138 = .ok (.iaload, 1) := by decide +kernel
theorem dX5_fewestStrokes_139 : decode cX5_fewestStrokes 139 = .ok (.goto 4, 3) := by decide +kernel
theorem dX5_fewestStrokes_142 : decode cX5_fewestStrokes 142 = .ok (.iconst 0, 1) := by decide +kernel
theorem dX5_fewestStrokes_143 : decode cX5_fewestStrokes 143 = .ok (.ireturn, 1) := by decide +kernel
theorem dX5_findBesides_0 : decode cX5_findBesides 0 = .ok (.iconst 0, 1) := by decide +kernel
theorem dX5_findBesides_1 : decode cX5_findBesides 1 = .ok (.istore 5, 2) := by decide +kernel
theorem dX5_findBesides_3 : decode cX5_findBesides 3 = .ok (.iload 5, 2) := by decide +kernel
theorem dX5_findBesides_5 : decode cX5_findBesides 5 = .ok (.iload 4, 2) := by decide +kernel
theorem dX5_findBesides_7 : decode cX5_findBesides 7 = .ok (.if_icmp .ge 86, 3) := by decide +kernel
theorem dX5_findBesides_10 : decode cX5_findBesides 10 = .ok (.iload 5, 2) := by decide +kernel
theorem dX5_findBesides_12 : decode cX5_findBesides 12 = .ok (.aload_n 0, 1) := by decide +kernel
theorem dX5_findBesides_13 : decode cX5_findBesides 13 = .ok (.getfield 9, 3) := by decide +kernel
theorem dX5_findBesides_16 : decode cX5_findBesides 16 = .ok (.arraylength, 1) := by decide +kernel
theorem dX5_findBesides_17 : decode cX5_findBesides 17 = .ok (.if_icmp .ge 76, 3) := by decide +kernel
theorem dX5_findBesides_20 : decode cX5_findBesides 20 = .ok (.aload_n 1, 1) := by decide +kernel
theorem dX5_findBesides_21 : decode cX5_findBesides 21 = .ok (.lload_n 2, 1) := by decide +kernel
theorem dX5_findBesides_22 : decode cX5_findBesides 22 = .ok (.iload 5, 2) := by decide +kernel
theorem dX5_findBesides_24 : decode cX5_findBesides 24 = .ok (.invokestatic 41, 3) := by decide +kernel
theorem dX5_findBesides_27 : decode cX5_findBesides 27 = .ok (.invokestatic 45, 3) := by decide +kernel
theorem dX5_findBesides_30 : decode cX5_findBesides 30 = .ok (.invokevirtual 49, 3) := by decide +kernel
theorem dX5_findBesides_33 : decode cX5_findBesides 33 = .ok (.lstore 6, 2) := by decide +kernel
theorem dX5_findBesides_35 : decode cX5_findBesides 35 = .ok (.aload_n 0, 1) := by decide +kernel
theorem dX5_findBesides_36 : decode cX5_findBesides 36 = .ok (.getfield 9, 3) := by decide +kernel
theorem dX5_findBesides_39 : decode cX5_findBesides 39 = .ok (.iload 5, 2) := by decide +kernel
theorem dX5_findBesides_41 : decode cX5_findBesides 41 = .ok (.iconst 0, 1) := by decide +kernel
theorem dX5_findBesides_42 : decode cX5_findBesides 42 = .ok (.iastore, 1) := by decide +kernel
theorem dX5_findBesides_43 : decode cX5_findBesides 43 = .ok (.iconst 0, 1) := by decide +kernel
theorem dX5_findBesides_44 : decode cX5_findBesides 44 = .ok (.istore 8, 2) := by decide +kernel
theorem dX5_findBesides_46 : decode cX5_findBesides 46 = .ok (.iload 8, 2) := by decide +kernel
theorem dX5_findBesides_48 : decode cX5_findBesides 48 = .ok (.iload 4, 2) := by decide +kernel
theorem dX5_findBesides_50 : decode cX5_findBesides 50 = .ok (.if_icmp .ge 37, 3) := by decide +kernel
theorem dX5_findBesides_53 : decode cX5_findBesides 53 = .ok (.lload 6, 2) := by decide +kernel
theorem dX5_findBesides_55 : decode cX5_findBesides 55 = .ok (.lload_n 2, 1) := by decide +kernel
theorem dX5_findBesides_56 : decode cX5_findBesides 56 = .ok (.iload 8, 2) := by decide +kernel
theorem dX5_findBesides_58 : decode cX5_findBesides 58 = .ok (.invokestatic 41, 3) := by decide +kernel
theorem dX5_findBesides_61 : decode cX5_findBesides 61 = .ok (.invokestatic 55, 3) := by decide +kernel
theorem dX5_findBesides_64 : decode cX5_findBesides 64 = .ok (.ifCond .eq 17, 3) := by decide +kernel
theorem dX5_findBesides_67 : decode cX5_findBesides 67 = .ok (.aload_n 0, 1) := by decide +kernel
theorem dX5_findBesides_68 : decode cX5_findBesides 68 = .ok (.getfield 9, 3) := by decide +kernel
theorem dX5_findBesides_71 : decode cX5_findBesides 71 = .ok (.iload 5, 2) := by decide +kernel
theorem dX5_findBesides_73 : decode cX5_findBesides 73 = .ok (.dup2, 1) := by decide +kernel
theorem dX5_findBesides_74 : decode cX5_findBesides 74 = .ok (.iaload, 1) := by decide +kernel
theorem dX5_findBesides_75 : decode cX5_findBesides 75 = .ok (.iconst 1, 1) := by decide +kernel
theorem dX5_findBesides_76 : decode cX5_findBesides 76 = .ok (.iload 8, 2) := by decide +kernel
theorem dX5_findBesides_78 : decode cX5_findBesides 78 = .ok (.ishl, 1) := by decide +kernel
theorem dX5_findBesides_79 : decode cX5_findBesides 79 = .ok (.ior, 1) := by decide +kernel
theorem dX5_findBesides_80 : decode cX5_findBesides 80 = .ok (.iastore, 1) := by decide +kernel
theorem dX5_findBesides_81 : decode cX5_findBesides 81 = .ok (.iinc 8 1, 3) := by decide +kernel
theorem dX5_findBesides_84 : decode cX5_findBesides 84 = .ok (.goto (-38), 3) := by decide +kernel
theorem dX5_findBesides_87 : decode cX5_findBesides 87 = .ok (.iinc 5 1, 3) := by decide +kernel
theorem dX5_findBesides_90 : decode cX5_findBesides 90 = .ok (.goto (-87), 3) := by decide +kernel
theorem dX5_findBesides_93 : decode cX5_findBesides 93 = .ok (.return_, 1) := by decide +kernel
theorem dX5_mowOneMore_0 : decode cX5_mowOneMore 0 = .ok (.iload_n 1, 1) := by decide +kernel
theorem dX5_mowOneMore_1 : decode cX5_mowOneMore 1 = .ok (.ifCond .lt 21, 3) := by decide +kernel
theorem dX5_mowOneMore_4 : decode cX5_mowOneMore 4 = .ok (.iload_n 1, 1) := by decide +kernel
theorem dX5_mowOneMore_5 : decode cX5_mowOneMore 5 = .ok (.aload_n 0, 1) := by decide +kernel
theorem dX5_mowOneMore_6 : decode cX5_mowOneMore 6 = .ok (.getfield 15, 3) := by decide +kernel
theorem dX5_mowOneMore_9 : decode cX5_mowOneMore 9 = .ok (.arraylength, 1) := by decide +kernel
theorem dX5_mowOneMore_10 : decode cX5_mowOneMore 10 = .ok (.if_icmp .ge 12, 3) := by decide +kernel
theorem dX5_mowOneMore_13 : decode cX5_mowOneMore 13 = .ok (.iload_n 1, 1) := by decide +kernel
theorem dX5_mowOneMore_14 : decode cX5_mowOneMore 14 = .ok (.aload_n 0, 1) := by decide +kernel
theorem dX5_mowOneMore_15 : decode cX5_mowOneMore 15 = .ok (.getfield 18, 3) := by decide +kernel
theorem dX5_mowOneMore_18 : decode cX5_mowOneMore 18 = .ok (.arraylength, 1) := by decide +kernel
theorem dX5_mowOneMore_19 : decode cX5_mowOneMore 19 = .ok (.if_icmp .lt 4, 3) := by decide +kernel
theorem dX5_mowOneMore_22 : decode cX5_mowOneMore 22 = .ok (.return_, 1) := by decide +kernel
theorem dX5_mowOneMore_23 : decode cX5_mowOneMore 23 = .ok (.iconst 0, 1) := by decide +kernel
theorem dX5_mowOneMore_24 : decode cX5_mowOneMore 24 = .ok (.istore_n 3, 1) := by decide +kernel
theorem dX5_mowOneMore_25 : decode cX5_mowOneMore 25 = .ok (.iload_n 3, 1) := by decide +kernel
theorem dX5_mowOneMore_26 : decode cX5_mowOneMore 26 = .ok (.iload_n 2, 1) := by decide +kernel
theorem dX5_mowOneMore_27 : decode cX5_mowOneMore 27 = .ok (.if_icmp .ge 140, 3) := by decide +kernel
theorem dX5_mowOneMore_30 : decode cX5_mowOneMore 30 = .ok (.iload_n 3, 1) := by decide +kernel
theorem dX5_mowOneMore_31 : decode cX5_mowOneMore 31 = .ok (.aload_n 0, 1) := by decide +kernel
theorem dX5_mowOneMore_32 : decode cX5_mowOneMore 32 = .ok (.getfield 9, 3) := by decide +kernel
theorem dX5_mowOneMore_35 : decode cX5_mowOneMore 35 = .ok (.arraylength, 1) := by decide +kernel
theorem dX5_mowOneMore_36 : decode cX5_mowOneMore 36 = .ok (.if_icmp .ge 131, 3) := by decide +kernel
theorem dX5_mowOneMore_39 : decode cX5_mowOneMore 39 = .ok (.iload_n 1, 1) := by decide +kernel
theorem dX5_mowOneMore_40 : decode cX5_mowOneMore 40 = .ok (.iconst 1, 1) := by decide +kernel
theorem dX5_mowOneMore_41 : decode cX5_mowOneMore 41 = .ok (.iload_n 3, 1) := by decide +kernel
theorem dX5_mowOneMore_42 : decode cX5_mowOneMore 42 = .ok (.ishl, 1) := by decide +kernel
theorem dX5_mowOneMore_43 : decode cX5_mowOneMore 43 = .ok (.ior, 1) := by decide +kernel
theorem dX5_mowOneMore_44 : decode cX5_mowOneMore 44 = .ok (.istore 4, 2) := by decide +kernel
theorem dX5_mowOneMore_46 : decode cX5_mowOneMore 46 = .ok (.iload 4, 2) := by decide +kernel
theorem dX5_mowOneMore_48 : decode cX5_mowOneMore 48 = .ok (.iload_n 1, 1) := by decide +kernel
theorem dX5_mowOneMore_49 : decode cX5_mowOneMore 49 = .ok (.if_icmp .eq 112, 3) := by decide +kernel
theorem dX5_mowOneMore_52 : decode cX5_mowOneMore 52 = .ok (.iload 4, 2) := by decide +kernel
theorem dX5_mowOneMore_54 : decode cX5_mowOneMore 54 = .ok (.aload_n 0, 1) := by decide +kernel
theorem dX5_mowOneMore_55 : decode cX5_mowOneMore 55 = .ok (.getfield 15, 3) := by decide +kernel
theorem dX5_mowOneMore_58 : decode cX5_mowOneMore 58 = .ok (.arraylength, 1) := by decide +kernel
theorem dX5_mowOneMore_59 : decode cX5_mowOneMore 59 = .ok (.if_icmp .ge 102, 3) := by decide +kernel
theorem dX5_mowOneMore_62 : decode cX5_mowOneMore 62 = .ok (.iload 4, 2) := by decide +kernel
theorem dX5_mowOneMore_64 : decode cX5_mowOneMore 64 = .ok (.aload_n 0, 1) := by decide +kernel
theorem dX5_mowOneMore_65 : decode cX5_mowOneMore 65 = .ok (.getfield 18, 3) := by decide +kernel
theorem dX5_mowOneMore_68 : decode cX5_mowOneMore 68 = .ok (.arraylength, 1) := by decide +kernel
theorem dX5_mowOneMore_69 : decode cX5_mowOneMore 69 = .ok (.if_icmp .ge 92, 3) := by decide +kernel
theorem dX5_mowOneMore_72 : decode cX5_mowOneMore 72 = .ok (.aload_n 0, 1) := by decide +kernel
theorem dX5_mowOneMore_73 : decode cX5_mowOneMore 73 = .ok (.getfield 9, 3) := by decide +kernel
theorem dX5_mowOneMore_76 : decode cX5_mowOneMore 76 = .ok (.iload_n 3, 1) := by decide +kernel
theorem dX5_mowOneMore_77 : decode cX5_mowOneMore 77 = .ok (.iaload, 1) := by decide +kernel
theorem dX5_mowOneMore_78 : decode cX5_mowOneMore 78 = .ok (.aload_n 0, 1) := by decide +kernel
theorem dX5_mowOneMore_79 : decode cX5_mowOneMore 79 = .ok (.getfield 18, 3) := by decide +kernel
theorem dX5_mowOneMore_82 : decode cX5_mowOneMore 82 = .ok (.iload_n 1, 1) := by decide +kernel
theorem dX5_mowOneMore_83 : decode cX5_mowOneMore 83 = .ok (.iaload, 1) := by decide +kernel
theorem dX5_mowOneMore_84 : decode cX5_mowOneMore 84 = .ok (.iand, 1) := by decide +kernel
theorem dX5_mowOneMore_85 : decode cX5_mowOneMore 85 = .ok (.ifCond .eq 12, 3) := by decide +kernel
theorem dX5_mowOneMore_88 : decode cX5_mowOneMore 88 = .ok (.aload_n 0, 1) := by decide +kernel
theorem dX5_mowOneMore_89 : decode cX5_mowOneMore 89 = .ok (.getfield 15, 3) := by decide +kernel
theorem dX5_mowOneMore_92 : decode cX5_mowOneMore 92 = .ok (.iload_n 1, 1) := by decide +kernel
theorem dX5_mowOneMore_93 : decode cX5_mowOneMore 93 = .ok (.iaload, 1) := by decide +kernel
theorem dX5_mowOneMore_94 : decode cX5_mowOneMore 94 = .ok (.goto 11, 3) := by decide +kernel
theorem dX5_mowOneMore_97 : decode cX5_mowOneMore 97 = .ok (.aload_n 0, 1) := by decide +kernel
theorem dX5_mowOneMore_98 : decode cX5_mowOneMore 98 = .ok (.getfield 15, 3) := by decide +kernel
theorem dX5_mowOneMore_101 : decode cX5_mowOneMore 101 = .ok (.iload_n 1, 1) := by decide +kernel
theorem dX5_mowOneMore_102 : decode cX5_mowOneMore 102 = .ok (.iaload, 1) := by decide +kernel
theorem dX5_mowOneMore_103 : decode cX5_mowOneMore 103 = .ok (.iconst 1, 1) := by decide +kernel
theorem dX5_mowOneMore_104 : decode cX5_mowOneMore 104 = .ok (.iadd, 1) := by decide +kernel
theorem dX5_mowOneMore_105 : decode cX5_mowOneMore 105 = .ok (.istore 5, 2) := by decide +kernel
theorem dX5_mowOneMore_107 : decode cX5_mowOneMore 107 = .ok (.iload 5, 2) := by decide +kernel
theorem dX5_mowOneMore_109 : decode cX5_mowOneMore 109 = .ok (.aload_n 0, 1) := by decide +kernel
theorem dX5_mowOneMore_110 : decode cX5_mowOneMore 110 = .ok (.getfield 15, 3) := by decide +kernel
theorem dX5_mowOneMore_113 : decode cX5_mowOneMore 113 = .ok (.iload 4, 2) := by decide +kernel
theorem dX5_mowOneMore_115 : decode cX5_mowOneMore 115 = .ok (.iaload, 1) := by decide +kernel
theorem dX5_mowOneMore_116 : decode cX5_mowOneMore 116 = .ok (.if_icmp .ge 20, 3) := by decide +kernel
theorem dX5_mowOneMore_119 : decode cX5_mowOneMore 119 = .ok (.aload_n 0, 1) := by decide +kernel
theorem dX5_mowOneMore_120 : decode cX5_mowOneMore 120 = .ok (.getfield 15, 3) := by decide +kernel
theorem dX5_mowOneMore_123 : decode cX5_mowOneMore 123 = .ok (.iload 4, 2) := by decide +kernel
theorem dX5_mowOneMore_125 : decode cX5_mowOneMore 125 = .ok (.iload 5, 2) := by decide +kernel
theorem dX5_mowOneMore_127 : decode cX5_mowOneMore 127 = .ok (.iastore, 1) := by decide +kernel
theorem dX5_mowOneMore_128 : decode cX5_mowOneMore 128 = .ok (.aload_n 0, 1) := by decide +kernel
theorem dX5_mowOneMore_129 : decode cX5_mowOneMore 129 = .ok (.getfield 18, 3) := by decide +kernel
theorem dX5_mowOneMore_132 : decode cX5_mowOneMore 132 = .ok (.iload 4, 2) := by decide +kernel
theorem dX5_mowOneMore_134 : decode cX5_mowOneMore 134 = .ok (.iconst 0, 1) := by decide +kernel
theorem dX5_mowOneMore_135 : decode cX5_mowOneMore 135 = .ok (.iastore, 1) := by decide +kernel
theorem dX5_mowOneMore_136 : decode cX5_mowOneMore 136 = .ok (.iload 5, 2) := by decide +kernel
theorem dX5_mowOneMore_138 : decode cX5_mowOneMore 138 = .ok (.aload_n 0, 1) := by decide +kernel
theorem dX5_mowOneMore_139 : decode cX5_mowOneMore 139 = .ok (.getfield 15, 3) := by decide +kernel
theorem dX5_mowOneMore_142 : decode cX5_mowOneMore 142 = .ok (.iload 4, 2) := by decide +kernel
theorem dX5_mowOneMore_144 : decode cX5_mowOneMore 144 = .ok (.iaload, 1) := by decide +kernel
theorem dX5_mowOneMore_145 : decode cX5_mowOneMore 145 = .ok (.if_icmp .ne 16, 3) := by decide +kernel
theorem dX5_mowOneMore_148 : decode cX5_mowOneMore 148 = .ok (.aload_n 0, 1) := by decide +kernel
theorem dX5_mowOneMore_149 : decode cX5_mowOneMore 149 = .ok (.getfield 18, 3) := by decide +kernel
theorem dX5_mowOneMore_152 : decode cX5_mowOneMore 152 = .ok (.iload 4, 2) := by decide +kernel
theorem dX5_mowOneMore_154 : decode cX5_mowOneMore 154 = .ok (.dup2, 1) := by decide +kernel
theorem dX5_mowOneMore_155 : decode cX5_mowOneMore 155 = .ok (.iaload, 1) := by decide +kernel
theorem dX5_mowOneMore_156 : decode cX5_mowOneMore 156 = .ok (.iconst 1, 1) := by decide +kernel
theorem dX5_mowOneMore_157 : decode cX5_mowOneMore 157 = .ok (.iload_n 3, 1) := by decide +kernel
theorem dX5_mowOneMore_158 : decode cX5_mowOneMore 158 = .ok (.ishl, 1) := by decide +kernel
theorem dX5_mowOneMore_159 : decode cX5_mowOneMore 159 = .ok (.ior, 1) := by decide +kernel
theorem dX5_mowOneMore_160 : decode cX5_mowOneMore 160 = .ok (.iastore, 1) := by decide +kernel
theorem dX5_mowOneMore_161 : decode cX5_mowOneMore 161 = .ok (.iinc 3 1, 3) := by decide +kernel
theorem dX5_mowOneMore_164 : decode cX5_mowOneMore 164 = .ok (.goto (-139), 3) := by decide +kernel
theorem dX5_mowOneMore_167 : decode cX5_mowOneMore 167 = .ok (.return_, 1) := by decide +kernel
theorem dX6_init_0 : decode cX6_init 0 = .ok (.aload_n 0, 1) := by decide +kernel
theorem dX6_init_1 : decode cX6_init 1 = .ok (.invokespecial 3, 3) := by decide +kernel
theorem dX6_init_4 : decode cX6_init 4 = .ok (.aload_n 0, 1) := by decide +kernel
theorem dX6_init_5 : decode cX6_init 5 = .ok (.sipush 900, 3) := by decide +kernel
theorem dX6_init_8 : decode cX6_init 8 = .ok (.newarray .byte, 2) := by decide +kernel
theorem dX6_init_10 : decode cX6_init 10 = .ok (.putfield 9, 3) := by decide +kernel
theorem dX6_init_13 : decode cX6_init 13 = .ok (.return_, 1) := by decide +kernel
theorem dX6_length_0 : decode cX6_length 0 = .ok (.aload_n 0, 1) := by decide +kernel
theorem dX6_length_1 : decode cX6_length 1 = .ok (.getfield 15, 3) := by decide +kernel
theorem dX6_length_4 : decode cX6_length 4 = .ok (.ireturn, 1) := by decide +kernel
theorem dX6_hasRoom_0 : decode cX6_hasRoom 0 = .ok (.aload_n 0, 1) := by decide +kernel
theorem dX6_hasRoom_1 : decode cX6_hasRoom 1 = .ok (.getfield 15, 3) := by decide +kernel
theorem dX6_hasRoom_4 : decode cX6_hasRoom 4 = .ok (.iload_n 1, 1) := by decide +kernel
theorem dX6_hasRoom_5 : decode cX6_hasRoom 5 = .ok (.iadd, 1) := by decide +kernel
theorem dX6_hasRoom_6 : decode cX6_hasRoom 6 = .ok (.aload_n 0, 1) := by decide +kernel
theorem dX6_hasRoom_7 : decode cX6_hasRoom 7 = .ok (.getfield 9, 3) := by decide +kernel
theorem dX6_hasRoom_10 : decode cX6_hasRoom 10 = .ok (.arraylength, 1) := by decide +kernel
theorem dX6_hasRoom_11 : decode cX6_hasRoom 11 = .ok (.if_icmp .gt 7, 3) := by decide +kernel
theorem dX6_hasRoom_14 : decode cX6_hasRoom 14 = .ok (.iconst 1, 1) := by decide +kernel
theorem dX6_hasRoom_15 : decode cX6_hasRoom 15 = .ok (.goto 4, 3) := by decide +kernel
theorem dX6_hasRoom_18 : decode cX6_hasRoom 18 = .ok (.iconst 0, 1) := by decide +kernel
theorem dX6_hasRoom_19 : decode cX6_hasRoom 19 = .ok (.ireturn, 1) := by decide +kernel
theorem dX6_clear_0 : decode cX6_clear 0 = .ok (.aload_n 0, 1) := by decide +kernel
theorem dX6_clear_1 : decode cX6_clear 1 = .ok (.iconst 0, 1) := by decide +kernel
theorem dX6_clear_2 : decode cX6_clear 2 = .ok (.putfield 15, 3) := by decide +kernel
theorem dX6_clear_5 : decode cX6_clear 5 = .ok (.return_, 1) := by decide +kernel
theorem dX6_put_0 : decode cX6_put 0 = .ok (.bipush 24, 2) := by decide +kernel
theorem dX6_put_2 : decode cX6_put 2 = .ok (.istore_n 2, 1) := by decide +kernel
theorem dX6_put_3 : decode cX6_put 3 = .ok (.iload_n 2, 1) := by decide +kernel
theorem dX6_put_4 : decode cX6_put 4 = .ok (.ifCond .lt 44, 3) := by decide +kernel
theorem dX6_put_7 : decode cX6_put 7 = .ok (.aload_n 0, 1) := by decide +kernel
theorem dX6_put_8 : decode cX6_put 8 = .ok (.getfield 15, 3) := by decide +kernel
theorem dX6_put_11 : decode cX6_put 11 = .ok (.aload_n 0, 1) := by decide +kernel
theorem dX6_put_12 : decode cX6_put 12 = .ok (.getfield 9, 3) := by decide +kernel
theorem dX6_put_15 : decode cX6_put 15 = .ok (.arraylength, 1) := by decide +kernel
theorem dX6_put_16 : decode cX6_put 16 = .ok (.if_icmp .ge 32, 3) := by decide +kernel
theorem dX6_put_19 : decode cX6_put 19 = .ok (.aload_n 0, 1) := by decide +kernel
theorem dX6_put_20 : decode cX6_put 20 = .ok (.getfield 9, 3) := by decide +kernel
theorem dX6_put_23 : decode cX6_put 23 = .ok (.aload_n 0, 1) := by decide +kernel
theorem dX6_put_24 : decode cX6_put 24 = .ok (.getfield 15, 3) := by decide +kernel
theorem dX6_put_27 : decode cX6_put 27 = .ok (.iload_n 1, 1) := by decide +kernel
theorem dX6_put_28 : decode cX6_put 28 = .ok (.iload_n 2, 1) := by decide +kernel
theorem dX6_put_29 : decode cX6_put 29 = .ok (.iushr, 1) := by decide +kernel
theorem dX6_put_30 : decode cX6_put 30 = .ok (.i2b, 1) := by decide +kernel
theorem dX6_put_31 : decode cX6_put 31 = .ok (.bastore, 1) := by decide +kernel
theorem dX6_put_32 : decode cX6_put 32 = .ok (.aload_n 0, 1) := by decide +kernel
theorem dX6_put_33 : decode cX6_put 33 = .ok (.dup, 1) := by decide +kernel
theorem dX6_put_34 : decode cX6_put 34 = .ok (.getfield 15, 3) := by decide +kernel
theorem dX6_put_37 : decode cX6_put 37 = .ok (.iconst 1, 1) := by decide +kernel
theorem dX6_put_38 : decode cX6_put 38 = .ok (.iadd, 1) := by decide +kernel
theorem dX6_put_39 : decode cX6_put 39 = .ok (.putfield 15, 3) := by decide +kernel
theorem dX6_put_42 : decode cX6_put 42 = .ok (.iinc 2 (-8), 3) := by decide +kernel
theorem dX6_put_45 : decode cX6_put 45 = .ok (.goto (-42), 3) := by decide +kernel
theorem dX6_put_48 : decode cX6_put 48 = .ok (.return_, 1) := by decide +kernel
theorem dX6_byteAt_0 : decode cX6_byteAt 0 = .ok (.iload_n 1, 1) := by decide +kernel
theorem dX6_byteAt_1 : decode cX6_byteAt 1 = .ok (.ifCond .lt 24, 3) := by decide +kernel
theorem dX6_byteAt_4 : decode cX6_byteAt 4 = .ok (.iload_n 1, 1) := by decide +kernel
theorem dX6_byteAt_5 : decode cX6_byteAt 5 = .ok (.aload_n 0, 1) := by decide +kernel
theorem dX6_byteAt_6 : decode cX6_byteAt 6 = .ok (.getfield 15, 3) := by decide +kernel
theorem dX6_byteAt_9 : decode cX6_byteAt 9 = .ok (.if_icmp .ge 16, 3) := by decide +kernel
theorem dX6_byteAt_12 : decode cX6_byteAt 12 = .ok (.aload_n 0, 1) := by decide +kernel
theorem dX6_byteAt_13 : decode cX6_byteAt 13 = .ok (.getfield 9, 3) := by decide +kernel
theorem dX6_byteAt_16 : decode cX6_byteAt 16 = .ok (.iload_n 1, 1) := by decide +kernel
theorem dX6_byteAt_17 : decode cX6_byteAt 17 = .ok (.baload, 1) := by decide +kernel
theorem dX6_byteAt_18 : decode cX6_byteAt 18 = .ok (.sipush 255, 3) := by decide +kernel
theorem dX6_byteAt_21 : decode cX6_byteAt 21 = .ok (.iand, 1) := by decide +kernel
theorem dX6_byteAt_22 : decode cX6_byteAt 22 = .ok (.goto 4, 3) := by decide +kernel
theorem dX6_byteAt_25 : decode cX6_byteAt 25 = .ok (.iconst 0, 1) := by decide +kernel
theorem dX6_byteAt_26 : decode cX6_byteAt 26 = .ok (.ireturn, 1) := by decide +kernel
theorem dX7_init_0 : decode cX7_init 0 = .ok (.aload_n 0, 1) := by decide +kernel
theorem dX7_init_1 : decode cX7_init 1 = .ok (.invokespecial 3, 3) := by decide +kernel
theorem dX7_init_4 : decode cX7_init 4 = .ok (.aload_n 0, 1) := by decide +kernel
theorem dX7_init_5 : decode cX7_init 5 = .ok (.aload_n 1, 1) := by decide +kernel
theorem dX7_init_6 : decode cX7_init 6 = .ok (.putfield 9, 3) := by decide +kernel
theorem dX7_init_9 : decode cX7_init 9 = .ok (.return_, 1) := by decide +kernel
theorem dX7_kind_0 : decode cX7_kind 0 = .ok (.aload_n 0, 1) := by decide +kernel
theorem dX7_kind_1 : decode cX7_kind 1 = .ok (.getfield 15, 3) := by decide +kernel
theorem dX7_kind_4 : decode cX7_kind 4 = .ok (.ireturn, 1) := by decide +kernel
theorem dX7_start_0 : decode cX7_start 0 = .ok (.aload_n 0, 1) := by decide +kernel
theorem dX7_start_1 : decode cX7_start 1 = .ok (.getfield 19, 3) := by decide +kernel
theorem dX7_start_4 : decode cX7_start 4 = .ok (.ireturn, 1) := by decide +kernel
theorem dX7_value_0 : decode cX7_value 0 = .ok (.aload_n 0, 1) := by decide +kernel
theorem dX7_value_1 : decode cX7_value 1 = .ok (.getfield 22, 3) := by decide +kernel
theorem dX7_value_4 : decode cX7_value 4 = .ok (.ireturn, 1) := by decide +kernel
theorem dX7_code_0 : decode cX7_code 0 = .ok (.aload_n 0, 1) := by decide +kernel
theorem dX7_code_1 : decode cX7_code 1 = .ok (.getfield 25, 3) := by decide +kernel
theorem dX7_code_4 : decode cX7_code 4 = .ok (.lreturn, 1) := by decide +kernel
theorem dX7_letterCount_0 : decode cX7_letterCount 0 = .ok (.aload_n 0, 1) := by decide +kernel
theorem dX7_letterCount_1 : decode cX7_letterCount 1 = .ok (.getfield 29, 3) := by decide +kernel
theorem dX7_letterCount_4 : decode cX7_letterCount 4 = .ok (.aload_n 0, 1) := by decide +kernel
theorem dX7_letterCount_5 : decode cX7_letterCount 5 = .ok (.getfield 19, 3) := by decide +kernel
theorem dX7_letterCount_8 : decode cX7_letterCount 8 = .ok (.isub, 1) := by decide +kernel
theorem dX7_letterCount_9 : decode cX7_letterCount 9 = .ok (.ireturn, 1) := by decide +kernel
theorem dX7_letter_0 : decode cX7_letter 0 = .ok (.aload_n 0, 1) := by decide +kernel
theorem dX7_letter_1 : decode cX7_letter 1 = .ok (.getfield 9, 3) := by decide +kernel
theorem dX7_letter_4 : decode cX7_letter 4 = .ok (.aload_n 0, 1) := by decide +kernel
theorem dX7_letter_5 : decode cX7_letter 5 = .ok (.getfield 19, 3) := by decide +kernel
theorem dX7_letter_8 : decode cX7_letter 8 = .ok (.iload_n 1, 1) := by decide +kernel
theorem dX7_letter_9 : decode cX7_letter 9 = .ok (.iadd, 1) := by decide +kernel
theorem dX7_letter_10 : decode cX7_letter 10 = .ok (.invokevirtual 32, 3) := by decide +kernel
theorem dX7_letter_13 : decode cX7_letter 13 = .ok (.ireturn, 1) := by decide +kernel
theorem dX7_open_0 : decode cX7_open 0 = .ok (.aload_n 0, 1) := by decide +kernel
theorem dX7_open_1 : decode cX7_open 1 = .ok (.iload_n 1, 1) := by decide +kernel
theorem dX7_open_2 : decode cX7_open 2 = .ok (.putfield 38, 3) := by decide +kernel
theorem dX7_open_5 : decode cX7_open 5 = .ok (.aload_n 0, 1) := by decide +kernel
theorem dX7_open_6 : decode cX7_open 6 = .ok (.iconst 0, 1) := by decide +kernel
theorem dX7_open_7 : decode cX7_open 7 = .ok (.putfield 29, 3) := by decide +kernel
theorem dX7_open_10 : decode cX7_open 10 = .ok (.aload_n 0, 1) := by decide +kernel
theorem dX7_open_11 : decode cX7_open 11 = .ok (.invokevirtual 41, 3) := by decide +kernel
theorem dX7_open_14 : decode cX7_open 14 = .ok (.return_, 1) := by decide +kernel
theorem dX7_goOn_0 : decode cX7_goOn 0 = .ok (.aload_n 0, 1) := by decide +kernel
theorem dX7_goOn_1 : decode cX7_goOn 1 = .ok (.getfield 29, 3) := by decide +kernel
theorem dX7_goOn_4 : decode cX7_goOn 4 = .ok (.istore_n 1, 1) := by decide +kernel
theorem dX7_goOn_5 : decode cX7_goOn 5 = .ok (.iload_n 1, 1) := by decide +kernel
theorem dX7_goOn_6 : decode cX7_goOn 6 = .ok (.aload_n 0, 1) := by decide +kernel
theorem dX7_goOn_7 : decode cX7_goOn 7 = .ok (.getfield 38, 3) := by decide +kernel
theorem dX7_goOn_10 : decode cX7_goOn 10 = .ok (.if_icmp .ge 29, 3) := by decide +kernel
theorem dX7_goOn_13 : decode cX7_goOn 13 = .ok (.aload_n 0, 1) := by decide +kernel
theorem dX7_goOn_14 : decode cX7_goOn 14 = .ok (.getfield 9, 3) := by decide +kernel
theorem dX7_goOn_17 : decode cX7_goOn 17 = .ok (.iload_n 1, 1) := by decide +kernel
theorem dX7_goOn_18 : decode cX7_goOn 18 = .ok (.invokevirtual 32, 3) := by decide +kernel
theorem dX7_goOn_21 : decode cX7_goOn 21 = .ok (.bipush 32, 2) := by decide +kernel
theorem dX7_goOn_23 : decode cX7_goOn 23 = .ok (.if_icmp .ne 16, 3) := by decide +kernel
theorem dX7_goOn_26 : decode cX7_goOn 26 = .ok (.aload_n 0, 1) := by decide +kernel
theorem dX7_goOn_27 : decode cX7_goOn 27 = .ok (.iload_n 1, 1) := by decide +kernel
theorem dX7_goOn_28 : decode cX7_goOn 28 = .ok (.iconst 1, 1) := by decide +kernel
theorem dX7_goOn_29 : decode cX7_goOn 29 = .ok (.iadd, 1) := by decide +kernel
theorem dX7_goOn_30 : decode cX7_goOn 30 = .ok (.putfield 29, 3) := by decide +kernel
theorem dX7_goOn_33 : decode cX7_goOn 33 = .ok (.iinc 1 1, 3) := by decide +kernel
theorem dX7_goOn_36 : decode cX7_goOn 36 = .ok (.goto (-31), 3) := by decide +kernel
theorem dX7_goOn_39 : decode cX7_goOn 39 = .ok (.aload_n 0, 1) := by decide +kernel
theorem dX7_goOn_40 : decode cX7_goOn 40 = .ok (.aload_n 0, 1) := by decide +kernel
theorem dX7_goOn_41 : decode cX7_goOn 41 = .ok (.getfield 29, 3) := by decide +kernel
theorem dX7_goOn_44 : decode cX7_goOn 44 = .ok (.putfield 19, 3) := by decide +kernel
theorem dX7_goOn_47 : decode cX7_goOn 47 = .ok (.aload_n 0, 1) := by decide +kernel
theorem dX7_goOn_48 : decode cX7_goOn 48 = .ok (.aload_n 0, 1) := by decide +kernel
theorem dX7_goOn_49 : decode cX7_goOn 49 = .ok (.getfield 19, 3) := by decide +kernel
theorem dX7_goOn_52 : decode cX7_goOn 52 = .ok (.aload_n 0, 1) := by decide +kernel
theorem dX7_goOn_53 : decode cX7_goOn 53 = .ok (.getfield 38, 3) := by decide +kernel
theorem dX7_goOn_56 : decode cX7_goOn 56 = .ok (.if_icmp .ge 20, 3) := by decide +kernel
theorem dX7_goOn_59 : decode cX7_goOn 59 = .ok (.aload_n 0, 1) := by decide +kernel
theorem dX7_goOn_60 : decode cX7_goOn 60 = .ok (.getfield 9, 3) := by decide +kernel
theorem dX7_goOn_63 : decode cX7_goOn 63 = .ok (.aload_n 0, 1) := by decide +kernel
theorem dX7_goOn_64 : decode cX7_goOn 64 = .ok (.getfield 19, 3) := by decide +kernel
theorem dX7_goOn_67 : decode cX7_goOn 67 = .ok (.invokevirtual 32, 3) := by decide +kernel
theorem dX7_goOn_70 : decode cX7_goOn 70 = .ok (.invokestatic 44, 3) := by decide +kernel
theorem dX7_goOn_73 : decode cX7_goOn 73 = .ok (.goto 4, 3) := by decide +kernel
theorem dX7_goOn_76 : decode cX7_goOn 76 = .ok (.iconst 0, 1) := by decide +kernel
theorem dX7_goOn_77 : decode cX7_goOn 77 = .ok (.putfield 15, 3) := by decide +kernel
theorem dX7_goOn_80 : decode cX7_goOn 80 = .ok (.aload_n 0, 1) := by decide +kernel
theorem dX7_goOn_81 : decode cX7_goOn 81 = .ok (.iconst 0, 1) := by decide +kernel
theorem dX7_goOn_82 : decode cX7_goOn 82 = .ok (.putfield 22, 3) := by decide +kernel
theorem dX7_goOn_85 : decode cX7_goOn 85 = .ok (.aload_n 0, 1) := by decide +kernel
theorem dX7_goOn_86 : decode cX7_goOn 86 = .ok (.lconst 0, 1) := by decide +kernel
theorem dX7_goOn_87 : decode cX7_goOn 87 = .ok (.putfield 25, 3) := by decide +kernel
theorem dX7_goOn_90 : decode cX7_goOn 90 = .ok (.aload_n 0, 1) := by decide +kernel
theorem dX7_goOn_91 : decode cX7_goOn 91 = .ok (.getfield 15, 3) := by decide +kernel
theorem dX7_goOn_94 : decode cX7_goOn 94 = .ok (.iconst 1, 1) := by decide +kernel
theorem dX7_goOn_95 : decode cX7_goOn 95 = .ok (.if_icmp .eq 11, 3) := by decide +kernel
theorem dX7_goOn_98 : decode cX7_goOn 98 = .ok (.aload_n 0, 1) := by decide +kernel
theorem dX7_goOn_99 : decode cX7_goOn 99 = .ok (.getfield 15, 3) := by decide +kernel
theorem dX7_goOn_102 : decode cX7_goOn 102 = .ok (.iconst 2, 1) := by decide +kernel
theorem dX7_goOn_103 : decode cX7_goOn 103 = .ok (.if_icmp .ne 10, 3) := by decide +kernel
theorem dX7_goOn_106 : decode cX7_goOn 106 = .ok (.aload_n 0, 1) := by decide +kernel
theorem dX7_goOn_107 : decode cX7_goOn 107 = .ok (.getfield 38, 3) := by decide +kernel
theorem dX7_goOn_110 : decode cX7_goOn 110 = .ok (.goto 16, 3) := by decide +kernel
theorem dX7_goOn_113 : decode cX7_goOn 113 = .ok (.aload_n 0, 1) := by decide +kernel
theorem dX7_goOn_114 : decode cX7_goOn 114 = .ok (.getfield 38, 3) := by decide +kernel
theorem dX7_goOn_117 : decode cX7_goOn 117 = .ok (.aload_n 0, 1) := by decide +kernel
theorem dX7_goOn_118 : decode cX7_goOn 118 = .ok (.getfield 19, 3) := by decide +kernel
theorem dX7_goOn_121 : decode cX7_goOn 121 = .ok (.iconst 1, 1) := by decide +kernel
theorem dX7_goOn_122 : decode cX7_goOn 122 = .ok (.iadd, 1) := by decide +kernel
theorem dX7_goOn_123 : decode cX7_goOn 123 = .ok (.invokestatic 47, 3) := by decide +kernel
theorem dX7_goOn_126 : decode cX7_goOn 126 = .ok (.istore_n 1, 1) := by decide +kernel
theorem dX7_goOn_127 : decode cX7_goOn 127 = .ok (.aload_n 0, 1) := by decide +kernel
theorem dX7_goOn_128 : decode cX7_goOn 128 = .ok (.getfield 19, 3) := by decide +kernel
theorem dX7_goOn_131 : decode cX7_goOn 131 = .ok (.istore_n 2, 1) := by decide +kernel
theorem dX7_goOn_132 : decode cX7_goOn 132 = .ok (.iload_n 2, 1) := by decide +kernel
theorem dX7_goOn_133 : decode cX7_goOn 133 = .ok (.iload_n 1, 1) := by decide +kernel
theorem dX7_goOn_134 : decode cX7_goOn 134 = .ok (.if_icmp .ge 84, 3) := by decide +kernel
theorem dX7_goOn_137 : decode cX7_goOn 137 = .ok (.aload_n 0, 1) := by decide +kernel
theorem dX7_goOn_138 : decode cX7_goOn 138 = .ok (.getfield 9, 3) := by decide +kernel
theorem dX7_goOn_141 : decode cX7_goOn 141 = .ok (.iload_n 2, 1) := by decide +kernel
theorem dX7_goOn_142 : decode cX7_goOn 142 = .ok (.invokevirtual 32, 3) := by decide +kernel
theorem dX7_goOn_145 : decode cX7_goOn 145 = .ok (.invokestatic 44, 3) := by decide +kernel
theorem dX7_goOn_148 : decode cX7_goOn 148 = .ok (.aload_n 0, 1) := by decide +kernel
theorem dX7_goOn_149 : decode cX7_goOn 149 = .ok (.getfield 15, 3) := by decide +kernel
theorem dX7_goOn_152 : decode cX7_goOn 152 = .ok (.if_icmp .ne 66, 3) := by decide +kernel
theorem dX7_goOn_155 : decode cX7_goOn 155 = .ok (.aload_n 0, 1) := by decide +kernel
theorem dX7_goOn_156 : decode cX7_goOn 156 = .ok (.aload_n 0, 1) := by decide +kernel
theorem dX7_goOn_157 : decode cX7_goOn 157 = .ok (.getfield 22, 3) := by decide +kernel
theorem dX7_goOn_160 : decode cX7_goOn 160 = .ok (.bipush 10, 2) := by decide +kernel
theorem dX7_goOn_162 : decode cX7_goOn 162 = .ok (.imul, 1) := by decide +kernel
theorem dX7_goOn_163 : decode cX7_goOn 163 = .ok (.aload_n 0, 1) := by decide +kernel
theorem dX7_goOn_164 : decode cX7_goOn 164 = .ok (.getfield 9, 3) := by decide +kernel
theorem dX7_goOn_167 : decode cX7_goOn 167 = .ok (.iload_n 2, 1) := by decide +kernel
theorem dX7_goOn_168 : decode cX7_goOn 168 = .ok (.invokevirtual 32, 3) := by decide +kernel
theorem dX7_goOn_171 : decode cX7_goOn 171 = .ok (.bipush 48, 2) := by decide +kernel
theorem dX7_goOn_173 : decode cX7_goOn 173 = .ok (.isub, 1) := by decide +kernel
theorem dX7_goOn_174 : decode cX7_goOn 174 = .ok (.iadd, 1) := by decide +kernel
theorem dX7_goOn_175 : decode cX7_goOn 175 = .ok (.putfield 22, 3) := by decide +kernel
theorem dX7_goOn_178 : decode cX7_goOn 178 = .ok (.aload_n 0, 1) := by decide +kernel
theorem dX7_goOn_179 : decode cX7_goOn 179 = .ok (.aload_n 0, 1) := by decide +kernel
theorem dX7_goOn_180 : decode cX7_goOn 180 = .ok (.getfield 25, 3) := by decide +kernel
theorem dX7_goOn_183 : decode cX7_goOn 183 = .ok (.ldc2_w 53, 3) := by decide +kernel
theorem dX7_goOn_186 : decode cX7_goOn 186 = .ok (.lmul, 1) := by decide +kernel
theorem dX7_goOn_187 : decode cX7_goOn 187 = .ok (.aload_n 0, 1) := by decide +kernel
theorem dX7_goOn_188 : decode cX7_goOn 188 = .ok (.getfield 9, 3) := by decide +kernel
theorem dX7_goOn_191 : decode cX7_goOn 191 = .ok (.iload_n 2, 1) := by decide +kernel
theorem dX7_goOn_192 : decode cX7_goOn 192 = .ok (.invokevirtual 32, 3) := by decide +kernel
theorem dX7_goOn_195 : decode cX7_goOn 195 = .ok (.bipush 97, 2) := by decide +kernel
theorem dX7_goOn_197 : decode cX7_goOn 197 = .ok (.isub, 1) := by decide +kernel
theorem dX7_goOn_198 : decode cX7_goOn 198 = .ok (.iconst 1, 1) := by decide +kernel
theorem dX7_goOn_199 : decode cX7_goOn 199 = .ok (.iadd, 1) := by decide +kernel
theorem dX7_goOn_200 : decode cX7_goOn 200 = .ok (.i2l, 1) := by decide +kernel
theorem dX7_goOn_201 : decode cX7_goOn 201 = .ok (.ladd, 1) := by decide +kernel
theorem dX7_goOn_202 : decode cX7_goOn 202 = .ok (.putfield 25, 3) := by decide +kernel
theorem dX7_goOn_205 : decode cX7_goOn 205 = .ok (.aload_n 0, 1) := by decide +kernel
theorem dX7_goOn_206 : decode cX7_goOn 206 = .ok (.iload_n 2, 1) := by decide +kernel
theorem dX7_goOn_207 : decode cX7_goOn 207 = .ok (.iconst 1, 1) := by decide +kernel
theorem dX7_goOn_208 : decode cX7_goOn 208 = .ok (.iadd, 1) := by decide +kernel
theorem dX7_goOn_209 : decode cX7_goOn 209 = .ok (.putfield 29, 3) := by decide +kernel
theorem dX7_goOn_212 : decode cX7_goOn 212 = .ok (.iinc 2 1, 3) := by decide +kernel
theorem dX7_goOn_215 : decode cX7_goOn 215 = .ok (.goto (-83), 3) := by decide +kernel
theorem dX7_goOn_218 : decode cX7_goOn 218 = .ok (.aload_n 0, 1) := by decide +kernel
theorem dX7_goOn_219 : decode cX7_goOn 219 = .ok (.getfield 29, 3) := by decide +kernel
theorem dX7_goOn_222 : decode cX7_goOn 222 = .ok (.aload_n 0, 1) := by decide +kernel
theorem dX7_goOn_223 : decode cX7_goOn 223 = .ok (.getfield 19, 3) := by decide +kernel
theorem dX7_goOn_226 : decode cX7_goOn 226 = .ok (.isub, 1) := by decide +kernel
theorem dX7_goOn_227 : decode cX7_goOn 227 = .ok (.aload_n 0, 1) := by decide +kernel
theorem dX7_goOn_228 : decode cX7_goOn 228 = .ok (.invokevirtual 55, 3) := by decide +kernel
theorem dX7_goOn_231 : decode cX7_goOn 231 = .ok (.if_icmp .le 8, 3) := by decide +kernel
theorem dX7_goOn_234 : decode cX7_goOn 234 = .ok (.aload_n 0, 1) := by decide +kernel
theorem dX7_goOn_235 : decode cX7_goOn 235 = .ok (.iconst 4, 1) := by decide +kernel
theorem dX7_goOn_236 : decode cX7_goOn 236 = .ok (.putfield 15, 3) := by decide +kernel
theorem dX7_goOn_239 : decode cX7_goOn 239 = .ok (.return_, 1) := by decide +kernel
theorem dX7_isSign_0 : decode cX7_isSign 0 = .ok (.aload_n 0, 1) := by decide +kernel
theorem dX7_isSign_1 : decode cX7_isSign 1 = .ok (.getfield 15, 3) := by decide +kernel
theorem dX7_isSign_4 : decode cX7_isSign 4 = .ok (.iconst 3, 1) := by decide +kernel
theorem dX7_isSign_5 : decode cX7_isSign 5 = .ok (.if_icmp .ne 22, 3) := by decide +kernel
theorem dX7_isSign_8 : decode cX7_isSign 8 = .ok (.aload_n 0, 1) := by decide +kernel
theorem dX7_isSign_9 : decode cX7_isSign 9 = .ok (.getfield 9, 3) := by decide +kernel
theorem dX7_isSign_12 : decode cX7_isSign 12 = .ok (.aload_n 0, 1) := by decide +kernel
theorem dX7_isSign_13 : decode cX7_isSign 13 = .ok (.getfield 19, 3) := by decide +kernel
theorem dX7_isSign_16 : decode cX7_isSign 16 = .ok (.invokevirtual 32, 3) := by decide +kernel
theorem dX7_isSign_19 : decode cX7_isSign 19 = .ok (.iload_n 1, 1) := by decide +kernel
theorem dX7_isSign_20 : decode cX7_isSign 20 = .ok (.if_icmp .ne 7, 3) := by decide +kernel
theorem dX7_isSign_23 : decode cX7_isSign 23 = .ok (.iconst 1, 1) := by decide +kernel
theorem dX7_isSign_24 : decode cX7_isSign 24 = .ok (.goto 4, 3) := by decide +kernel
theorem dX7_isSign_27 : decode cX7_isSign 27 = .ok (.iconst 0, 1) := by decide +kernel
theorem dX7_isSign_28 : decode cX7_isSign 28 = .ok (.ireturn, 1) := by decide +kernel
theorem dX7_isWord_0 : decode cX7_isWord 0 = .ok (.aload_n 0, 1) := by decide +kernel
theorem dX7_isWord_1 : decode cX7_isWord 1 = .ok (.getfield 15, 3) := by decide +kernel
theorem dX7_isWord_4 : decode cX7_isWord 4 = .ok (.iconst 1, 1) := by decide +kernel
theorem dX7_isWord_5 : decode cX7_isWord 5 = .ok (.if_icmp .ne 18, 3) := by decide +kernel
theorem dX7_isWord_8 : decode cX7_isWord 8 = .ok (.aload_n 0, 1) := by decide +kernel
theorem dX7_isWord_9 : decode cX7_isWord 9 = .ok (.invokevirtual 59, 3) := by decide +kernel
theorem dX7_isWord_12 : decode cX7_isWord 12 = .ok (.aload_n 1, 1) := by decide +kernel
theorem dX7_isWord_13 : decode cX7_isWord 13 = .ok (.invokevirtual 62, 3) := by decide +kernel
theorem dX7_isWord_16 : decode cX7_isWord 16 = .ok (.if_icmp .ne 7, 3) := by decide +kernel
theorem dX7_isWord_19 : decode cX7_isWord 19 = .ok (.iconst 1, 1) := by decide +kernel
theorem dX7_isWord_20 : decode cX7_isWord 20 = .ok (.goto 4, 3) := by decide +kernel
theorem dX7_isWord_23 : decode cX7_isWord 23 = .ok (.iconst 0, 1) := by decide +kernel
theorem dX7_isWord_24 : decode cX7_isWord 24 = .ok (.istore_n 2, 1) := by decide +kernel
theorem dX7_isWord_25 : decode cX7_isWord 25 = .ok (.iconst 0, 1) := by decide +kernel
theorem dX7_isWord_26 : decode cX7_isWord 26 = .ok (.istore_n 3, 1) := by decide +kernel
theorem dX7_isWord_27 : decode cX7_isWord 27 = .ok (.iload_n 2, 1) := by decide +kernel
theorem dX7_isWord_28 : decode cX7_isWord 28 = .ok (.ifCond .eq 44, 3) := by decide +kernel
theorem dX7_isWord_31 : decode cX7_isWord 31 = .ok (.iload_n 3, 1) := by decide +kernel
theorem dX7_isWord_32 : decode cX7_isWord 32 = .ok (.aload_n 1, 1) := by decide +kernel
theorem dX7_isWord_33 : decode cX7_isWord 33 = .ok (.invokevirtual 62, 3) := by decide +kernel
theorem dX7_isWord_36 : decode cX7_isWord 36 = .ok (.if_icmp .ge 36, 3) := by decide +kernel
theorem dX7_isWord_39 : decode cX7_isWord 39 = .ok (.aload_n 0, 1) := by decide +kernel
theorem dX7_isWord_40 : decode cX7_isWord 40 = .ok (.getfield 9, 3) := by decide +kernel
theorem dX7_isWord_43 : decode cX7_isWord 43 = .ok (.aload_n 0, 1) := by decide +kernel
theorem dX7_isWord_44 : decode cX7_isWord 44 = .ok (.getfield 19, 3) := by decide +kernel
theorem dX7_isWord_47 : decode cX7_isWord 47 = .ok (.iload_n 3, 1) := by decide +kernel
theorem dX7_isWord_48 : decode cX7_isWord 48 = .ok (.iadd, 1) := by decide +kernel
theorem dX7_isWord_49 : decode cX7_isWord 49 = .ok (.invokevirtual 32, 3) := by decide +kernel
theorem dX7_isWord_52 : decode cX7_isWord 52 = .ok (.aload_n 1, 1) := by decide +kernel
theorem dX7_isWord_53 : decode cX7_isWord 53 = .ok (.iload_n 3, 1) := by decide +kernel
theorem dX7_isWord_54 : decode cX7_isWord 54 = .ok (.invokevirtual 67, 3) := by decide +kernel
theorem dX7_isWord_57 : decode cX7_isWord 57 = .ok (.if_icmp .ne 7, 3) := by decide +kernel
theorem dX7_isWord_60 : decode cX7_isWord 60 = .ok (.iconst 1, 1) := by decide +kernel
theorem dX7_isWord_61 : decode cX7_isWord 61 = .ok (.goto 4, 3) := by decide +kernel
theorem dX7_isWord_64 : decode cX7_isWord 64 = .ok (.iconst 0, 1) := by decide +kernel
theorem dX7_isWord_65 : decode cX7_isWord 65 = .ok (.istore_n 2, 1) := by decide +kernel
theorem dX7_isWord_66 : decode cX7_isWord 66 = .ok (.iinc 3 1, 3) := by decide +kernel
theorem dX7_isWord_69 : decode cX7_isWord 69 = .ok (.goto (-42), 3) := by decide +kernel
theorem dX7_isWord_72 : decode cX7_isWord 72 = .ok (.iload_n 2, 1) := by decide +kernel
theorem dX7_isWord_73 : decode cX7_isWord 73 = .ok (.ireturn, 1) := by decide +kernel
theorem dX7_numberIn_0 : decode cX7_numberIn 0 = .ok (.iconst 0, 1) := by decide +kernel
theorem dX7_numberIn_1 : decode cX7_numberIn 1 = .ok (.istore_n 2, 1) := by decide +kernel
theorem dX7_numberIn_2 : decode cX7_numberIn 2 = .ok (.iconst 0, 1) := by decide +kernel
theorem dX7_numberIn_3 : decode cX7_numberIn 3 = .ok (.istore_n 3, 1) := by decide +kernel
theorem dX7_numberIn_4 : decode cX7_numberIn 4 = .ok (.iconst 0, 1) := by decide +kernel
theorem dX7_numberIn_5 : decode cX7_numberIn 5 = .ok (.istore 4, 2) := by decide +kernel
theorem dX7_numberIn_7 : decode cX7_numberIn 7 = .ok (.iload 4, 2) := by decide +kernel
theorem dX7_numberIn_9 : decode cX7_numberIn 9 = .ok (.aload_n 1, 1) := by decide +kernel
theorem dX7_numberIn_10 : decode cX7_numberIn 10 = .ok (.invokevirtual 62, 3) := by decide +kernel
theorem dX7_numberIn_13 : decode cX7_numberIn 13 = .ok (.if_icmp .gt 62, 3) := by decide +kernel
theorem dX7_numberIn_16 : decode cX7_numberIn 16 = .ok (.iload 4, 2) := by decide +kernel
theorem dX7_numberIn_18 : decode cX7_numberIn 18 = .ok (.aload_n 1, 1) := by decide +kernel
theorem dX7_numberIn_19 : decode cX7_numberIn 19 = .ok (.invokevirtual 62, 3) := by decide +kernel
theorem dX7_numberIn_22 : decode cX7_numberIn 22 = .ok (.if_icmp .eq 14, 3) := by decide +kernel
theorem dX7_numberIn_25 : decode cX7_numberIn 25 = .ok (.aload_n 1, 1) := by decide +kernel
theorem dX7_numberIn_26 : decode cX7_numberIn 26 = .ok (.iload 4, 2) := by decide +kernel
theorem dX7_numberIn_28 : decode cX7_numberIn 28 = .ok (.invokevirtual 67, 3) := by decide +kernel
theorem dX7_numberIn_31 : decode cX7_numberIn 31 = .ok (.bipush 32, 2) := by decide +kernel
theorem dX7_numberIn_33 : decode cX7_numberIn 33 = .ok (.if_icmp .ne 36, 3) := by decide +kernel
theorem dX7_numberIn_36 : decode cX7_numberIn 36 = .ok (.aload_n 0, 1) := by decide +kernel
theorem dX7_numberIn_37 : decode cX7_numberIn 37 = .ok (.getfield 15, 3) := by decide +kernel
theorem dX7_numberIn_40 : decode cX7_numberIn 40 = .ok (.iconst 1, 1) := by decide +kernel
theorem dX7_numberIn_41 : decode cX7_numberIn 41 = .ok (.if_icmp .ne 20, 3) := by decide +kernel
theorem dX7_numberIn_44 : decode cX7_numberIn 44 = .ok (.aload_n 0, 1) := by decide +kernel
theorem dX7_numberIn_45 : decode cX7_numberIn 45 = .ok (.getfield 25, 3) := by decide +kernel
theorem dX7_numberIn_48 : decode cX7_numberIn 48 = .ok (.aload_n 1, 1) := by decide +kernel
theorem dX7_numberIn_49 : decode cX7_numberIn 49 = .ok (.iload_n 3, 1) := by decide +kernel
theorem dX7_numberIn_50 : decode cX7_numberIn 50 = .ok (.iload 4, 2) := by decide +kernel
theorem dX7_numberIn_52 : decode cX7_numberIn 52 = .ok (.invokestatic 71, 3) := by decide +kernel
theorem dX7_numberIn_55 : decode cX7_numberIn 55 = .ok (.lcmp, 1) := by decide +kernel
theorem dX7_numberIn_56 : decode cX7_numberIn 56 = .ok (.ifCond .ne 5, 3) := by decide +kernel
theorem dX7_numberIn_59 : decode cX7_numberIn 59 = .ok (.iload_n 2, 1) := by decide +kernel
theorem dX7_numberIn_60 : decode cX7_numberIn 60 = .ok (.ireturn, 1) := by decide +kernel
theorem dX7_numberIn_61 : decode cX7_numberIn 61 = .ok (.iinc 2 1, 3) := by decide +kernel
theorem dX7_numberIn_64 : decode cX7_numberIn 64 = .ok (.iload 4, 2) := by decide +kernel
theorem dX7_numberIn_66 : decode cX7_numberIn 66 = .ok (.iconst 1, 1) := by decide +kernel
theorem dX7_numberIn_67 : decode cX7_numberIn 67 = .ok (.iadd, 1) := by decide +kernel
theorem dX7_numberIn_68 : decode cX7_numberIn 68 = .ok (.istore_n 3, 1) := by decide +kernel
theorem dX7_numberIn_69 : decode cX7_numberIn 69 = .ok (.iinc 4 1, 3) := by decide +kernel
theorem dX7_numberIn_72 : decode cX7_numberIn 72 = .ok (.goto (-65), 3) := by decide +kernel
theorem dX7_numberIn_75 : decode cX7_numberIn 75 = .ok (.iconst (-1), 1) := by decide +kernel
theorem dX7_numberIn_76 : decode cX7_numberIn 76 = .ok (.ireturn, 1) := by decide +kernel
theorem dX7_mostBytes_0 : decode cX7_mostBytes 0 = .ok (.aload_n 0, 1) := by decide +kernel
theorem dX7_mostBytes_1 : decode cX7_mostBytes 1 = .ok (.getfield 15, 3) := by decide +kernel
theorem dX7_mostBytes_4 : decode cX7_mostBytes 4 = .ok (.iconst 1, 1) := by decide +kernel
theorem dX7_mostBytes_5 : decode cX7_mostBytes 5 = .ok (.if_icmp .ne 8, 3) := by decide +kernel
theorem dX7_mostBytes_8 : decode cX7_mostBytes 8 = .ok (.bipush 8, 2) := by decide +kernel
theorem dX7_mostBytes_10 : decode cX7_mostBytes 10 = .ok (.goto 16, 3) := by decide +kernel
theorem dX7_mostBytes_13 : decode cX7_mostBytes 13 = .ok (.aload_n 0, 1) := by decide +kernel
theorem dX7_mostBytes_14 : decode cX7_mostBytes 14 = .ok (.getfield 15, 3) := by decide +kernel
theorem dX7_mostBytes_17 : decode cX7_mostBytes 17 = .ok (.iconst 2, 1) := by decide +kernel
theorem dX7_mostBytes_18 : decode cX7_mostBytes 18 = .ok (.if_icmp .ne 7, 3) := by decide +kernel
theorem dX7_mostBytes_21 : decode cX7_mostBytes 21 = .ok (.iconst 3, 1) := by decide +kernel
theorem dX7_mostBytes_22 : decode cX7_mostBytes 22 = .ok (.goto 4, 3) := by decide +kernel
theorem dX7_mostBytes_25 : decode cX7_mostBytes 25 = .ok (.iconst 1, 1) := by decide +kernel
theorem dX7_mostBytes_26 : decode cX7_mostBytes 26 = .ok (.ireturn, 1) := by decide +kernel
theorem dX7_kindOf_0 : decode cX7_kindOf 0 = .ok (.iload_n 0, 1) := by decide +kernel
theorem dX7_kindOf_1 : decode cX7_kindOf 1 = .ok (.bipush 97, 2) := by decide +kernel
theorem dX7_kindOf_3 : decode cX7_kindOf 3 = .ok (.if_icmp .lt 11, 3) := by decide +kernel
theorem dX7_kindOf_6 : decode cX7_kindOf 6 = .ok (.iload_n 0, 1) := by decide +kernel
theorem dX7_kindOf_7 : decode cX7_kindOf 7 = .ok (.bipush 122, 2) := by decide +kernel
theorem dX7_kindOf_9 : decode cX7_kindOf 9 = .ok (.if_icmp .gt 5, 3) := by decide +kernel
theorem dX7_kindOf_12 : decode cX7_kindOf 12 = .ok (.iconst 1, 1) := by decide +kernel
theorem dX7_kindOf_13 : decode cX7_kindOf 13 = .ok (.ireturn, 1) := by decide +kernel
theorem dX7_kindOf_14 : decode cX7_kindOf 14 = .ok (.iload_n 0, 1) := by decide +kernel
theorem dX7_kindOf_15 : decode cX7_kindOf 15 = .ok (.bipush 48, 2) := by decide +kernel
theorem dX7_kindOf_17 : decode cX7_kindOf 17 = .ok (.if_icmp .lt 11, 3) := by decide +kernel
theorem dX7_kindOf_20 : decode cX7_kindOf 20 = .ok (.iload_n 0, 1) := by decide +kernel
theorem dX7_kindOf_21 : decode cX7_kindOf 21 = .ok (.bipush 57, 2) := by decide +kernel
theorem dX7_kindOf_23 : decode cX7_kindOf 23 = .ok (.if_icmp .gt 5, 3) := by decide +kernel
theorem dX7_kindOf_26 : decode cX7_kindOf 26 = .ok (.iconst 2, 1) := by decide +kernel
theorem dX7_kindOf_27 : decode cX7_kindOf 27 = .ok (.ireturn, 1) := by decide +kernel
theorem dX7_kindOf_28 : decode cX7_kindOf 28 = .ok (.iload_n 0, 1) := by decide +kernel
theorem dX7_kindOf_29 : decode cX7_kindOf 29 = .ok (.bipush 59, 2) := by decide +kernel
theorem dX7_kindOf_31 : decode cX7_kindOf 31 = .ok (.if_icmp .eq 9, 3) := by decide +kernel
theorem dX7_kindOf_34 : decode cX7_kindOf 34 = .ok (.iload_n 0, 1) := by decide +kernel
theorem dX7_kindOf_35 : decode cX7_kindOf 35 = .ok (.bipush 44, 2) := by decide +kernel
theorem dX7_kindOf_37 : decode cX7_kindOf 37 = .ok (.if_icmp .ne 7, 3) := by decide +kernel
theorem dX7_kindOf_40 : decode cX7_kindOf 40 = .ok (.iconst 3, 1) := by decide +kernel
theorem dX7_kindOf_41 : decode cX7_kindOf 41 = .ok (.goto 4, 3) := by decide +kernel
theorem dX7_kindOf_44 : decode cX7_kindOf 44 = .ok (.iconst 4, 1) := by decide +kernel
theorem dX7_kindOf_45 : decode cX7_kindOf 45 = .ok (.ireturn, 1) := by decide +kernel
theorem dX7_codeOf_0 : decode cX7_codeOf 0 = .ok (.lconst 0, 1) := by decide +kernel
theorem dX7_codeOf_1 : decode cX7_codeOf 1 = .ok (.lstore_n 3, 1) := by decide +kernel
theorem dX7_codeOf_2 : decode cX7_codeOf 2 = .ok (.iload_n 1, 1) := by decide +kernel
theorem dX7_codeOf_3 : decode cX7_codeOf 3 = .ok (.istore 5, 2) := by decide +kernel
theorem dX7_codeOf_5 : decode cX7_codeOf 5 = .ok (.iload 5, 2) := by decide +kernel
theorem dX7_codeOf_7 : decode cX7_codeOf 7 = .ok (.iload_n 2, 1) := by decide +kernel
theorem dX7_codeOf_8 : decode cX7_codeOf 8 = .ok (.if_icmp .ge 37, 3) := by decide +kernel
theorem dX7_codeOf_11 : decode cX7_codeOf 11 = .ok (.iload 5, 2) := by decide +kernel
theorem dX7_codeOf_13 : decode cX7_codeOf 13 = .ok (.aload_n 0, 1) := by decide +kernel
theorem dX7_codeOf_14 : decode cX7_codeOf 14 = .ok (.invokevirtual 62, 3) := by decide +kernel
theorem dX7_codeOf_17 : decode cX7_codeOf 17 = .ok (.if_icmp .ge 28, 3) := by decide +kernel
theorem dX7_codeOf_20 : decode cX7_codeOf 20 = .ok (.lload_n 3, 1) := by decide +kernel
theorem dX7_codeOf_21 : decode cX7_codeOf 21 = .ok (.ldc2_w 53, 3) := by decide +kernel
theorem dX7_codeOf_24 : decode cX7_codeOf 24 = .ok (.lmul, 1) := by decide +kernel
theorem dX7_codeOf_25 : decode cX7_codeOf 25 = .ok (.aload_n 0, 1) := by decide +kernel
theorem dX7_codeOf_26 : decode cX7_codeOf 26 = .ok (.iload 5, 2) := by decide +kernel
theorem dX7_codeOf_28 : decode cX7_codeOf 28 = .ok (.invokevirtual 67, 3) := by decide +kernel
theorem dX7_codeOf_31 : decode cX7_codeOf 31 = .ok (.bipush 97, 2) := by decide +kernel
theorem dX7_codeOf_33 : decode cX7_codeOf 33 = .ok (.isub, 1) := by decide +kernel
theorem dX7_codeOf_34 : decode cX7_codeOf 34 = .ok (.iconst 1, 1) := by decide +kernel
theorem dX7_codeOf_35 : decode cX7_codeOf 35 = .ok (.iadd, 1) := by decide +kernel
theorem dX7_codeOf_36 : decode cX7_codeOf 36 = .ok (.i2l, 1) := by decide +kernel
theorem dX7_codeOf_37 : decode cX7_codeOf 37 = .ok (.ladd, 1) := by decide +kernel
theorem dX7_codeOf_38 : decode cX7_codeOf 38 = .ok (.lstore_n 3, 1) := by decide +kernel
theorem dX7_codeOf_39 : decode cX7_codeOf 39 = .ok (.iinc 5 1, 3) := by decide +kernel
theorem dX7_codeOf_42 : decode cX7_codeOf 42 = .ok (.goto (-37), 3) := by decide +kernel
theorem dX7_codeOf_45 : decode cX7_codeOf 45 = .ok (.lload_n 3, 1) := by decide +kernel
theorem dX7_codeOf_46 : decode cX7_codeOf 46 = .ok (.lreturn, 1) := by decide +kernel
theorem dX8_init_0 : decode cX8_init 0 = .ok (.aload_n 0, 1) := by decide +kernel
theorem dX8_init_1 : decode cX8_init 1 = .ok (.invokespecial 3, 3) := by decide +kernel
theorem dX8_init_4 : decode cX8_init 4 = .ok (.aload_n 0, 1) := by decide +kernel
theorem dX8_init_5 : decode cX8_init 5 = .ok (.sipush 201, 3) := by decide +kernel
theorem dX8_init_8 : decode cX8_init 8 = .ok (.newarray .int, 2) := by decide +kernel
theorem dX8_init_10 : decode cX8_init 10 = .ok (.putfield 9, 3) := by decide +kernel
theorem dX8_init_13 : decode cX8_init 13 = .ok (.aload_n 0, 1) := by decide +kernel
theorem dX8_init_14 : decode cX8_init 14 = .ok (.bipush 48, 2) := by decide +kernel
theorem dX8_init_16 : decode cX8_init 16 = .ok (.newarray .int, 2) := by decide +kernel
theorem dX8_init_18 : decode cX8_init 18 = .ok (.putfield 15, 3) := by decide +kernel
theorem dX8_init_21 : decode cX8_init 21 = .ok (.aload_n 0, 1) := by decide +kernel
theorem dX8_init_22 : decode cX8_init 22 = .ok (.bipush 48, 2) := by decide +kernel
theorem dX8_init_24 : decode cX8_init 24 = .ok (.newarray .int, 2) := by decide +kernel
theorem dX8_init_26 : decode cX8_init 26 = .ok (.putfield 18, 3) := by decide +kernel
theorem dX8_init_29 : decode cX8_init 29 = .ok (.aload_n 0, 1) := by decide +kernel
theorem dX8_init_30 : decode cX8_init 30 = .ok (.aload_n 1, 1) := by decide +kernel
theorem dX8_init_31 : decode cX8_init 31 = .ok (.putfield 21, 3) := by decide +kernel
theorem dX8_init_34 : decode cX8_init 34 = .ok (.aload_n 0, 1) := by decide +kernel
theorem dX8_init_35 : decode cX8_init 35 = .ok (.aload_n 1, 1) := by decide +kernel
theorem dX8_init_36 : decode cX8_init 36 = .ok (.iconst 0, 1) := by decide +kernel
theorem dX8_init_37 : decode cX8_init 37 = .ok (.invokevirtual 25, 3) := by decide +kernel
theorem dX8_init_40 : decode cX8_init 40 = .ok (.putfield 31, 3) := by decide +kernel
theorem dX8_init_43 : decode cX8_init 43 = .ok (.return_, 1) := by decide +kernel
theorem dX8_begin_0 : decode cX8_begin 0 = .ok (.aload_n 0, 1) := by decide +kernel
theorem dX8_begin_1 : decode cX8_begin 1 = .ok (.aload_n 1, 1) := by decide +kernel
theorem dX8_begin_2 : decode cX8_begin 2 = .ok (.putfield 21, 3) := by decide +kernel
theorem dX8_begin_5 : decode cX8_begin 5 = .ok (.aload_n 0, 1) := by decide +kernel
theorem dX8_begin_6 : decode cX8_begin 6 = .ok (.aload_n 0, 1) := by decide +kernel
theorem dX8_begin_7 : decode cX8_begin 7 = .ok (.getfield 21, 3) := by decide +kernel
theorem dX8_begin_10 : decode cX8_begin 10 = .ok (.iload_n 2, 1) := by decide +kernel
theorem dX8_begin_11 : decode cX8_begin 11 = .ok (.invokevirtual 25, 3) := by decide +kernel
theorem dX8_begin_14 : decode cX8_begin 14 = .ok (.putfield 31, 3) := by decide +kernel
theorem dX8_begin_17 : decode cX8_begin 17 = .ok (.aload_n 0, 1) := by decide +kernel
theorem dX8_begin_18 : decode cX8_begin 18 = .ok (.lload_n 3, 1) := by decide +kernel
theorem dX8_begin_19 : decode cX8_begin 19 = .ok (.putfield 34, 3) := by decide +kernel
theorem dX8_begin_22 : decode cX8_begin 22 = .ok (.aload_n 0, 1) := by decide +kernel
theorem dX8_begin_23 : decode cX8_begin 23 = .ok (.aload_n 0, 1) := by decide +kernel
theorem dX8_begin_24 : decode cX8_begin 24 = .ok (.getfield 31, 3) := by decide +kernel
theorem dX8_begin_27 : decode cX8_begin 27 = .ok (.getfield 38, 3) := by decide +kernel
theorem dX8_begin_30 : decode cX8_begin 30 = .ok (.putfield 44, 3) := by decide +kernel
theorem dX8_begin_33 : decode cX8_begin 33 = .ok (.aload_n 0, 1) := by decide +kernel
theorem dX8_begin_34 : decode cX8_begin 34 = .ok (.aload_n 0, 1) := by decide +kernel
theorem dX8_begin_35 : decode cX8_begin 35 = .ok (.getfield 31, 3) := by decide +kernel
theorem dX8_begin_38 : decode cX8_begin 38 = .ok (.getfield 45, 3) := by decide +kernel
theorem dX8_begin_41 : decode cX8_begin 41 = .ok (.putfield 48, 3) := by decide +kernel
theorem dX8_begin_44 : decode cX8_begin 44 = .ok (.aload_n 0, 1) := by decide +kernel
theorem dX8_begin_45 : decode cX8_begin 45 = .ok (.iload 5, 2) := by decide +kernel
theorem dX8_begin_47 : decode cX8_begin 47 = .ok (.iload_n 2, 1) := by decide +kernel
theorem dX8_begin_48 : decode cX8_begin 48 = .ok (.iadd, 1) := by decide +kernel
theorem dX8_begin_49 : decode cX8_begin 49 = .ok (.ldc 51, 2) := by decide +kernel
theorem dX8_begin_51 : decode cX8_begin 51 = .ok (.irem, 1) := by decide +kernel
theorem dX8_begin_52 : decode cX8_begin 52 = .ok (.putfield 52, 3) := by decide +kernel
theorem dX8_begin_55 : decode cX8_begin 55 = .ok (.aload_n 0, 1) := by decide +kernel
theorem dX8_begin_56 : decode cX8_begin 56 = .ok (.lconst 0, 1) := by decide +kernel
theorem dX8_begin_57 : decode cX8_begin 57 = .ok (.putfield 55, 3) := by decide +kernel
theorem dX8_begin_60 : decode cX8_begin 60 = .ok (.aload_n 0, 1) := by decide +kernel
theorem dX8_begin_61 : decode cX8_begin 61 = .ok (.aload_n 0, 1) := by decide +kernel
theorem dX8_begin_62 : decode cX8_begin 62 = .ok (.getfield 44, 3) := by decide +kernel
theorem dX8_begin_65 : decode cX8_begin 65 = .ok (.iconst (-1), 1) := by decide +kernel
theorem dX8_begin_66 : decode cX8_begin 66 = .ok (.invokevirtual 58, 3) := by decide +kernel
theorem dX8_begin_69 : decode cX8_begin 69 = .ok (.aload_n 0, 1) := by decide +kernel
theorem dX8_begin_70 : decode cX8_begin 70 = .ok (.getfield 31, 3) := by decide +kernel
theorem dX8_begin_73 : decode cX8_begin 73 = .ok (.getfield 62, 3) := by decide +kernel
theorem dX8_begin_76 : decode cX8_begin 76 = .ok (.iconst 3, 1) := by decide +kernel
theorem dX8_begin_77 : decode cX8_begin 77 = .ok (.if_icmp .ne 43, 3) := by decide +kernel
theorem dX8_begin_80 : decode cX8_begin 80 = .ok (.aload_n 0, 1) := by decide +kernel
theorem dX8_begin_81 : decode cX8_begin 81 = .ok (.getfield 21, 3) := by decide +kernel
theorem dX8_begin_84 : decode cX8_begin 84 = .ok (.getfield 65, 3) := by decide +kernel
theorem dX8_begin_87 : decode cX8_begin 87 = .ok (.aload_n 0, 1) := by decide +kernel
theorem dX8_begin_88 : decode cX8_begin 88 = .ok (.getfield 34, 3) := by decide +kernel
theorem dX8_begin_91 : decode cX8_begin 91 = .ok (.aload_n 0, 1) := by decide +kernel
theorem dX8_begin_92 : decode cX8_begin 92 = .ok (.getfield 21, 3) := by decide +kernel
theorem dX8_begin_95 : decode cX8_begin 95 = .ok (.invokevirtual 69, 3) := by decide +kernel
theorem dX8_begin_98 : decode cX8_begin 98 = .ok (.ifCond .eq 13, 3) := by decide +kernel
theorem dX8_begin_101 : decode cX8_begin 101 = .ok (.aload_n 0, 1) := by decide +kernel
theorem dX8_begin_102 : decode cX8_begin 102 = .ok (.getfield 21, 3) := by decide +kernel
theorem dX8_begin_105 : decode cX8_begin 105 = .ok (.getfield 73, 3) := by decide +kernel
theorem dX8_begin_108 : decode cX8_begin 108 = .ok (.goto 5, 3) := by decide +kernel
theorem dX8_begin_111 : decode cX8_begin 111 = .ok (.bipush 48, 2) := by decide +kernel
theorem dX8_begin_113 : decode cX8_begin 113 = .ok (.aload_n 0, 1) := by decide +kernel
theorem dX8_begin_114 : decode cX8_begin 114 = .ok (.getfield 18, 3) := by decide +kernel
theorem dX8_begin_117 : decode cX8_begin 117 = .ok (.invokevirtual 76, 3) := by decide +kernel
theorem dX8_begin_120 : decode cX8_begin 120 = .ok (.return_, 1) := by decide +kernel
theorem dX8_goTillDusk_0 : decode cX8_goTillDusk 0 = .ok (.aload_n 0, 1) := by decide +kernel
theorem dX8_goTillDusk_1 : decode cX8_goTillDusk 1 = .ok (.aload_n 1, 1) := by decide +kernel
theorem dX8_goTillDusk_2 : decode cX8_goTillDusk 2 = .ok (.iload_n 2, 1) := by decide +kernel
theorem dX8_goTillDusk_3 : decode cX8_goTillDusk 3 = .ok (.lload_n 3, 1) := by decide +kernel
theorem dX8_goTillDusk_4 : decode cX8_goTillDusk 4 = .ok (.iload 5, 2) := by decide +kernel
theorem dX8_goTillDusk_6 : decode cX8_goTillDusk 6 = .ok (.invokevirtual 82, 3) := by decide +kernel
theorem dX8_goTillDusk_9 : decode cX8_goTillDusk 9 = .ok (.aload_n 0, 1) := by decide +kernel
theorem dX8_goTillDusk_10 : decode cX8_goTillDusk 10 = .ok (.bipush (-2), 2) := by decide +kernel
theorem dX8_goTillDusk_12 : decode cX8_goTillDusk 12 = .ok (.putfield 86, 3) := by decide +kernel
theorem dX8_goTillDusk_15 : decode cX8_goTillDusk 15 = .ok (.aload_n 0, 1) := by decide +kernel
theorem dX8_goTillDusk_16 : decode cX8_goTillDusk 16 = .ok (.bipush (-2), 2) := by decide +kernel
theorem dX8_goTillDusk_18 : decode cX8_goTillDusk 18 = .ok (.putfield 89, 3) := by decide +kernel
theorem dX8_goTillDusk_21 : decode cX8_goTillDusk 21 = .ok (.aload_n 0, 1) := by decide +kernel
theorem dX8_goTillDusk_22 : decode cX8_goTillDusk 22 = .ok (.getfield 31, 3) := by decide +kernel
theorem dX8_goTillDusk_25 : decode cX8_goTillDusk 25 = .ok (.getfield 92, 3) := by decide +kernel
theorem dX8_goTillDusk_28 : decode cX8_goTillDusk 28 = .ok (.istore 6, 2) := by decide +kernel
theorem dX8_goTillDusk_30 : decode cX8_goTillDusk 30 = .ok (.iload 6, 2) := by decide +kernel
theorem dX8_goTillDusk_32 : decode cX8_goTillDusk 32 = .ok (.aload_n 0, 1) := by decide +kernel
theorem dX8_goTillDusk_33 : decode cX8_goTillDusk 33 = .ok (.getfield 21, 3) := by decide +kernel
theorem dX8_goTillDusk_36 : decode cX8_goTillDusk 36 = .ok (.getfield 95, 3) := by decide +kernel
theorem dX8_goTillDusk_39 : decode cX8_goTillDusk 39 = .ok (.if_icmp .gt 84, 3) := by decide +kernel
theorem dX8_goTillDusk_42 : decode cX8_goTillDusk 42 = .ok (.aload_n 0, 1) := by decide +kernel
theorem dX8_goTillDusk_43 : decode cX8_goTillDusk 43 = .ok (.getfield 86, 3) := by decide +kernel
theorem dX8_goTillDusk_46 : decode cX8_goTillDusk 46 = .ok (.bipush (-2), 2) := by decide +kernel
theorem dX8_goTillDusk_48 : decode cX8_goTillDusk 48 = .ok (.if_icmp .ne 75, 3) := by decide +kernel
theorem dX8_goTillDusk_51 : decode cX8_goTillDusk 51 = .ok (.iload 6, 2) := by decide +kernel
theorem dX8_goTillDusk_53 : decode cX8_goTillDusk 53 = .ok (.aload_n 0, 1) := by decide +kernel
theorem dX8_goTillDusk_54 : decode cX8_goTillDusk 54 = .ok (.getfield 31, 3) := by decide +kernel
theorem dX8_goTillDusk_57 : decode cX8_goTillDusk 57 = .ok (.getfield 92, 3) := by decide +kernel
theorem dX8_goTillDusk_60 : decode cX8_goTillDusk 60 = .ok (.if_icmp .le 7, 3) := by decide +kernel
theorem dX8_goTillDusk_63 : decode cX8_goTillDusk 63 = .ok (.aload_n 0, 1) := by decide +kernel
theorem dX8_goTillDusk_64 : decode cX8_goTillDusk 64 = .ok (.invokevirtual 98, 3) := by decide +kernel
theorem dX8_goTillDusk_67 : decode cX8_goTillDusk 67 = .ok (.iload 6, 2) := by decide +kernel
theorem dX8_goTillDusk_69 : decode cX8_goTillDusk 69 = .ok (.ifCond .lt 24, 3) := by decide +kernel
theorem dX8_goTillDusk_72 : decode cX8_goTillDusk 72 = .ok (.iload 6, 2) := by decide +kernel
theorem dX8_goTillDusk_74 : decode cX8_goTillDusk 74 = .ok (.aload_n 0, 1) := by decide +kernel
theorem dX8_goTillDusk_75 : decode cX8_goTillDusk 75 = .ok (.getfield 9, 3) := by decide +kernel
theorem dX8_goTillDusk_78 : decode cX8_goTillDusk 78 = .ok (.arraylength, 1) := by decide +kernel
theorem dX8_goTillDusk_79 : decode cX8_goTillDusk 79 = .ok (.if_icmp .ge 14, 3) := by decide +kernel
theorem dX8_goTillDusk_82 : decode cX8_goTillDusk 82 = .ok (.aload_n 0, 1) := by decide +kernel
theorem dX8_goTillDusk_83 : decode cX8_goTillDusk 83 = .ok (.getfield 9, 3) := by decide +kernel
theorem dX8_goTillDusk_86 : decode cX8_goTillDusk 86 = .ok (.iload 6, 2) := by decide +kernel
theorem dX8_goTillDusk_88 : decode cX8_goTillDusk 88 = .ok (.aload_n 0, 1) := by decide +kernel
theorem dX8_goTillDusk_89 : decode cX8_goTillDusk 89 = .ok (.getfield 44, 3) := by decide +kernel
theorem dX8_goTillDusk_92 : decode cX8_goTillDusk 92 = .ok (.iastore, 1) := by decide +kernel
theorem dX8_goTillDusk_93 : decode cX8_goTillDusk 93 = .ok (.aload_n 0, 1) := by decide +kernel
theorem dX8_goTillDusk_94 : decode cX8_goTillDusk 94 = .ok (.iload 6, 2) := by decide +kernel
theorem dX8_goTillDusk_96 : decode cX8_goTillDusk 96 = .ok (.putfield 89, 3) := by decide +kernel
theorem dX8_goTillDusk_99 : decode cX8_goTillDusk 99 = .ok (.aload_n 0, 1) := by decide +kernel
theorem dX8_goTillDusk_100 : decode cX8_goTillDusk 100 = .ok (.aload_n 0, 1) := by decide +kernel
theorem dX8_goTillDusk_101 : decode cX8_goTillDusk 101 = .ok (.invokevirtual 101, 3) := by decide +kernel
theorem dX8_goTillDusk_104 : decode cX8_goTillDusk 104 = .ok (.ifCond .eq 8, 3) := by decide +kernel
theorem dX8_goTillDusk_107 : decode cX8_goTillDusk 107 = .ok (.iload 6, 2) := by decide +kernel
theorem dX8_goTillDusk_109 : decode cX8_goTillDusk 109 = .ok (.goto 5, 3) := by decide +kernel
theorem dX8_goTillDusk_112 : decode cX8_goTillDusk 112 = .ok (.bipush (-2), 2) := by decide +kernel
theorem dX8_goTillDusk_114 : decode cX8_goTillDusk 114 = .ok (.putfield 86, 3) := by decide +kernel
theorem dX8_goTillDusk_117 : decode cX8_goTillDusk 117 = .ok (.iinc 6 1, 3) := by decide +kernel
theorem dX8_goTillDusk_120 : decode cX8_goTillDusk 120 = .ok (.goto (-90), 3) := by decide +kernel
theorem dX8_goTillDusk_123 : decode cX8_goTillDusk 123 = .ok (.return_, 1) := by decide +kernel
theorem dX8_cellIn_0 : decode cX8_cellIn 0 = .ok (.iload_n 1, 1) := by decide +kernel
theorem dX8_cellIn_1 : decode cX8_cellIn 1 = .ok (.aload_n 0, 1) := by decide +kernel
theorem dX8_cellIn_2 : decode cX8_cellIn 2 = .ok (.getfield 31, 3) := by decide +kernel
theorem dX8_cellIn_5 : decode cX8_cellIn 5 = .ok (.getfield 92, 3) := by decide +kernel
theorem dX8_cellIn_8 : decode cX8_cellIn 8 = .ok (.if_icmp .lt 15, 3) := by decide +kernel
theorem dX8_cellIn_11 : decode cX8_cellIn 11 = .ok (.iload_n 1, 1) := by decide +kernel
theorem dX8_cellIn_12 : decode cX8_cellIn 12 = .ok (.aload_n 0, 1) := by decide +kernel
theorem dX8_cellIn_13 : decode cX8_cellIn 13 = .ok (.getfield 89, 3) := by decide +kernel
theorem dX8_cellIn_16 : decode cX8_cellIn 16 = .ok (.if_icmp .gt 7, 3) := by decide +kernel
theorem dX8_cellIn_19 : decode cX8_cellIn 19 = .ok (.iconst 1, 1) := by decide +kernel
theorem dX8_cellIn_20 : decode cX8_cellIn 20 = .ok (.goto 4, 3) := by decide +kernel
theorem dX8_cellIn_23 : decode cX8_cellIn 23 = .ok (.iconst 0, 1) := by decide +kernel
theorem dX8_cellIn_24 : decode cX8_cellIn 24 = .ok (.istore_n 2, 1) := by decide +kernel
theorem dX8_cellIn_25 : decode cX8_cellIn 25 = .ok (.iload_n 2, 1) := by decide +kernel
theorem dX8_cellIn_26 : decode cX8_cellIn 26 = .ok (.ifCond .eq 25, 3) := by decide +kernel
theorem dX8_cellIn_29 : decode cX8_cellIn 29 = .ok (.iload_n 1, 1) := by decide +kernel
theorem dX8_cellIn_30 : decode cX8_cellIn 30 = .ok (.ifCond .lt 21, 3) := by decide +kernel
theorem dX8_cellIn_33 : decode cX8_cellIn 33 = .ok (.iload_n 1, 1) := by decide +kernel
theorem dX8_cellIn_34 : decode cX8_cellIn 34 = .ok (.aload_n 0, 1) := by decide +kernel
theorem dX8_cellIn_35 : decode cX8_cellIn 35 = .ok (.getfield 9, 3) := by decide +kernel
theorem dX8_cellIn_38 : decode cX8_cellIn 38 = .ok (.arraylength, 1) := by decide +kernel
theorem dX8_cellIn_39 : decode cX8_cellIn 39 = .ok (.if_icmp .ge 12, 3) := by decide +kernel
theorem dX8_cellIn_42 : decode cX8_cellIn 42 = .ok (.aload_n 0, 1) := by decide +kernel
theorem dX8_cellIn_43 : decode cX8_cellIn 43 = .ok (.getfield 9, 3) := by decide +kernel
theorem dX8_cellIn_46 : decode cX8_cellIn 46 = .ok (.iload_n 1, 1) := by decide +kernel
theorem dX8_cellIn_47 : decode cX8_cellIn 47 = .ok (.iaload, 1) := by decide +kernel
theorem dX8_cellIn_48 : decode cX8_cellIn 48 = .ok (.goto 5, 3) := by decide +kernel
theorem dX8_cellIn_51 : decode cX8_cellIn 51 = .ok (.bipush (-2), 2) := by decide +kernel
theorem dX8_cellIn_53 : decode cX8_cellIn 53 = .ok (.ireturn, 1) := by decide +kernel
theorem dX8_outIn_0 : decode cX8_outIn 0 = .ok (.aload_n 0, 1) := by decide +kernel
theorem dX8_outIn_1 : decode cX8_outIn 1 = .ok (.getfield 86, 3) := by decide +kernel
theorem dX8_outIn_4 : decode cX8_outIn 4 = .ok (.ireturn, 1) := by decide +kernel
theorem dX8_countShouts_0 : decode cX8_countShouts 0 = .ok (.aload_n 0, 1) := by decide +kernel
theorem dX8_countShouts_1 : decode cX8_countShouts 1 = .ok (.getfield 86, 3) := by decide +kernel
theorem dX8_countShouts_4 : decode cX8_countShouts 4 = .ok (.bipush (-2), 2) := by decide +kernel
theorem dX8_countShouts_6 : decode cX8_countShouts 6 = .ok (.if_icmp .ne 13, 3) := by decide +kernel
theorem dX8_countShouts_9 : decode cX8_countShouts 9 = .ok (.aload_n 0, 1) := by decide +kernel
theorem dX8_countShouts_10 : decode cX8_countShouts 10 = .ok (.getfield 21, 3) := by decide +kernel
theorem dX8_countShouts_13 : decode cX8_countShouts 13 = .ok (.getfield 95, 3) := by decide +kernel
theorem dX8_countShouts_16 : decode cX8_countShouts 16 = .ok (.goto 7, 3) := by decide +kernel
theorem dX8_countShouts_19 : decode cX8_countShouts 19 = .ok (.aload_n 0, 1) := by decide +kernel
theorem dX8_countShouts_20 : decode cX8_countShouts 20 = .ok (.getfield 86, 3) := by decide +kernel
theorem dX8_countShouts_23 : decode cX8_countShouts 23 = .ok (.istore_n 1, 1) := by decide +kernel
theorem dX8_countShouts_24 : decode cX8_countShouts 24 = .ok (.iconst 0, 1) := by decide +kernel
theorem dX8_countShouts_25 : decode cX8_countShouts 25 = .ok (.iload_n 1, 1) := by decide +kernel
theorem dX8_countShouts_26 : decode cX8_countShouts 26 = .ok (.aload_n 0, 1) := by decide +kernel
theorem dX8_countShouts_27 : decode cX8_countShouts 27 = .ok (.getfield 31, 3) := by decide +kernel
theorem dX8_countShouts_30 : decode cX8_countShouts 30 = .ok (.getfield 92, 3) := by decide +kernel
theorem dX8_countShouts_33 : decode cX8_countShouts 33 = .ok (.isub, 1) := by decide +kernel
theorem dX8_countShouts_34 : decode cX8_countShouts 34 = .ok (.invokestatic 104, 3) := by decide +kernel
theorem dX8_countShouts_37 : decode cX8_countShouts 37 = .ok (.ireturn, 1) := by decide +kernel
theorem dX8_countCells_0 : decode cX8_countCells 0 = .ok (.aload_n 0, 1) := by decide +kernel
theorem dX8_countCells_1 : decode cX8_countCells 1 = .ok (.getfield 31, 3) := by decide +kernel
theorem dX8_countCells_4 : decode cX8_countCells 4 = .ok (.getfield 92, 3) := by decide +kernel
theorem dX8_countCells_7 : decode cX8_countCells 7 = .ok (.aload_n 0, 1) := by decide +kernel
theorem dX8_countCells_8 : decode cX8_countCells 8 = .ok (.getfield 21, 3) := by decide +kernel
theorem dX8_countCells_11 : decode cX8_countCells 11 = .ok (.getfield 95, 3) := by decide +kernel
theorem dX8_countCells_14 : decode cX8_countCells 14 = .ok (.if_icmp .gt 13, 3) := by decide +kernel
theorem dX8_countCells_17 : decode cX8_countCells 17 = .ok (.aload_n 0, 1) := by decide +kernel
theorem dX8_countCells_18 : decode cX8_countCells 18 = .ok (.getfield 55, 3) := by decide +kernel
theorem dX8_countCells_21 : decode cX8_countCells 21 = .ok (.invokestatic 110, 3) := by decide +kernel
theorem dX8_countCells_24 : decode cX8_countCells 24 = .ok (.goto 4, 3) := by decide +kernel
theorem dX8_countCells_27 : decode cX8_countCells 27 = .ok (.iconst 0, 1) := by decide +kernel
theorem dX8_countCells_28 : decode cX8_countCells 28 = .ok (.ireturn, 1) := by decide +kernel
theorem dX8_isOutSometime_0 : decode cX8_isOutSometime 0 = .ok (.iconst 0, 1) := by decide +kernel
theorem dX8_isOutSometime_1 : decode cX8_isOutSometime 1 = .ok (.istore_n 1, 1) := by decide +kernel
theorem dX8_isOutSometime_2 : decode cX8_isOutSometime 2 = .ok (.iload_n 1, 1) := by decide +kernel
theorem dX8_isOutSometime_3 : decode cX8_isOutSometime 3 = .ok (.sipush 192, 3) := by decide +kernel
theorem dX8_isOutSometime_6 : decode cX8_isOutSometime 6 = .ok (.if_icmp .ge 20, 3) := by decide +kernel
theorem dX8_isOutSometime_9 : decode cX8_isOutSometime 9 = .ok (.aload_n 0, 1) := by decide +kernel
theorem dX8_isOutSometime_10 : decode cX8_isOutSometime 10 = .ok (.invokevirtual 101, 3) := by decide +kernel
theorem dX8_isOutSometime_13 : decode cX8_isOutSometime 13 = .ok (.ifCond .ne 13, 3) := by decide +kernel
theorem dX8_isOutSometime_16 : decode cX8_isOutSometime 16 = .ok (.aload_n 0, 1) := by decide +kernel
theorem dX8_isOutSometime_17 : decode cX8_isOutSometime 17 = .ok (.invokevirtual 98, 3) := by decide +kernel
theorem dX8_isOutSometime_20 : decode cX8_isOutSometime 20 = .ok (.iinc 1 1, 3) := by decide +kernel
theorem dX8_isOutSometime_23 : decode cX8_isOutSometime 23 = .ok (.goto (-21), 3) := by decide +kernel
theorem dX8_isOutSometime_26 : decode cX8_isOutSometime 26 = .ok (.aload_n 0, 1) := by decide +kernel
theorem dX8_isOutSometime_27 : decode cX8_isOutSometime 27 = .ok (.invokevirtual 101, 3) := by decide +kernel
theorem dX8_isOutSometime_30 : decode cX8_isOutSometime 30 = .ok (.ireturn, 1) := by decide +kernel
theorem dX8_ringLength_0 : decode cX8_ringLength 0 = .ok (.aload_n 0, 1) := by decide +kernel
theorem dX8_ringLength_1 : decode cX8_ringLength 1 = .ok (.getfield 44, 3) := by decide +kernel
theorem dX8_ringLength_4 : decode cX8_ringLength 4 = .ok (.istore_n 1, 1) := by decide +kernel
theorem dX8_ringLength_5 : decode cX8_ringLength 5 = .ok (.aload_n 0, 1) := by decide +kernel
theorem dX8_ringLength_6 : decode cX8_ringLength 6 = .ok (.getfield 48, 3) := by decide +kernel
theorem dX8_ringLength_9 : decode cX8_ringLength 9 = .ok (.istore_n 2, 1) := by decide +kernel
theorem dX8_ringLength_10 : decode cX8_ringLength 10 = .ok (.iconst 1, 1) := by decide +kernel
theorem dX8_ringLength_11 : decode cX8_ringLength 11 = .ok (.istore_n 3, 1) := by decide +kernel
theorem dX8_ringLength_12 : decode cX8_ringLength 12 = .ok (.iload_n 3, 1) := by decide +kernel
theorem dX8_ringLength_13 : decode cX8_ringLength 13 = .ok (.sipush 192, 3) := by decide +kernel
theorem dX8_ringLength_16 : decode cX8_ringLength 16 = .ok (.if_icmp .ge 31, 3) := by decide +kernel
theorem dX8_ringLength_19 : decode cX8_ringLength 19 = .ok (.aload_n 0, 1) := by decide +kernel
theorem dX8_ringLength_20 : decode cX8_ringLength 20 = .ok (.invokevirtual 98, 3) := by decide +kernel
theorem dX8_ringLength_23 : decode cX8_ringLength 23 = .ok (.aload_n 0, 1) := by decide +kernel
theorem dX8_ringLength_24 : decode cX8_ringLength 24 = .ok (.getfield 44, 3) := by decide +kernel
theorem dX8_ringLength_27 : decode cX8_ringLength 27 = .ok (.iload_n 1, 1) := by decide +kernel
theorem dX8_ringLength_28 : decode cX8_ringLength 28 = .ok (.if_icmp .ne 13, 3) := by decide +kernel
theorem dX8_ringLength_31 : decode cX8_ringLength 31 = .ok (.aload_n 0, 1) := by decide +kernel
theorem dX8_ringLength_32 : decode cX8_ringLength 32 = .ok (.getfield 48, 3) := by decide +kernel
theorem dX8_ringLength_35 : decode cX8_ringLength 35 = .ok (.iload_n 2, 1) := by decide +kernel
theorem dX8_ringLength_36 : decode cX8_ringLength 36 = .ok (.if_icmp .ne 5, 3) := by decide +kernel
theorem dX8_ringLength_39 : decode cX8_ringLength 39 = .ok (.iload_n 3, 1) := by decide +kernel
theorem dX8_ringLength_40 : decode cX8_ringLength 40 = .ok (.ireturn, 1) := by decide +kernel
theorem dX8_ringLength_41 : decode cX8_ringLength 41 = .ok (.iinc 3 1, 3) := by decide +kernel
theorem dX8_ringLength_44 : decode cX8_ringLength 44 = .ok (.goto (-32), 3) := by decide +kernel
theorem dX8_ringLength_47 : decode cX8_ringLength 47 = .ok (.sipush 192, 3) := by decide +kernel
theorem dX8_ringLength_50 : decode cX8_ringLength 50 = .ok (.ireturn, 1) := by decide +kernel
theorem dX8_isAtGate_0 : decode cX8_isAtGate 0 = .ok (.aload_n 0, 1) := by decide +kernel
theorem dX8_isAtGate_1 : decode cX8_isAtGate 1 = .ok (.getfield 21, 3) := by decide +kernel
theorem dX8_isAtGate_4 : decode cX8_isAtGate 4 = .ok (.getfield 116, 3) := by decide +kernel
theorem dX8_isAtGate_7 : decode cX8_isAtGate 7 = .ok (.aload_n 0, 1) := by decide +kernel
theorem dX8_isAtGate_8 : decode cX8_isAtGate 8 = .ok (.getfield 44, 3) := by decide +kernel
theorem dX8_isAtGate_11 : decode cX8_isAtGate 11 = .ok (.invokestatic 119, 3) := by decide +kernel
theorem dX8_isAtGate_14 : decode cX8_isAtGate 14 = .ok (.ireturn, 1) := by decide +kernel
theorem dX8_step_0 : decode cX8_step 0 = .ok (.aload_n 0, 1) := by decide +kernel
theorem dX8_step_1 : decode cX8_step 1 = .ok (.getfield 31, 3) := by decide +kernel
theorem dX8_step_4 : decode cX8_step 4 = .ok (.getfield 62, 3) := by decide +kernel
theorem dX8_step_7 : decode cX8_step 7 = .ok (.tableswitch 71 0 3 #[29, 43, 57, 64], 29) := by decide +kernel
theorem dX8_step_36 : decode cX8_step 36 = .ok (.aload_n 0, 1) := by decide +kernel
theorem dX8_step_37 : decode cX8_step 37 = .ok (.aload_n 0, 1) := by decide +kernel
theorem dX8_step_38 : decode cX8_step 38 = .ok (.getfield 48, 3) := by decide +kernel
theorem dX8_step_41 : decode cX8_step 41 = .ok (.iconst 3, 1) := by decide +kernel
theorem dX8_step_42 : decode cX8_step 42 = .ok (.iadd, 1) := by decide +kernel
theorem dX8_step_43 : decode cX8_step 43 = .ok (.iconst 1, 1) := by decide +kernel
theorem dX8_step_44 : decode cX8_step 44 = .ok (.invokevirtual 123, 3) := by decide +kernel
theorem dX8_step_47 : decode cX8_step 47 = .ok (.goto 35, 3) := by decide +kernel
theorem dX8_step_50 : decode cX8_step 50 = .ok (.aload_n 0, 1) := by decide +kernel
theorem dX8_step_51 : decode cX8_step 51 = .ok (.aload_n 0, 1) := by decide +kernel
theorem dX8_step_52 : decode cX8_step 52 = .ok (.getfield 48, 3) := by decide +kernel
theorem dX8_step_55 : decode cX8_step 55 = .ok (.iconst 5, 1) := by decide +kernel
theorem dX8_step_56 : decode cX8_step 56 = .ok (.iadd, 1) := by decide +kernel
theorem dX8_step_57 : decode cX8_step 57 = .ok (.iconst (-1), 1) := by decide +kernel
theorem dX8_step_58 : decode cX8_step 58 = .ok (.invokevirtual 123, 3) := by decide +kernel
theorem dX8_step_61 : decode cX8_step 61 = .ok (.goto 21, 3) := by decide +kernel
theorem dX8_step_64 : decode cX8_step 64 = .ok (.aload_n 0, 1) := by decide +kernel
theorem dX8_step_65 : decode cX8_step 65 = .ok (.invokevirtual 126, 3) := by decide +kernel
theorem dX8_step_68 : decode cX8_step 68 = .ok (.goto 14, 3) := by decide +kernel
theorem dX8_step_71 : decode cX8_step 71 = .ok (.aload_n 0, 1) := by decide +kernel
theorem dX8_step_72 : decode cX8_step 72 = .ok (.invokevirtual 129, 3) := by decide +kernel
theorem dX8_step_75 : decode cX8_step 75 = .ok (.goto 7, 3) := by decide +kernel
theorem dX8_step_78 : decode cX8_step 78 = .ok (.aload_n 0, 1) := by decide +kernel
theorem dX8_step_79 : decode cX8_step 79 = .ok (.invokevirtual 132, 3) := by decide +kernel
theorem dX8_step_82 : decode cX8_step 82 = .ok (.return_, 1) := by decide +kernel
theorem dX8_mownTo_0 : decode cX8_mownTo 0 = .ok (.aload_n 0, 1) := by decide +kernel
theorem dX8_mownTo_1 : decode cX8_mownTo 1 = .ok (.getfield 21, 3) := by decide +kernel
theorem dX8_mownTo_4 : decode cX8_mownTo 4 = .ok (.getfield 65, 3) := by decide +kernel
theorem dX8_mownTo_7 : decode cX8_mownTo 7 = .ok (.iload_n 1, 1) := by decide +kernel
theorem dX8_mownTo_8 : decode cX8_mownTo 8 = .ok (.aload_n 0, 1) := by decide +kernel
theorem dX8_mownTo_9 : decode cX8_mownTo 9 = .ok (.getfield 44, 3) := by decide +kernel
theorem dX8_mownTo_12 : decode cX8_mownTo 12 = .ok (.invokevirtual 135, 3) := by decide +kernel
theorem dX8_mownTo_15 : decode cX8_mownTo 15 = .ok (.istore_n 2, 1) := by decide +kernel
theorem dX8_mownTo_16 : decode cX8_mownTo 16 = .ok (.iload_n 2, 1) := by decide +kernel
theorem dX8_mownTo_17 : decode cX8_mownTo 17 = .ok (.iconst (-1), 1) := by decide +kernel
theorem dX8_mownTo_18 : decode cX8_mownTo 18 = .ok (.if_icmp .eq 18, 3) := by decide +kernel
theorem dX8_mownTo_21 : decode cX8_mownTo 21 = .ok (.aload_n 0, 1) := by decide +kernel
theorem dX8_mownTo_22 : decode cX8_mownTo 22 = .ok (.getfield 34, 3) := by decide +kernel
theorem dX8_mownTo_25 : decode cX8_mownTo 25 = .ok (.iload_n 2, 1) := by decide +kernel
theorem dX8_mownTo_26 : decode cX8_mownTo 26 = .ok (.invokestatic 119, 3) := by decide +kernel
theorem dX8_mownTo_29 : decode cX8_mownTo 29 = .ok (.ifCond .eq 7, 3) := by decide +kernel
theorem dX8_mownTo_32 : decode cX8_mownTo 32 = .ok (.iload_n 2, 1) := by decide +kernel
theorem dX8_mownTo_33 : decode cX8_mownTo 33 = .ok (.goto 4, 3) := by decide +kernel
theorem dX8_mownTo_36 : decode cX8_mownTo 36 = .ok (.iconst (-1), 1) := by decide +kernel
theorem dX8_mownTo_37 : decode cX8_mownTo 37 = .ok (.ireturn, 1) := by decide +kernel
theorem dX8_enter_0 : decode cX8_enter 0 = .ok (.aload_n 0, 1) := by decide +kernel
theorem dX8_enter_1 : decode cX8_enter 1 = .ok (.getfield 55, 3) := by decide +kernel
theorem dX8_enter_4 : decode cX8_enter 4 = .ok (.iload_n 1, 1) := by decide +kernel
theorem dX8_enter_5 : decode cX8_enter 5 = .ok (.invokestatic 119, 3) := by decide +kernel
theorem dX8_enter_8 : decode cX8_enter 8 = .ok (.ifCond .ne 23, 3) := by decide +kernel
theorem dX8_enter_11 : decode cX8_enter 11 = .ok (.iload_n 1, 1) := by decide +kernel
theorem dX8_enter_12 : decode cX8_enter 12 = .ok (.ifCond .lt 19, 3) := by decide +kernel
theorem dX8_enter_15 : decode cX8_enter 15 = .ok (.iload_n 1, 1) := by decide +kernel
theorem dX8_enter_16 : decode cX8_enter 16 = .ok (.aload_n 0, 1) := by decide +kernel
theorem dX8_enter_17 : decode cX8_enter 17 = .ok (.getfield 15, 3) := by decide +kernel
theorem dX8_enter_20 : decode cX8_enter 20 = .ok (.arraylength, 1) := by decide +kernel
theorem dX8_enter_21 : decode cX8_enter 21 = .ok (.if_icmp .ge 10, 3) := by decide +kernel
theorem dX8_enter_24 : decode cX8_enter 24 = .ok (.aload_n 0, 1) := by decide +kernel
theorem dX8_enter_25 : decode cX8_enter 25 = .ok (.getfield 15, 3) := by decide +kernel
theorem dX8_enter_28 : decode cX8_enter 28 = .ok (.iload_n 1, 1) := by decide +kernel
theorem dX8_enter_29 : decode cX8_enter 29 = .ok (.iload_n 2, 1) := by decide +kernel
theorem dX8_enter_30 : decode cX8_enter 30 = .ok (.iastore, 1) := by decide +kernel
theorem dX8_enter_31 : decode cX8_enter 31 = .ok (.aload_n 0, 1) := by decide +kernel
theorem dX8_enter_32 : decode cX8_enter 32 = .ok (.dup, 1) := by decide +kernel
theorem dX8_enter_33 : decode cX8_enter 33 = .ok (.getfield 55, 3) := by decide +kernel
theorem dX8_enter_36 : decode cX8_enter 36 = .ok (.iload_n 1, 1) := by decide +kernel
theorem dX8_enter_37 : decode cX8_enter 37 = .ok (.invokestatic 138, 3) := by decide +kernel
theorem dX8_enter_40 : decode cX8_enter 40 = .ok (.lor, 1) := by decide +kernel
theorem dX8_enter_41 : decode cX8_enter 41 = .ok (.putfield 55, 3) := by decide +kernel
theorem dX8_enter_44 : decode cX8_enter 44 = .ok (.aload_n 0, 1) := by decide +kernel
theorem dX8_enter_45 : decode cX8_enter 45 = .ok (.iload_n 1, 1) := by decide +kernel
theorem dX8_enter_46 : decode cX8_enter 46 = .ok (.putfield 44, 3) := by decide +kernel
theorem dX8_enter_49 : decode cX8_enter 49 = .ok (.return_, 1) := by decide +kernel
theorem dX8_stepTurning_0 : decode cX8_stepTurning 0 = .ok (.iconst 0, 1) := by decide +kernel
theorem dX8_stepTurning_1 : decode cX8_stepTurning 1 = .ok (.istore_n 3, 1) := by decide +kernel
theorem dX8_stepTurning_2 : decode cX8_stepTurning 2 = .ok (.iload_n 3, 1) := by decide +kernel
theorem dX8_stepTurning_3 : decode cX8_stepTurning 3 = .ok (.iconst 4, 1) := by decide +kernel
theorem dX8_stepTurning_4 : decode cX8_stepTurning 4 = .ok (.if_icmp .ge 49, 3) := by decide +kernel
theorem dX8_stepTurning_7 : decode cX8_stepTurning 7 = .ok (.iload_n 1, 1) := by decide +kernel
theorem dX8_stepTurning_8 : decode cX8_stepTurning 8 = .ok (.iload_n 2, 1) := by decide +kernel
theorem dX8_stepTurning_9 : decode cX8_stepTurning 9 = .ok (.iload_n 3, 1) := by decide +kernel
theorem dX8_stepTurning_10 : decode cX8_stepTurning 10 = .ok (.imul, 1) := by decide +kernel
theorem dX8_stepTurning_11 : decode cX8_stepTurning 11 = .ok (.iadd, 1) := by decide +kernel
theorem dX8_stepTurning_12 : decode cX8_stepTurning 12 = .ok (.iconst 4, 1) := by decide +kernel
theorem dX8_stepTurning_13 : decode cX8_stepTurning 13 = .ok (.irem, 1) := by decide +kernel
theorem dX8_stepTurning_14 : decode cX8_stepTurning 14 = .ok (.istore 4, 2) := by decide +kernel
theorem dX8_stepTurning_16 : decode cX8_stepTurning 16 = .ok (.aload_n 0, 1) := by decide +kernel
theorem dX8_stepTurning_17 : decode cX8_stepTurning 17 = .ok (.iload 4, 2) := by decide +kernel
theorem dX8_stepTurning_19 : decode cX8_stepTurning 19 = .ok (.invokevirtual 142, 3) := by decide +kernel
theorem dX8_stepTurning_22 : decode cX8_stepTurning 22 = .ok (.istore 5, 2) := by decide +kernel
theorem dX8_stepTurning_24 : decode cX8_stepTurning 24 = .ok (.iload 5, 2) := by decide +kernel
theorem dX8_stepTurning_26 : decode cX8_stepTurning 26 = .ok (.iconst (-1), 1) := by decide +kernel
theorem dX8_stepTurning_27 : decode cX8_stepTurning 27 = .ok (.if_icmp .eq 20, 3) := by decide +kernel
theorem dX8_stepTurning_30 : decode cX8_stepTurning 30 = .ok (.aload_n 0, 1) := by decide +kernel
theorem dX8_stepTurning_31 : decode cX8_stepTurning 31 = .ok (.iload 4, 2) := by decide +kernel
theorem dX8_stepTurning_33 : decode cX8_stepTurning 33 = .ok (.putfield 48, 3) := by decide +kernel
theorem dX8_stepTurning_36 : decode cX8_stepTurning 36 = .ok (.aload_n 0, 1) := by decide +kernel
theorem dX8_stepTurning_37 : decode cX8_stepTurning 37 = .ok (.iload 5, 2) := by decide +kernel
theorem dX8_stepTurning_39 : decode cX8_stepTurning 39 = .ok (.aload_n 0, 1) := by decide +kernel
theorem dX8_stepTurning_40 : decode cX8_stepTurning 40 = .ok (.getfield 44, 3) := by decide +kernel
theorem dX8_stepTurning_43 : decode cX8_stepTurning 43 = .ok (.invokevirtual 58, 3) := by decide +kernel
theorem dX8_stepTurning_46 : decode cX8_stepTurning 46 = .ok (.return_, 1) := by decide +kernel
theorem dX8_stepTurning_47 : decode cX8_stepTurning 47 = .ok (.iinc 3 1, 3) := by decide +kernel
theorem dX8_stepTurning_50 : decode cX8_stepTurning 50 = .ok (.goto (-48), 3) := by decide +kernel
theorem dX8_stepTurning_53 : decode cX8_stepTurning 53 = .ok (.return_, 1) := by decide +kernel
theorem dX8_stepOnce_0 : decode cX8_stepOnce 0 = .ok (.iconst 0, 1) := by decide +kernel
theorem dX8_stepOnce_1 : decode cX8_stepOnce 1 = .ok (.istore_n 1, 1) := by decide +kernel
theorem dX8_stepOnce_2 : decode cX8_stepOnce 2 = .ok (.iload_n 1, 1) := by decide +kernel
theorem dX8_stepOnce_3 : decode cX8_stepOnce 3 = .ok (.iconst 4, 1) := by decide +kernel
theorem dX8_stepOnce_4 : decode cX8_stepOnce 4 = .ok (.if_icmp .ge 41, 3) := by decide +kernel
theorem dX8_stepOnce_7 : decode cX8_stepOnce 7 = .ok (.aload_n 0, 1) := by decide +kernel
theorem dX8_stepOnce_8 : decode cX8_stepOnce 8 = .ok (.iload_n 1, 1) := by decide +kernel
theorem dX8_stepOnce_9 : decode cX8_stepOnce 9 = .ok (.invokevirtual 142, 3) := by decide +kernel
theorem dX8_stepOnce_12 : decode cX8_stepOnce 12 = .ok (.istore_n 2, 1) := by decide +kernel
theorem dX8_stepOnce_13 : decode cX8_stepOnce 13 = .ok (.iload_n 2, 1) := by decide +kernel
theorem dX8_stepOnce_14 : decode cX8_stepOnce 14 = .ok (.iconst (-1), 1) := by decide +kernel
theorem dX8_stepOnce_15 : decode cX8_stepOnce 15 = .ok (.if_icmp .eq 24, 3) := by decide +kernel
theorem dX8_stepOnce_18 : decode cX8_stepOnce 18 = .ok (.aload_n 0, 1) := by decide +kernel
theorem dX8_stepOnce_19 : decode cX8_stepOnce 19 = .ok (.getfield 55, 3) := by decide +kernel
theorem dX8_stepOnce_22 : decode cX8_stepOnce 22 = .ok (.iload_n 2, 1) := by decide +kernel
theorem dX8_stepOnce_23 : decode cX8_stepOnce 23 = .ok (.invokestatic 119, 3) := by decide +kernel
theorem dX8_stepOnce_26 : decode cX8_stepOnce 26 = .ok (.ifCond .ne 13, 3) := by decide +kernel
theorem dX8_stepOnce_29 : decode cX8_stepOnce 29 = .ok (.aload_n 0, 1) := by decide +kernel
theorem dX8_stepOnce_30 : decode cX8_stepOnce 30 = .ok (.iload_n 2, 1) := by decide +kernel
theorem dX8_stepOnce_31 : decode cX8_stepOnce 31 = .ok (.aload_n 0, 1) := by decide +kernel
theorem dX8_stepOnce_32 : decode cX8_stepOnce 32 = .ok (.getfield 44, 3) := by decide +kernel
theorem dX8_stepOnce_35 : decode cX8_stepOnce 35 = .ok (.invokevirtual 58, 3) := by decide +kernel
theorem dX8_stepOnce_38 : decode cX8_stepOnce 38 = .ok (.return_, 1) := by decide +kernel
theorem dX8_stepOnce_39 : decode cX8_stepOnce 39 = .ok (.iinc 1 1, 3) := by decide +kernel
theorem dX8_stepOnce_42 : decode cX8_stepOnce 42 = .ok (.goto (-40), 3) := by decide +kernel
theorem dX8_stepOnce_45 : decode cX8_stepOnce 45 = .ok (.aload_n 0, 1) := by decide +kernel
theorem dX8_stepOnce_46 : decode cX8_stepOnce 46 = .ok (.getfield 44, 3) := by decide +kernel
theorem dX8_stepOnce_49 : decode cX8_stepOnce 49 = .ok (.ifCond .lt 27, 3) := by decide +kernel
theorem dX8_stepOnce_52 : decode cX8_stepOnce 52 = .ok (.aload_n 0, 1) := by decide +kernel
theorem dX8_stepOnce_53 : decode cX8_stepOnce 53 = .ok (.getfield 44, 3) := by decide +kernel
theorem dX8_stepOnce_56 : decode cX8_stepOnce 56 = .ok (.aload_n 0, 1) := by decide +kernel
theorem dX8_stepOnce_57 : decode cX8_stepOnce 57 = .ok (.getfield 15, 3) := by decide +kernel
theorem dX8_stepOnce_60 : decode cX8_stepOnce 60 = .ok (.arraylength, 1) := by decide +kernel
theorem dX8_stepOnce_61 : decode cX8_stepOnce 61 = .ok (.if_icmp .ge 15, 3) := by decide +kernel
theorem dX8_stepOnce_64 : decode cX8_stepOnce 64 = .ok (.aload_n 0, 1) := by decide +kernel
theorem dX8_stepOnce_65 : decode cX8_stepOnce 65 = .ok (.getfield 15, 3) := by decide +kernel
theorem dX8_stepOnce_68 : decode cX8_stepOnce 68 = .ok (.aload_n 0, 1) := by decide +kernel
theorem dX8_stepOnce_69 : decode cX8_stepOnce 69 = .ok (.getfield 44, 3) := by decide +kernel
theorem dX8_stepOnce_72 : decode cX8_stepOnce 72 = .ok (.iaload, 1) := by decide +kernel
theorem dX8_stepOnce_73 : decode cX8_stepOnce 73 = .ok (.goto 4, 3) := by decide +kernel
theorem dX8_stepOnce_76 : decode cX8_stepOnce 76 = .ok (.iconst (-1), 1) := by decide +kernel
theorem dX8_stepOnce_77 : decode cX8_stepOnce 77 = .ok (.istore_n 1, 1) := by decide +kernel
theorem dX8_stepOnce_78 : decode cX8_stepOnce 78 = .ok (.iload_n 1, 1) := by decide +kernel
theorem dX8_stepOnce_79 : decode cX8_stepOnce 79 = .ok (.iconst (-1), 1) := by decide +kernel
theorem dX8_stepOnce_80 : decode cX8_stepOnce 80 = .ok (.if_icmp .eq 23, 3) := by decide +kernel
theorem dX8_stepOnce_83 : decode cX8_stepOnce 83 = .ok (.aload_n 0, 1) := by decide +kernel
theorem dX8_stepOnce_84 : decode cX8_stepOnce 84 = .ok (.getfield 34, 3) := by decide +kernel
theorem dX8_stepOnce_87 : decode cX8_stepOnce 87 = .ok (.iload_n 1, 1) := by decide +kernel
theorem dX8_stepOnce_88 : decode cX8_stepOnce 88 = .ok (.invokestatic 119, 3) := by decide +kernel
theorem dX8_stepOnce_91 : decode cX8_stepOnce 91 = .ok (.ifCond .eq 12, 3) := by decide +kernel
theorem dX8_stepOnce_94 : decode cX8_stepOnce 94 = .ok (.aload_n 0, 1) := by decide +kernel
theorem dX8_stepOnce_95 : decode cX8_stepOnce 95 = .ok (.iload_n 1, 1) := by decide +kernel
theorem dX8_stepOnce_96 : decode cX8_stepOnce 96 = .ok (.aload_n 0, 1) := by decide +kernel
theorem dX8_stepOnce_97 : decode cX8_stepOnce 97 = .ok (.getfield 44, 3) := by decide +kernel
theorem dX8_stepOnce_100 : decode cX8_stepOnce 100 = .ok (.invokevirtual 58, 3) := by decide +kernel
theorem dX8_stepOnce_103 : decode cX8_stepOnce 103 = .ok (.return_, 1) := by decide +kernel
theorem dX8_stepToNoise_0 : decode cX8_stepToNoise 0 = .ok (.aload_n 0, 1) := by decide +kernel
theorem dX8_stepToNoise_1 : decode cX8_stepToNoise 1 = .ok (.getfield 44, 3) := by decide +kernel
theorem dX8_stepToNoise_4 : decode cX8_stepToNoise 4 = .ok (.aload_n 0, 1) := by decide +kernel
theorem dX8_stepToNoise_5 : decode cX8_stepToNoise 5 = .ok (.getfield 21, 3) := by decide +kernel
theorem dX8_stepToNoise_8 : decode cX8_stepToNoise 8 = .ok (.getfield 73, 3) := by decide +kernel
theorem dX8_stepToNoise_11 : decode cX8_stepToNoise 11 = .ok (.if_icmp .ne 4, 3) := by decide +kernel
theorem dX8_stepToNoise_14 : decode cX8_stepToNoise 14 = .ok (.return_, 1) := by decide +kernel
theorem dX8_stepToNoise_15 : decode cX8_stepToNoise 15 = .ok (.iconst (-1), 1) := by decide +kernel
theorem dX8_stepToNoise_16 : decode cX8_stepToNoise 16 = .ok (.istore_n 1, 1) := by decide +kernel
theorem dX8_stepToNoise_17 : decode cX8_stepToNoise 17 = .ok (.bipush 48, 2) := by decide +kernel
theorem dX8_stepToNoise_19 : decode cX8_stepToNoise 19 = .ok (.istore_n 2, 1) := by decide +kernel
theorem dX8_stepToNoise_20 : decode cX8_stepToNoise 20 = .ok (.iconst 0, 1) := by decide +kernel
theorem dX8_stepToNoise_21 : decode cX8_stepToNoise 21 = .ok (.istore_n 3, 1) := by decide +kernel
theorem dX8_stepToNoise_22 : decode cX8_stepToNoise 22 = .ok (.iload_n 3, 1) := by decide +kernel
theorem dX8_stepToNoise_23 : decode cX8_stepToNoise 23 = .ok (.iconst 4, 1) := by decide +kernel
theorem dX8_stepToNoise_24 : decode cX8_stepToNoise 24 = .ok (.if_icmp .ge 62, 3) := by decide +kernel
theorem dX8_stepToNoise_27 : decode cX8_stepToNoise 27 = .ok (.aload_n 0, 1) := by decide +kernel
theorem dX8_stepToNoise_28 : decode cX8_stepToNoise 28 = .ok (.iload_n 3, 1) := by decide +kernel
theorem dX8_stepToNoise_29 : decode cX8_stepToNoise 29 = .ok (.invokevirtual 142, 3) := by decide +kernel
theorem dX8_stepToNoise_32 : decode cX8_stepToNoise 32 = .ok (.istore 4, 2) := by decide +kernel
theorem dX8_stepToNoise_34 : decode cX8_stepToNoise 34 = .ok (.iload 4, 2) := by decide +kernel
theorem dX8_stepToNoise_36 : decode cX8_stepToNoise 36 = .ok (.ifCond .lt 23, 3) := by decide +kernel
theorem dX8_stepToNoise_39 : decode cX8_stepToNoise 39 = .ok (.iload 4, 2) := by decide +kernel
theorem dX8_stepToNoise_41 : decode cX8_stepToNoise 41 = .ok (.aload_n 0, 1) := by decide +kernel
theorem dX8_stepToNoise_42 : decode cX8_stepToNoise 42 = .ok (.getfield 18, 3) := by decide +kernel
theorem dX8_stepToNoise_45 : decode cX8_stepToNoise 45 = .ok (.arraylength, 1) := by decide +kernel
theorem dX8_stepToNoise_46 : decode cX8_stepToNoise 46 = .ok (.if_icmp .ge 13, 3) := by decide +kernel
theorem dX8_stepToNoise_49 : decode cX8_stepToNoise 49 = .ok (.aload_n 0, 1) := by decide +kernel
theorem dX8_stepToNoise_50 : decode cX8_stepToNoise 50 = .ok (.getfield 18, 3) := by decide +kernel
theorem dX8_stepToNoise_53 : decode cX8_stepToNoise 53 = .ok (.iload 4, 2) := by decide +kernel
theorem dX8_stepToNoise_55 : decode cX8_stepToNoise 55 = .ok (.iaload, 1) := by decide +kernel
theorem dX8_stepToNoise_56 : decode cX8_stepToNoise 56 = .ok (.goto 5, 3) := by decide +kernel
theorem dX8_stepToNoise_59 : decode cX8_stepToNoise 59 = .ok (.bipush (-2), 2) := by decide +kernel
theorem dX8_stepToNoise_61 : decode cX8_stepToNoise 61 = .ok (.istore 5, 2) := by decide +kernel
theorem dX8_stepToNoise_63 : decode cX8_stepToNoise 63 = .ok (.iload 5, 2) := by decide +kernel
theorem dX8_stepToNoise_65 : decode cX8_stepToNoise 65 = .ok (.ifCond .lt 15, 3) := by decide +kernel
theorem dX8_stepToNoise_68 : decode cX8_stepToNoise 68 = .ok (.iload 5, 2) := by decide +kernel
theorem dX8_stepToNoise_70 : decode cX8_stepToNoise 70 = .ok (.iload_n 2, 1) := by decide +kernel
theorem dX8_stepToNoise_71 : decode cX8_stepToNoise 71 = .ok (.if_icmp .ge 9, 3) := by decide +kernel
theorem dX8_stepToNoise_74 : decode cX8_stepToNoise 74 = .ok (.iload 5, 2) := by decide +kernel
theorem dX8_stepToNoise_76 : decode cX8_stepToNoise 76 = .ok (.istore_n 2, 1) := by decide +kernel
theorem dX8_stepToNoise_77 : decode cX8_stepToNoise 77 = .ok (.iload 4, 2) := by decide +kernel
theorem dX8_stepToNoise_79 : decode cX8_stepToNoise 79 = .ok (.istore_n 1, 1) := by decide +kernel
theorem dX8_stepToNoise_80 : decode cX8_stepToNoise 80 = .ok (.iinc 3 1, 3) := by decide +kernel
theorem dX8_stepToNoise_83 : decode cX8_stepToNoise 83 = .ok (.goto (-61), 3) := by decide +kernel
theorem dX8_stepToNoise_86 : decode cX8_stepToNoise 86 = .ok (.iload_n 1, 1) := by decide +kernel
theorem dX8_stepToNoise_87 : decode cX8_stepToNoise 87 = .ok (.iconst (-1), 1) := by decide +kernel
theorem dX8_stepToNoise_88 : decode cX8_stepToNoise 88 = .ok (.if_icmp .eq 12, 3) := by decide +kernel
theorem dX8_stepToNoise_91 : decode cX8_stepToNoise 91 = .ok (.aload_n 0, 1) := by decide +kernel
theorem dX8_stepToNoise_92 : decode cX8_stepToNoise 92 = .ok (.iload_n 1, 1) := by decide +kernel
theorem dX8_stepToNoise_93 : decode cX8_stepToNoise 93 = .ok (.aload_n 0, 1) := by decide +kernel
theorem dX8_stepToNoise_94 : decode cX8_stepToNoise 94 = .ok (.getfield 44, 3) := by decide +kernel
theorem dX8_stepToNoise_97 : decode cX8_stepToNoise 97 = .ok (.invokevirtual 58, 3) := by decide +kernel
theorem dX8_stepToNoise_100 : decode cX8_stepToNoise 100 = .ok (.return_, 1) := by decide +kernel
theorem dX8_stepByLot_0 : decode cX8_stepByLot 0 = .ok (.aload_n 0, 1) := by decide +kernel
theorem dX8_stepByLot_1 : decode cX8_stepByLot 1 = .ok (.getfield 21, 3) := by decide +kernel
theorem dX8_stepByLot_4 : decode cX8_stepByLot 4 = .ok (.getfield 65, 3) := by decide +kernel
theorem dX8_stepByLot_7 : decode cX8_stepByLot 7 = .ok (.aload_n 0, 1) := by decide +kernel
theorem dX8_stepByLot_8 : decode cX8_stepByLot 8 = .ok (.getfield 34, 3) := by decide +kernel
theorem dX8_stepByLot_11 : decode cX8_stepByLot 11 = .ok (.aload_n 0, 1) := by decide +kernel
theorem dX8_stepByLot_12 : decode cX8_stepByLot 12 = .ok (.getfield 44, 3) := by decide +kernel
theorem dX8_stepByLot_15 : decode cX8_stepByLot 15 = .ok (.invokevirtual 146, 3) := by decide +kernel
theorem dX8_stepByLot_18 : decode cX8_stepByLot 18 = .ok (.istore_n 1, 1) := by decide +kernel
theorem dX8_stepByLot_19 : decode cX8_stepByLot 19 = .ok (.iload_n 1, 1) := by decide +kernel
theorem dX8_stepByLot_20 : decode cX8_stepByLot 20 = .ok (.ifCond .ne 4, 3) := by decide +kernel
theorem dX8_stepByLot_23 : decode cX8_stepByLot 23 = .ok (.return_, 1) := by decide +kernel
theorem dX8_stepByLot_24 : decode cX8_stepByLot 24 = .ok (.aload_n 0, 1) := by decide +kernel
theorem dX8_stepByLot_25 : decode cX8_stepByLot 25 = .ok (.aload_n 0, 1) := by decide +kernel
theorem dX8_stepByLot_26 : decode cX8_stepByLot 26 = .ok (.getfield 52, 3) := by decide +kernel
theorem dX8_stepByLot_29 : decode cX8_stepByLot 29 = .ok (.invokestatic 150, 3) := by decide +kernel
theorem dX8_stepByLot_32 : decode cX8_stepByLot 32 = .ok (.putfield 52, 3) := by decide +kernel
theorem dX8_stepByLot_35 : decode cX8_stepByLot 35 = .ok (.aload_n 0, 1) := by decide +kernel
theorem dX8_stepByLot_36 : decode cX8_stepByLot 36 = .ok (.getfield 52, 3) := by decide +kernel
theorem dX8_stepByLot_39 : decode cX8_stepByLot 39 = .ok (.iload_n 1, 1) := by decide +kernel
theorem dX8_stepByLot_40 : decode cX8_stepByLot 40 = .ok (.irem, 1) := by decide +kernel
theorem dX8_stepByLot_41 : decode cX8_stepByLot 41 = .ok (.istore_n 2, 1) := by decide +kernel
theorem dX8_stepByLot_42 : decode cX8_stepByLot 42 = .ok (.iconst 0, 1) := by decide +kernel
theorem dX8_stepByLot_43 : decode cX8_stepByLot 43 = .ok (.istore_n 3, 1) := by decide +kernel
theorem dX8_stepByLot_44 : decode cX8_stepByLot 44 = .ok (.iload_n 3, 1) := by decide +kernel
theorem dX8_stepByLot_45 : decode cX8_stepByLot 45 = .ok (.iconst 4, 1) := by decide +kernel
theorem dX8_stepByLot_46 : decode cX8_stepByLot 46 = .ok (.if_icmp .ge 40, 3) := by decide +kernel
theorem dX8_stepByLot_49 : decode cX8_stepByLot 49 = .ok (.aload_n 0, 1) := by decide +kernel
theorem dX8_stepByLot_50 : decode cX8_stepByLot 50 = .ok (.iload_n 3, 1) := by decide +kernel
theorem dX8_stepByLot_51 : decode cX8_stepByLot 51 = .ok (.invokevirtual 142, 3) := by decide +kernel
theorem dX8_stepByLot_54 : decode cX8_stepByLot 54 = .ok (.istore 4, 2) := by decide +kernel
theorem dX8_stepByLot_56 : decode cX8_stepByLot 56 = .ok (.iload 4, 2) := by decide +kernel
theorem dX8_stepByLot_58 : decode cX8_stepByLot 58 = .ok (.iconst (-1), 1) := by decide +kernel
theorem dX8_stepByLot_59 : decode cX8_stepByLot 59 = .ok (.if_icmp .eq 21, 3) := by decide +kernel
theorem dX8_stepByLot_62 : decode cX8_stepByLot 62 = .ok (.iload_n 2, 1) := by decide +kernel
theorem dX8_stepByLot_63 : decode cX8_stepByLot 63 = .ok (.ifCond .ne 14, 3) := by decide +kernel
theorem dX8_stepByLot_66 : decode cX8_stepByLot 66 = .ok (.aload_n 0, 1) := by decide +kernel
theorem dX8_stepByLot_67 : decode cX8_stepByLot 67 = .ok (.iload 4, 2) := by decide +kernel
theorem dX8_stepByLot_69 : decode cX8_stepByLot 69 = .ok (.aload_n 0, 1) := by decide +kernel
theorem dX8_stepByLot_70 : decode cX8_stepByLot 70 = .ok (.getfield 44, 3) := by decide +kernel
theorem dX8_stepByLot_73 : decode cX8_stepByLot 73 = .ok (.invokevirtual 58, 3) := by decide +kernel
theorem dX8_stepByLot_76 : decode cX8_stepByLot 76 = .ok (.return_, 1) := by decide +kernel
theorem dX8_stepByLot_77 : decode cX8_stepByLot 77 = .ok (.iinc 2 (-1), 3) := by decide +kernel
theorem dX8_stepByLot_80 : decode cX8_stepByLot 80 = .ok (.iinc 3 1, 3) := by decide +kernel
theorem dX8_stepByLot_83 : decode cX8_stepByLot 83 = .ok (.goto (-39), 3) := by decide +kernel
theorem dX8_stepByLot_86 : decode cX8_stepByLot 86 = .ok (.return_, 1) := by decide +kernel
theorem dX9_init_0 : decode cX9_init 0 = .ok (.aload_n 0, 1) := by decide +kernel
theorem dX9_init_1 : decode cX9_init 1 = .ok (.invokespecial 1, 3) := by decide +kernel
theorem dX9_init_4 : decode cX9_init 4 = .ok (.return_, 1) := by decide +kernel
theorem dX10_init_0 : decode cX10_init 0 = .ok (.aload_n 0, 1) := by decide +kernel
theorem dX10_init_1 : decode cX10_init 1 = .ok (.invokespecial 3, 3) := by decide +kernel
theorem dX10_init_4 : decode cX10_init 4 = .ok (.aload_n 0, 1) := by decide +kernel
theorem dX10_init_5 : decode cX10_init 5 = .ok (.new 9, 3) := by decide +kernel
theorem dX10_init_8 : decode cX10_init 8 = .ok (.dup, 1) := by decide +kernel
theorem dX10_init_9 : decode cX10_init 9 = .ok (.invokespecial 11, 3) := by decide +kernel
theorem dX10_init_12 : decode cX10_init 12 = .ok (.putfield 12, 3) := by decide +kernel
theorem dX10_init_15 : decode cX10_init 15 = .ok (.aload_n 0, 1) := by decide +kernel
theorem dX10_init_16 : decode cX10_init 16 = .ok (.new 16, 3) := by decide +kernel
theorem dX10_init_19 : decode cX10_init 19 = .ok (.dup, 1) := by decide +kernel
theorem dX10_init_20 : decode cX10_init 20 = .ok (.new 18, 3) := by decide +kernel
theorem dX10_init_23 : decode cX10_init 23 = .ok (.dup, 1) := by decide +kernel
theorem dX10_init_24 : decode cX10_init 24 = .ok (.aload_n 0, 1) := by decide +kernel
theorem dX10_init_25 : decode cX10_init 25 = .ok (.getfield 12, 3) := by decide +kernel
theorem dX10_init_28 : decode cX10_init 28 = .ok (.invokespecial 20, 3) := by decide +kernel
theorem dX10_init_31 : decode cX10_init 31 = .ok (.invokespecial 23, 3) := by decide +kernel
theorem dX10_init_34 : decode cX10_init 34 = .ok (.putfield 26, 3) := by decide +kernel
theorem dX10_init_37 : decode cX10_init 37 = .ok (.aload_n 0, 1) := by decide +kernel
theorem dX10_init_38 : decode cX10_init 38 = .ok (.new 30, 3) := by decide +kernel
theorem dX10_init_41 : decode cX10_init 41 = .ok (.dup, 1) := by decide +kernel
theorem dX10_init_42 : decode cX10_init 42 = .ok (.invokespecial 32, 3) := by decide +kernel
theorem dX10_init_45 : decode cX10_init 45 = .ok (.putfield 33, 3) := by decide +kernel
theorem dX10_init_48 : decode cX10_init 48 = .ok (.aload_n 0, 1) := by decide +kernel
theorem dX10_init_49 : decode cX10_init 49 = .ok (.new 37, 3) := by decide +kernel
theorem dX10_init_52 : decode cX10_init 52 = .ok (.dup, 1) := by decide +kernel
theorem dX10_init_53 : decode cX10_init 53 = .ok (.invokespecial 39, 3) := by decide +kernel
theorem dX10_init_56 : decode cX10_init 56 = .ok (.putfield 40, 3) := by decide +kernel
theorem dX10_init_59 : decode cX10_init 59 = .ok (.aload_n 0, 1) := by decide +kernel
theorem dX10_init_60 : decode cX10_init 60 = .ok (.new 44, 3) := by decide +kernel
theorem dX10_init_63 : decode cX10_init 63 = .ok (.dup, 1) := by decide +kernel
theorem dX10_init_64 : decode cX10_init 64 = .ok (.invokespecial 46, 3) := by decide +kernel
theorem dX10_init_67 : decode cX10_init 67 = .ok (.putfield 47, 3) := by decide +kernel
theorem dX10_init_70 : decode cX10_init 70 = .ok (.aload_n 0, 1) := by decide +kernel
theorem dX10_init_71 : decode cX10_init 71 = .ok (.new 44, 3) := by decide +kernel
theorem dX10_init_74 : decode cX10_init 74 = .ok (.dup, 1) := by decide +kernel
theorem dX10_init_75 : decode cX10_init 75 = .ok (.invokespecial 46, 3) := by decide +kernel
theorem dX10_init_78 : decode cX10_init 78 = .ok (.putfield 51, 3) := by decide +kernel
theorem dX10_init_81 : decode cX10_init 81 = .ok (.aload_n 0, 1) := by decide +kernel
theorem dX10_init_82 : decode cX10_init 82 = .ok (.new 54, 3) := by decide +kernel
theorem dX10_init_85 : decode cX10_init 85 = .ok (.dup, 1) := by decide +kernel
theorem dX10_init_86 : decode cX10_init 86 = .ok (.aload_n 0, 1) := by decide +kernel
theorem dX10_init_87 : decode cX10_init 87 = .ok (.getfield 47, 3) := by decide +kernel
theorem dX10_init_90 : decode cX10_init 90 = .ok (.invokespecial 56, 3) := by decide +kernel
theorem dX10_init_93 : decode cX10_init 93 = .ok (.putfield 59, 3) := by decide +kernel
theorem dX10_init_96 : decode cX10_init 96 = .ok (.aload_n 0, 1) := by decide +kernel
theorem dX10_init_97 : decode cX10_init 97 = .ok (.new 54, 3) := by decide +kernel
theorem dX10_init_100 : decode cX10_init 100 = .ok (.dup, 1) := by decide +kernel
theorem dX10_init_101 : decode cX10_init 101 = .ok (.aload_n 0, 1) := by decide +kernel
theorem dX10_init_102 : decode cX10_init 102 = .ok (.getfield 47, 3) := by decide +kernel
theorem dX10_init_105 : decode cX10_init 105 = .ok (.invokespecial 56, 3) := by decide +kernel
theorem dX10_init_108 : decode cX10_init 108 = .ok (.putfield 63, 3) := by decide +kernel
theorem dX10_init_111 : decode cX10_init 111 = .ok (.aload_n 0, 1) := by decide +kernel
theorem dX10_init_112 : decode cX10_init 112 = .ok (.bipush 48, 2) := by decide +kernel
theorem dX10_init_114 : decode cX10_init 114 = .ok (.newarray .int, 2) := by decide +kernel
theorem dX10_init_116 : decode cX10_init 116 = .ok (.putfield 66, 3) := by decide +kernel
theorem dX10_init_119 : decode cX10_init 119 = .ok (.return_, 1) := by decide +kernel
theorem dX10_feed_0 : decode cX10_feed 0 = .ok (.aload_n 0, 1) := by decide +kernel
theorem dX10_feed_1 : decode cX10_feed 1 = .ok (.getfield 12, 3) := by decide +kernel
theorem dX10_feed_4 : decode cX10_feed 4 = .ok (.bipush 20, 2) := by decide +kernel
theorem dX10_feed_6 : decode cX10_feed 6 = .ok (.invokevirtual 70, 3) := by decide +kernel
theorem dX10_feed_9 : decode cX10_feed 9 = .ok (.ifCond .ne 5, 3) := by decide +kernel
theorem dX10_feed_12 : decode cX10_feed 12 = .ok (.iconst (-1), 1) := by decide +kernel
theorem dX10_feed_13 : decode cX10_feed 13 = .ok (.ireturn, 1) := by decide +kernel
theorem dX10_feed_14 : decode cX10_feed 14 = .ok (.aload_n 0, 1) := by decide +kernel
theorem dX10_feed_15 : decode cX10_feed 15 = .ok (.getfield 12, 3) := by decide +kernel
theorem dX10_feed_18 : decode cX10_feed 18 = .ok (.iload_n 1, 1) := by decide +kernel
theorem dX10_feed_19 : decode cX10_feed 19 = .ok (.invokevirtual 74, 3) := by decide +kernel
theorem dX10_feed_22 : decode cX10_feed 22 = .ok (.aload_n 0, 1) := by decide +kernel
theorem dX10_feed_23 : decode cX10_feed 23 = .ok (.getfield 12, 3) := by decide +kernel
theorem dX10_feed_26 : decode cX10_feed 26 = .ok (.iload_n 2, 1) := by decide +kernel
theorem dX10_feed_27 : decode cX10_feed 27 = .ok (.invokevirtual 74, 3) := by decide +kernel
theorem dX10_feed_30 : decode cX10_feed 30 = .ok (.aload_n 0, 1) := by decide +kernel
theorem dX10_feed_31 : decode cX10_feed 31 = .ok (.getfield 12, 3) := by decide +kernel
theorem dX10_feed_34 : decode cX10_feed 34 = .ok (.iload_n 3, 1) := by decide +kernel
theorem dX10_feed_35 : decode cX10_feed 35 = .ok (.invokevirtual 74, 3) := by decide +kernel
theorem dX10_feed_38 : decode cX10_feed 38 = .ok (.aload_n 0, 1) := by decide +kernel
theorem dX10_feed_39 : decode cX10_feed 39 = .ok (.getfield 12, 3) := by decide +kernel
theorem dX10_feed_42 : decode cX10_feed 42 = .ok (.iload 4, 2) := by decide +kernel
theorem dX10_feed_44 : decode cX10_feed 44 = .ok (.invokevirtual 74, 3) := by decide +kernel
theorem dX10_feed_47 : decode cX10_feed 47 = .ok (.aload_n 0, 1) := by decide +kernel
theorem dX10_feed_48 : decode cX10_feed 48 = .ok (.getfield 12, 3) := by decide +kernel
theorem dX10_feed_51 : decode cX10_feed 51 = .ok (.iload 5, 2) := by decide +kernel
theorem dX10_feed_53 : decode cX10_feed 53 = .ok (.invokevirtual 74, 3) := by decide +kernel
theorem dX10_feed_56 : decode cX10_feed 56 = .ok (.aload_n 0, 1) := by decide +kernel
theorem dX10_feed_57 : decode cX10_feed 57 = .ok (.getfield 12, 3) := by decide +kernel
theorem dX10_feed_60 : decode cX10_feed 60 = .ok (.invokevirtual 78, 3) := by decide +kernel
theorem dX10_feed_63 : decode cX10_feed 63 = .ok (.ireturn, 1) := by decide +kernel
theorem dX10_meadow_0 : decode cX10_meadow 0 = .ok (.iload_n 1, 1) := by decide +kernel
theorem dX10_meadow_1 : decode cX10_meadow 1 = .ok (.ifCond .lt 14, 3) := by decide +kernel
theorem dX10_meadow_4 : decode cX10_meadow 4 = .ok (.iload_n 1, 1) := by decide +kernel
theorem dX10_meadow_5 : decode cX10_meadow 5 = .ok (.aload_n 0, 1) := by decide +kernel
theorem dX10_meadow_6 : decode cX10_meadow 6 = .ok (.getfield 12, 3) := by decide +kernel
theorem dX10_meadow_9 : decode cX10_meadow 9 = .ok (.invokevirtual 78, 3) := by decide +kernel
theorem dX10_meadow_12 : decode cX10_meadow 12 = .ok (.if_icmp .le 9, 3) := by decide +kernel
theorem dX10_meadow_15 : decode cX10_meadow 15 = .ok (.aload_n 0, 1) := by decide +kernel
theorem dX10_meadow_16 : decode cX10_meadow 16 = .ok (.iconst 2, 1) := by decide +kernel
theorem dX10_meadow_17 : decode cX10_meadow 17 = .ok (.invokevirtual 82, 3) := by decide +kernel
theorem dX10_meadow_20 : decode cX10_meadow 20 = .ok (.ireturn, 1) := by decide +kernel
theorem dX10_meadow_21 : decode cX10_meadow 21 = .ok (.aload_n 0, 1) := by decide +kernel
theorem dX10_meadow_22 : decode cX10_meadow 22 = .ok (.getfield 26, 3) := by decide +kernel
theorem dX10_meadow_25 : decode cX10_meadow 25 = .ok (.aload_n 0, 1) := by decide +kernel
theorem dX10_meadow_26 : decode cX10_meadow 26 = .ok (.getfield 51, 3) := by decide +kernel
theorem dX10_meadow_29 : decode cX10_meadow 29 = .ok (.iload_n 1, 1) := by decide +kernel
theorem dX10_meadow_30 : decode cX10_meadow 30 = .ok (.invokevirtual 86, 3) := by decide +kernel
theorem dX10_meadow_33 : decode cX10_meadow 33 = .ok (.istore_n 2, 1) := by decide +kernel
theorem dX10_meadow_34 : decode cX10_meadow 34 = .ok (.aload_n 0, 1) := by decide +kernel
theorem dX10_meadow_35 : decode cX10_meadow 35 = .ok (.getfield 12, 3) := by decide +kernel
theorem dX10_meadow_38 : decode cX10_meadow 38 = .ok (.invokevirtual 90, 3) := by decide +kernel
theorem dX10_meadow_41 : decode cX10_meadow 41 = .ok (.aload_n 0, 1) := by decide +kernel
theorem dX10_meadow_42 : decode cX10_meadow 42 = .ok (.aload_n 0, 1) := by decide +kernel
theorem dX10_meadow_43 : decode cX10_meadow 43 = .ok (.getfield 26, 3) := by decide +kernel
theorem dX10_meadow_46 : decode cX10_meadow 46 = .ok (.invokevirtual 93, 3) := by decide +kernel
theorem dX10_meadow_49 : decode cX10_meadow 49 = .ok (.putfield 96, 3) := by decide +kernel
theorem dX10_meadow_52 : decode cX10_meadow 52 = .ok (.aload_n 0, 1) := by decide +kernel
theorem dX10_meadow_53 : decode cX10_meadow 53 = .ok (.aload_n 0, 1) := by decide +kernel
theorem dX10_meadow_54 : decode cX10_meadow 54 = .ok (.getfield 26, 3) := by decide +kernel
theorem dX10_meadow_57 : decode cX10_meadow 57 = .ok (.invokevirtual 100, 3) := by decide +kernel
theorem dX10_meadow_60 : decode cX10_meadow 60 = .ok (.putfield 103, 3) := by decide +kernel
theorem dX10_meadow_63 : decode cX10_meadow 63 = .ok (.iload_n 2, 1) := by decide +kernel
theorem dX10_meadow_64 : decode cX10_meadow 64 = .ok (.ifCond .ne 9, 3) := by decide +kernel
theorem dX10_meadow_67 : decode cX10_meadow 67 = .ok (.aload_n 0, 1) := by decide +kernel
theorem dX10_meadow_68 : decode cX10_meadow 68 = .ok (.iconst 4, 1) := by decide +kernel
theorem dX10_meadow_69 : decode cX10_meadow 69 = .ok (.invokevirtual 82, 3) := by decide +kernel
theorem dX10_meadow_72 : decode cX10_meadow 72 = .ok (.ireturn, 1) := by decide +kernel
theorem dX10_meadow_73 : decode cX10_meadow 73 = .ok (.aload_n 0, 1) := by decide +kernel
theorem dX10_meadow_74 : decode cX10_meadow 74 = .ok (.getfield 51, 3) := by decide +kernel
theorem dX10_meadow_77 : decode cX10_meadow 77 = .ok (.astore_n 3, 1) := by decide +kernel
theorem dX10_meadow_78 : decode cX10_meadow 78 = .ok (.aload_n 0, 1) := by decide +kernel
theorem dX10_meadow_79 : decode cX10_meadow 79 = .ok (.aload_n 0, 1) := by decide +kernel
theorem dX10_meadow_80 : decode cX10_meadow 80 = .ok (.getfield 47, 3) := by decide +kernel
theorem dX10_meadow_83 : decode cX10_meadow 83 = .ok (.putfield 51, 3) := by decide +kernel
theorem dX10_meadow_86 : decode cX10_meadow 86 = .ok (.aload_n 0, 1) := by decide +kernel
theorem dX10_meadow_87 : decode cX10_meadow 87 = .ok (.aload_n 3, 1) := by decide +kernel
theorem dX10_meadow_88 : decode cX10_meadow 88 = .ok (.putfield 47, 3) := by decide +kernel
theorem dX10_meadow_91 : decode cX10_meadow 91 = .ok (.aload_n 0, 1) := by decide +kernel
theorem dX10_meadow_92 : decode cX10_meadow 92 = .ok (.iconst 1, 1) := by decide +kernel
theorem dX10_meadow_93 : decode cX10_meadow 93 = .ok (.putfield 106, 3) := by decide +kernel
theorem dX10_meadow_96 : decode cX10_meadow 96 = .ok (.aload_n 0, 1) := by decide +kernel
theorem dX10_meadow_97 : decode cX10_meadow 97 = .ok (.aload_n 0, 1) := by decide +kernel
theorem dX10_meadow_98 : decode cX10_meadow 98 = .ok (.getfield 47, 3) := by decide +kernel
theorem dX10_meadow_101 : decode cX10_meadow 101 = .ok (.getfield 110, 3) := by decide +kernel
theorem dX10_meadow_104 : decode cX10_meadow 104 = .ok (.getfield 114, 3) := by decide +kernel
theorem dX10_meadow_107 : decode cX10_meadow 107 = .ok (.putfield 120, 3) := by decide +kernel
theorem dX10_meadow_110 : decode cX10_meadow 110 = .ok (.aload_n 0, 1) := by decide +kernel
theorem dX10_meadow_111 : decode cX10_meadow 111 = .ok (.iconst 0, 1) := by decide +kernel
theorem dX10_meadow_112 : decode cX10_meadow 112 = .ok (.putfield 123, 3) := by decide +kernel
theorem dX10_meadow_115 : decode cX10_meadow 115 = .ok (.aload_n 0, 1) := by decide +kernel
theorem dX10_meadow_116 : decode cX10_meadow 116 = .ok (.getfield 33, 3) := by decide +kernel
theorem dX10_meadow_119 : decode cX10_meadow 119 = .ok (.invokevirtual 126, 3) := by decide +kernel
theorem dX10_meadow_122 : decode cX10_meadow 122 = .ok (.aload_n 0, 1) := by decide +kernel
theorem dX10_meadow_123 : decode cX10_meadow 123 = .ok (.aload_n 0, 1) := by decide +kernel
theorem dX10_meadow_124 : decode cX10_meadow 124 = .ok (.getfield 120, 3) := by decide +kernel
theorem dX10_meadow_127 : decode cX10_meadow 127 = .ok (.invokestatic 129, 3) := by decide +kernel
theorem dX10_meadow_130 : decode cX10_meadow 130 = .ok (.invokevirtual 135, 3) := by decide +kernel
theorem dX10_meadow_133 : decode cX10_meadow 133 = .ok (.ireturn, 1) := by decide +kernel
theorem dX10_fault_0 : decode cX10_fault 0 = .ok (.aload_n 0, 1) := by decide +kernel
theorem dX10_fault_1 : decode cX10_fault 1 = .ok (.getfield 96, 3) := by decide +kernel
theorem dX10_fault_4 : decode cX10_fault 4 = .ok (.ireturn, 1) := by decide +kernel
theorem dX10_where_0 : decode cX10_where 0 = .ok (.aload_n 0, 1) := by decide +kernel
theorem dX10_where_1 : decode cX10_where 1 = .ok (.getfield 138, 3) := by decide +kernel
theorem dX10_where_4 : decode cX10_where 4 = .ok (.iconst 4, 1) := by decide +kernel
theorem dX10_where_5 : decode cX10_where 5 = .ok (.if_icmp .ne 10, 3) := by decide +kernel
theorem dX10_where_8 : decode cX10_where 8 = .ok (.aload_n 0, 1) := by decide +kernel
theorem dX10_where_9 : decode cX10_where 9 = .ok (.getfield 103, 3) := by decide +kernel
theorem dX10_where_12 : decode cX10_where 12 = .ok (.goto 4, 3) := by decide +kernel
theorem dX10_where_15 : decode cX10_where 15 = .ok (.iconst (-1), 1) := by decide +kernel
theorem dX10_where_16 : decode cX10_where 16 = .ok (.ireturn, 1) := by decide +kernel
theorem dX10_mown_0 : decode cX10_mown 0 = .ok (.aload_n 0, 1) := by decide +kernel
theorem dX10_mown_1 : decode cX10_mown 1 = .ok (.iload_n 1, 1) := by decide +kernel
theorem dX10_mown_2 : decode cX10_mown 2 = .ok (.iload_n 2, 1) := by decide +kernel
theorem dX10_mown_3 : decode cX10_mown 3 = .ok (.invokevirtual 141, 3) := by decide +kernel
theorem dX10_mown_6 : decode cX10_mown 6 = .ok (.ifCond .ne 9, 3) := by decide +kernel
theorem dX10_mown_9 : decode cX10_mown 9 = .ok (.aload_n 0, 1) := by decide +kernel
theorem dX10_mown_10 : decode cX10_mown 10 = .ok (.iconst 1, 1) := by decide +kernel
theorem dX10_mown_11 : decode cX10_mown 11 = .ok (.invokevirtual 82, 3) := by decide +kernel
theorem dX10_mown_14 : decode cX10_mown 14 = .ok (.ireturn, 1) := by decide +kernel
theorem dX10_mown_15 : decode cX10_mown 15 = .ok (.aload_n 0, 1) := by decide +kernel
theorem dX10_mown_16 : decode cX10_mown 16 = .ok (.aload_n 0, 1) := by decide +kernel
theorem dX10_mown_17 : decode cX10_mown 17 = .ok (.iload_n 1, 1) := by decide +kernel
theorem dX10_mown_18 : decode cX10_mown 18 = .ok (.iload_n 2, 1) := by decide +kernel
theorem dX10_mown_19 : decode cX10_mown 19 = .ok (.invokevirtual 145, 3) := by decide +kernel
theorem dX10_mown_22 : decode cX10_mown 22 = .ok (.ifCond .eq 7, 3) := by decide +kernel
theorem dX10_mown_25 : decode cX10_mown 25 = .ok (.iconst 1, 1) := by decide +kernel
theorem dX10_mown_26 : decode cX10_mown 26 = .ok (.goto 4, 3) := by decide +kernel
theorem dX10_mown_29 : decode cX10_mown 29 = .ok (.iconst 0, 1) := by decide +kernel
theorem dX10_mown_30 : decode cX10_mown 30 = .ok (.invokevirtual 135, 3) := by decide +kernel
theorem dX10_mown_33 : decode cX10_mown 33 = .ok (.ireturn, 1) := by decide +kernel
theorem dX10_beside_0 : decode cX10_beside 0 = .ok (.aload_n 0, 1) := by decide +kernel
theorem dX10_beside_1 : decode cX10_beside 1 = .ok (.iload_n 1, 1) := by decide +kernel
theorem dX10_beside_2 : decode cX10_beside 2 = .ok (.iload_n 2, 1) := by decide +kernel
theorem dX10_beside_3 : decode cX10_beside 3 = .ok (.invokevirtual 141, 3) := by decide +kernel
theorem dX10_beside_6 : decode cX10_beside 6 = .ok (.ifCond .ne 9, 3) := by decide +kernel
theorem dX10_beside_9 : decode cX10_beside 9 = .ok (.aload_n 0, 1) := by decide +kernel
theorem dX10_beside_10 : decode cX10_beside 10 = .ok (.iconst 1, 1) := by decide +kernel
theorem dX10_beside_11 : decode cX10_beside 11 = .ok (.invokevirtual 82, 3) := by decide +kernel
theorem dX10_beside_14 : decode cX10_beside 14 = .ok (.ireturn, 1) := by decide +kernel
theorem dX10_beside_15 : decode cX10_beside 15 = .ok (.aload_n 0, 1) := by decide +kernel
theorem dX10_beside_16 : decode cX10_beside 16 = .ok (.aload_n 0, 1) := by decide +kernel
theorem dX10_beside_17 : decode cX10_beside 17 = .ok (.getfield 47, 3) := by decide +kernel
theorem dX10_beside_20 : decode cX10_beside 20 = .ok (.getfield 148, 3) := by decide +kernel
theorem dX10_beside_23 : decode cX10_beside 23 = .ok (.aload_n 0, 1) := by decide +kernel
theorem dX10_beside_24 : decode cX10_beside 24 = .ok (.getfield 120, 3) := by decide +kernel
theorem dX10_beside_27 : decode cX10_beside 27 = .ok (.aload_n 0, 1) := by decide +kernel
theorem dX10_beside_28 : decode cX10_beside 28 = .ok (.getfield 47, 3) := by decide +kernel
theorem dX10_beside_31 : decode cX10_beside 31 = .ok (.getfield 148, 3) := by decide +kernel
theorem dX10_beside_34 : decode cX10_beside 34 = .ok (.iload_n 1, 1) := by decide +kernel
theorem dX10_beside_35 : decode cX10_beside 35 = .ok (.iload_n 2, 1) := by decide +kernel
theorem dX10_beside_36 : decode cX10_beside 36 = .ok (.invokevirtual 152, 3) := by decide +kernel
theorem dX10_beside_39 : decode cX10_beside 39 = .ok (.invokevirtual 158, 3) := by decide +kernel
theorem dX10_beside_42 : decode cX10_beside 42 = .ok (.invokevirtual 135, 3) := by decide +kernel
theorem dX10_beside_45 : decode cX10_beside 45 = .ok (.ireturn, 1) := by decide +kernel
theorem dX10_parts_0 : decode cX10_parts 0 = .ok (.aload_n 0, 1) := by decide +kernel
theorem dX10_parts_1 : decode cX10_parts 1 = .ok (.getfield 106, 3) := by decide +kernel
theorem dX10_parts_4 : decode cX10_parts 4 = .ok (.ifCond .eq 24, 3) := by decide +kernel
theorem dX10_parts_7 : decode cX10_parts 7 = .ok (.aload_n 0, 1) := by decide +kernel
theorem dX10_parts_8 : decode cX10_parts 8 = .ok (.aload_n 0, 1) := by decide +kernel
theorem dX10_parts_9 : decode cX10_parts 9 = .ok (.getfield 47, 3) := by decide +kernel
theorem dX10_parts_12 : decode cX10_parts 12 = .ok (.getfield 148, 3) := by decide +kernel
theorem dX10_parts_15 : decode cX10_parts 15 = .ok (.aload_n 0, 1) := by decide +kernel
theorem dX10_parts_16 : decode cX10_parts 16 = .ok (.getfield 120, 3) := by decide +kernel
theorem dX10_parts_19 : decode cX10_parts 19 = .ok (.invokevirtual 162, 3) := by decide +kernel
theorem dX10_parts_22 : decode cX10_parts 22 = .ok (.invokevirtual 135, 3) := by decide +kernel
theorem dX10_parts_25 : decode cX10_parts 25 = .ok (.goto 8, 3) := by decide +kernel
theorem dX10_parts_28 : decode cX10_parts 28 = .ok (.aload_n 0, 1) := by decide +kernel
theorem dX10_parts_29 : decode cX10_parts 29 = .ok (.iconst 1, 1) := by decide +kernel
theorem dX10_parts_30 : decode cX10_parts 30 = .ok (.invokevirtual 82, 3) := by decide +kernel
theorem dX10_parts_33 : decode cX10_parts 33 = .ok (.ireturn, 1) := by decide +kernel
theorem dX10_rings_0 : decode cX10_rings 0 = .ok (.aload_n 0, 1) := by decide +kernel
theorem dX10_rings_1 : decode cX10_rings 1 = .ok (.getfield 106, 3) := by decide +kernel
theorem dX10_rings_4 : decode cX10_rings 4 = .ok (.ifCond .eq 24, 3) := by decide +kernel
theorem dX10_rings_7 : decode cX10_rings 7 = .ok (.aload_n 0, 1) := by decide +kernel
theorem dX10_rings_8 : decode cX10_rings 8 = .ok (.aload_n 0, 1) := by decide +kernel
theorem dX10_rings_9 : decode cX10_rings 9 = .ok (.getfield 47, 3) := by decide +kernel
theorem dX10_rings_12 : decode cX10_rings 12 = .ok (.getfield 148, 3) := by decide +kernel
theorem dX10_rings_15 : decode cX10_rings 15 = .ok (.aload_n 0, 1) := by decide +kernel
theorem dX10_rings_16 : decode cX10_rings 16 = .ok (.getfield 120, 3) := by decide +kernel
theorem dX10_rings_19 : decode cX10_rings 19 = .ok (.invokevirtual 165, 3) := by decide +kernel
theorem dX10_rings_22 : decode cX10_rings 22 = .ok (.invokevirtual 135, 3) := by decide +kernel
theorem dX10_rings_25 : decode cX10_rings 25 = .ok (.goto 8, 3) := by decide +kernel
theorem dX10_rings_28 : decode cX10_rings 28 = .ok (.aload_n 0, 1) := by decide +kernel
theorem dX10_rings_29 : decode cX10_rings 29 = .ok (.iconst 1, 1) := by decide +kernel
theorem dX10_rings_30 : decode cX10_rings 30 = .ok (.invokevirtual 82, 3) := by decide +kernel
theorem dX10_rings_33 : decode cX10_rings 33 = .ok (.ireturn, 1) := by decide +kernel
theorem dX10_ends_0 : decode cX10_ends 0 = .ok (.aload_n 0, 1) := by decide +kernel
theorem dX10_ends_1 : decode cX10_ends 1 = .ok (.getfield 106, 3) := by decide +kernel
theorem dX10_ends_4 : decode cX10_ends 4 = .ok (.ifCond .eq 24, 3) := by decide +kernel
theorem dX10_ends_7 : decode cX10_ends 7 = .ok (.aload_n 0, 1) := by decide +kernel
theorem dX10_ends_8 : decode cX10_ends 8 = .ok (.aload_n 0, 1) := by decide +kernel
theorem dX10_ends_9 : decode cX10_ends 9 = .ok (.getfield 47, 3) := by decide +kernel
theorem dX10_ends_12 : decode cX10_ends 12 = .ok (.getfield 148, 3) := by decide +kernel
theorem dX10_ends_15 : decode cX10_ends 15 = .ok (.aload_n 0, 1) := by decide +kernel
theorem dX10_ends_16 : decode cX10_ends 16 = .ok (.getfield 120, 3) := by decide +kernel
theorem dX10_ends_19 : decode cX10_ends 19 = .ok (.invokevirtual 168, 3) := by decide +kernel
theorem dX10_ends_22 : decode cX10_ends 22 = .ok (.invokevirtual 135, 3) := by decide +kernel
theorem dX10_ends_25 : decode cX10_ends 25 = .ok (.goto 8, 3) := by decide +kernel
theorem dX10_ends_28 : decode cX10_ends 28 = .ok (.aload_n 0, 1) := by decide +kernel
theorem dX10_ends_29 : decode cX10_ends 29 = .ok (.iconst 1, 1) := by decide +kernel
theorem dX10_ends_30 : decode cX10_ends 30 = .ok (.invokevirtual 82, 3) := by decide +kernel
theorem dX10_ends_33 : decode cX10_ends 33 = .ok (.ireturn, 1) := by decide +kernel
theorem dX10_steps_0 : decode cX10_steps 0 = .ok (.aload_n 0, 1) := by decide +kernel
theorem dX10_steps_1 : decode cX10_steps 1 = .ok (.iload_n 1, 1) := by decide +kernel
theorem dX10_steps_2 : decode cX10_steps 2 = .ok (.invokevirtual 171, 3) := by decide +kernel
theorem dX10_steps_5 : decode cX10_steps 5 = .ok (.ifCond .eq 11, 3) := by decide +kernel
theorem dX10_steps_8 : decode cX10_steps 8 = .ok (.aload_n 0, 1) := by decide +kernel
theorem dX10_steps_9 : decode cX10_steps 9 = .ok (.iload_n 2, 1) := by decide +kernel
theorem dX10_steps_10 : decode cX10_steps 10 = .ok (.invokevirtual 171, 3) := by decide +kernel
theorem dX10_steps_13 : decode cX10_steps 13 = .ok (.ifCond .ne 9, 3) := by decide +kernel
theorem dX10_steps_16 : decode cX10_steps 16 = .ok (.aload_n 0, 1) := by decide +kernel
theorem dX10_steps_17 : decode cX10_steps 17 = .ok (.iconst 1, 1) := by decide +kernel
theorem dX10_steps_18 : decode cX10_steps 18 = .ok (.invokevirtual 82, 3) := by decide +kernel
theorem dX10_steps_21 : decode cX10_steps 21 = .ok (.ireturn, 1) := by decide +kernel
theorem dX10_steps_22 : decode cX10_steps 22 = .ok (.aload_n 0, 1) := by decide +kernel
theorem dX10_steps_23 : decode cX10_steps 23 = .ok (.aload_n 0, 1) := by decide +kernel
theorem dX10_steps_24 : decode cX10_steps 24 = .ok (.getfield 47, 3) := by decide +kernel
theorem dX10_steps_27 : decode cX10_steps 27 = .ok (.getfield 148, 3) := by decide +kernel
theorem dX10_steps_30 : decode cX10_steps 30 = .ok (.aload_n 0, 1) := by decide +kernel
theorem dX10_steps_31 : decode cX10_steps 31 = .ok (.getfield 120, 3) := by decide +kernel
theorem dX10_steps_34 : decode cX10_steps 34 = .ok (.iload_n 1, 1) := by decide +kernel
theorem dX10_steps_35 : decode cX10_steps 35 = .ok (.iload_n 2, 1) := by decide +kernel
theorem dX10_steps_36 : decode cX10_steps 36 = .ok (.invokevirtual 174, 3) := by decide +kernel
theorem dX10_steps_39 : decode cX10_steps 39 = .ok (.invokevirtual 135, 3) := by decide +kernel
theorem dX10_steps_42 : decode cX10_steps 42 = .ok (.ireturn, 1) := by decide +kernel
theorem dX10_longest_0 : decode cX10_longest 0 = .ok (.aload_n 0, 1) := by decide +kernel
theorem dX10_longest_1 : decode cX10_longest 1 = .ok (.getfield 106, 3) := by decide +kernel
theorem dX10_longest_4 : decode cX10_longest 4 = .ok (.ifCond .eq 24, 3) := by decide +kernel
theorem dX10_longest_7 : decode cX10_longest 7 = .ok (.aload_n 0, 1) := by decide +kernel
theorem dX10_longest_8 : decode cX10_longest 8 = .ok (.aload_n 0, 1) := by decide +kernel
theorem dX10_longest_9 : decode cX10_longest 9 = .ok (.getfield 47, 3) := by decide +kernel
theorem dX10_longest_12 : decode cX10_longest 12 = .ok (.getfield 148, 3) := by decide +kernel
theorem dX10_longest_15 : decode cX10_longest 15 = .ok (.aload_n 0, 1) := by decide +kernel
theorem dX10_longest_16 : decode cX10_longest 16 = .ok (.getfield 120, 3) := by decide +kernel
theorem dX10_longest_19 : decode cX10_longest 19 = .ok (.invokevirtual 178, 3) := by decide +kernel
theorem dX10_longest_22 : decode cX10_longest 22 = .ok (.invokevirtual 135, 3) := by decide +kernel
theorem dX10_longest_25 : decode cX10_longest 25 = .ok (.goto 8, 3) := by decide +kernel
theorem dX10_longest_28 : decode cX10_longest 28 = .ok (.aload_n 0, 1) := by decide +kernel
theorem dX10_longest_29 : decode cX10_longest 29 = .ok (.iconst 1, 1) := by decide +kernel
theorem dX10_longest_30 : decode cX10_longest 30 = .ok (.invokevirtual 82, 3) := by decide +kernel
theorem dX10_longest_33 : decode cX10_longest 33 = .ok (.ireturn, 1) := by decide +kernel
theorem dX10_splits_0 : decode cX10_splits 0 = .ok (.aload_n 0, 1) := by decide +kernel
theorem dX10_splits_1 : decode cX10_splits 1 = .ok (.iload_n 1, 1) := by decide +kernel
theorem dX10_splits_2 : decode cX10_splits 2 = .ok (.iload_n 2, 1) := by decide +kernel
theorem dX10_splits_3 : decode cX10_splits 3 = .ok (.invokevirtual 141, 3) := by decide +kernel
theorem dX10_splits_6 : decode cX10_splits 6 = .ok (.ifCond .ne 9, 3) := by decide +kernel
theorem dX10_splits_9 : decode cX10_splits 9 = .ok (.aload_n 0, 1) := by decide +kernel
theorem dX10_splits_10 : decode cX10_splits 10 = .ok (.iconst 1, 1) := by decide +kernel
theorem dX10_splits_11 : decode cX10_splits 11 = .ok (.invokevirtual 82, 3) := by decide +kernel
theorem dX10_splits_14 : decode cX10_splits 14 = .ok (.ireturn, 1) := by decide +kernel
theorem dX10_splits_15 : decode cX10_splits 15 = .ok (.aload_n 0, 1) := by decide +kernel
theorem dX10_splits_16 : decode cX10_splits 16 = .ok (.aload_n 0, 1) := by decide +kernel
theorem dX10_splits_17 : decode cX10_splits 17 = .ok (.getfield 47, 3) := by decide +kernel
theorem dX10_splits_20 : decode cX10_splits 20 = .ok (.getfield 148, 3) := by decide +kernel
theorem dX10_splits_23 : decode cX10_splits 23 = .ok (.aload_n 0, 1) := by decide +kernel
theorem dX10_splits_24 : decode cX10_splits 24 = .ok (.getfield 120, 3) := by decide +kernel
theorem dX10_splits_27 : decode cX10_splits 27 = .ok (.aload_n 0, 1) := by decide +kernel
theorem dX10_splits_28 : decode cX10_splits 28 = .ok (.getfield 47, 3) := by decide +kernel
theorem dX10_splits_31 : decode cX10_splits 31 = .ok (.getfield 148, 3) := by decide +kernel
theorem dX10_splits_34 : decode cX10_splits 34 = .ok (.iload_n 1, 1) := by decide +kernel
theorem dX10_splits_35 : decode cX10_splits 35 = .ok (.iload_n 2, 1) := by decide +kernel
theorem dX10_splits_36 : decode cX10_splits 36 = .ok (.invokevirtual 152, 3) := by decide +kernel
theorem dX10_splits_39 : decode cX10_splits 39 = .ok (.invokevirtual 181, 3) := by decide +kernel
theorem dX10_splits_42 : decode cX10_splits 42 = .ok (.ifCond .eq 7, 3) := by decide +kernel
theorem dX10_splits_45 : decode cX10_splits 45 = .ok (.iconst 1, 1) := by decide +kernel
theorem dX10_splits_46 : decode cX10_splits 46 = .ok (.goto 4, 3) := by decide +kernel
theorem dX10_splits_49 : decode cX10_splits 49 = .ok (.iconst 0, 1) := by decide +kernel
theorem dX10_splits_50 : decode cX10_splits 50 = .ok (.invokevirtual 135, 3) := by decide +kernel
theorem dX10_splits_53 : decode cX10_splits 53 = .ok (.ireturn, 1) := by decide +kernel
theorem dX10_at_0 : decode cX10_at 0 = .ok (.aload_n 0, 1) := by decide +kernel
theorem dX10_at_1 : decode cX10_at 1 = .ok (.iload_n 1, 1) := by decide +kernel
theorem dX10_at_2 : decode cX10_at 2 = .ok (.invokevirtual 185, 3) := by decide +kernel
theorem dX10_at_5 : decode cX10_at 5 = .ok (.ifCond .ne 9, 3) := by decide +kernel
theorem dX10_at_8 : decode cX10_at 8 = .ok (.aload_n 0, 1) := by decide +kernel
theorem dX10_at_9 : decode cX10_at 9 = .ok (.iconst 1, 1) := by decide +kernel
theorem dX10_at_10 : decode cX10_at 10 = .ok (.invokevirtual 82, 3) := by decide +kernel
theorem dX10_at_13 : decode cX10_at 13 = .ok (.ireturn, 1) := by decide +kernel
theorem dX10_at_14 : decode cX10_at 14 = .ok (.aload_n 0, 1) := by decide +kernel
theorem dX10_at_15 : decode cX10_at 15 = .ok (.iload_n 2, 1) := by decide +kernel
theorem dX10_at_16 : decode cX10_at 16 = .ok (.invokevirtual 188, 3) := by decide +kernel
theorem dX10_at_19 : decode cX10_at 19 = .ok (.ifCond .ne 9, 3) := by decide +kernel
theorem dX10_at_22 : decode cX10_at 22 = .ok (.aload_n 0, 1) := by decide +kernel
theorem dX10_at_23 : decode cX10_at 23 = .ok (.iconst 2, 1) := by decide +kernel
theorem dX10_at_24 : decode cX10_at 24 = .ok (.invokevirtual 82, 3) := by decide +kernel
theorem dX10_at_27 : decode cX10_at 27 = .ok (.ireturn, 1) := by decide +kernel
theorem dX10_at_28 : decode cX10_at 28 = .ok (.aload_n 0, 1) := by decide +kernel
theorem dX10_at_29 : decode cX10_at 29 = .ok (.getfield 59, 3) := by decide +kernel
theorem dX10_at_32 : decode cX10_at 32 = .ok (.aload_n 0, 1) := by decide +kernel
theorem dX10_at_33 : decode cX10_at 33 = .ok (.getfield 47, 3) := by decide +kernel
theorem dX10_at_36 : decode cX10_at 36 = .ok (.iload_n 1, 1) := by decide +kernel
theorem dX10_at_37 : decode cX10_at 37 = .ok (.aload_n 0, 1) := by decide +kernel
theorem dX10_at_38 : decode cX10_at 38 = .ok (.getfield 120, 3) := by decide +kernel
theorem dX10_at_41 : decode cX10_at 41 = .ok (.aload_n 0, 1) := by decide +kernel
theorem dX10_at_42 : decode cX10_at 42 = .ok (.getfield 123, 3) := by decide +kernel
theorem dX10_at_45 : decode cX10_at 45 = .ok (.invokevirtual 191, 3) := by decide +kernel
theorem dX10_at_48 : decode cX10_at 48 = .ok (.aload_n 0, 1) := by decide +kernel
theorem dX10_at_49 : decode cX10_at 49 = .ok (.aload_n 0, 1) := by decide +kernel
theorem dX10_at_50 : decode cX10_at 50 = .ok (.getfield 59, 3) := by decide +kernel
theorem dX10_at_53 : decode cX10_at 53 = .ok (.iload_n 2, 1) := by decide +kernel
theorem dX10_at_54 : decode cX10_at 54 = .ok (.invokevirtual 195, 3) := by decide +kernel
theorem dX10_at_57 : decode cX10_at 57 = .ok (.invokevirtual 135, 3) := by decide +kernel
theorem dX10_at_60 : decode cX10_at 60 = .ok (.ireturn, 1) := by decide +kernel
theorem dX10_out_0 : decode cX10_out 0 = .ok (.aload_n 0, 1) := by decide +kernel
theorem dX10_out_1 : decode cX10_out 1 = .ok (.iload_n 1, 1) := by decide +kernel
theorem dX10_out_2 : decode cX10_out 2 = .ok (.invokevirtual 185, 3) := by decide +kernel
theorem dX10_out_5 : decode cX10_out 5 = .ok (.ifCond .ne 9, 3) := by decide +kernel
theorem dX10_out_8 : decode cX10_out 8 = .ok (.aload_n 0, 1) := by decide +kernel
theorem dX10_out_9 : decode cX10_out 9 = .ok (.iconst 1, 1) := by decide +kernel
theorem dX10_out_10 : decode cX10_out 10 = .ok (.invokevirtual 82, 3) := by decide +kernel
theorem dX10_out_13 : decode cX10_out 13 = .ok (.ireturn, 1) := by decide +kernel
theorem dX10_out_14 : decode cX10_out 14 = .ok (.aload_n 0, 1) := by decide +kernel
theorem dX10_out_15 : decode cX10_out 15 = .ok (.getfield 59, 3) := by decide +kernel
theorem dX10_out_18 : decode cX10_out 18 = .ok (.aload_n 0, 1) := by decide +kernel
theorem dX10_out_19 : decode cX10_out 19 = .ok (.getfield 47, 3) := by decide +kernel
theorem dX10_out_22 : decode cX10_out 22 = .ok (.iload_n 1, 1) := by decide +kernel
theorem dX10_out_23 : decode cX10_out 23 = .ok (.aload_n 0, 1) := by decide +kernel
theorem dX10_out_24 : decode cX10_out 24 = .ok (.getfield 120, 3) := by decide +kernel
theorem dX10_out_27 : decode cX10_out 27 = .ok (.aload_n 0, 1) := by decide +kernel
theorem dX10_out_28 : decode cX10_out 28 = .ok (.getfield 123, 3) := by decide +kernel
theorem dX10_out_31 : decode cX10_out 31 = .ok (.invokevirtual 191, 3) := by decide +kernel
theorem dX10_out_34 : decode cX10_out 34 = .ok (.aload_n 0, 1) := by decide +kernel
theorem dX10_out_35 : decode cX10_out 35 = .ok (.aload_n 0, 1) := by decide +kernel
theorem dX10_out_36 : decode cX10_out 36 = .ok (.getfield 59, 3) := by decide +kernel
theorem dX10_out_39 : decode cX10_out 39 = .ok (.invokevirtual 198, 3) := by decide +kernel
theorem dX10_out_42 : decode cX10_out 42 = .ok (.invokevirtual 135, 3) := by decide +kernel
theorem dX10_out_45 : decode cX10_out 45 = .ok (.ireturn, 1) := by decide +kernel
theorem dX10_ever_0 : decode cX10_ever 0 = .ok (.aload_n 0, 1) := by decide +kernel
theorem dX10_ever_1 : decode cX10_ever 1 = .ok (.iload_n 1, 1) := by decide +kernel
theorem dX10_ever_2 : decode cX10_ever 2 = .ok (.invokevirtual 185, 3) := by decide +kernel
theorem dX10_ever_5 : decode cX10_ever 5 = .ok (.ifCond .ne 9, 3) := by decide +kernel
theorem dX10_ever_8 : decode cX10_ever 8 = .ok (.aload_n 0, 1) := by decide +kernel
theorem dX10_ever_9 : decode cX10_ever 9 = .ok (.iconst 1, 1) := by decide +kernel
theorem dX10_ever_10 : decode cX10_ever 10 = .ok (.invokevirtual 82, 3) := by decide +kernel
theorem dX10_ever_13 : decode cX10_ever 13 = .ok (.ireturn, 1) := by decide +kernel
theorem dX10_ever_14 : decode cX10_ever 14 = .ok (.aload_n 0, 1) := by decide +kernel
theorem dX10_ever_15 : decode cX10_ever 15 = .ok (.iload_n 1, 1) := by decide +kernel
theorem dX10_ever_16 : decode cX10_ever 16 = .ok (.invokevirtual 201, 3) := by decide +kernel
theorem dX10_ever_19 : decode cX10_ever 19 = .ok (.ifCond .eq 9, 3) := by decide +kernel
theorem dX10_ever_22 : decode cX10_ever 22 = .ok (.aload_n 0, 1) := by decide +kernel
theorem dX10_ever_23 : decode cX10_ever 23 = .ok (.iconst 5, 1) := by decide +kernel
theorem dX10_ever_24 : decode cX10_ever 24 = .ok (.invokevirtual 82, 3) := by decide +kernel
theorem dX10_ever_27 : decode cX10_ever 27 = .ok (.ireturn, 1) := by decide +kernel
theorem dX10_ever_28 : decode cX10_ever 28 = .ok (.aload_n 0, 1) := by decide +kernel
theorem dX10_ever_29 : decode cX10_ever 29 = .ok (.getfield 59, 3) := by decide +kernel
theorem dX10_ever_32 : decode cX10_ever 32 = .ok (.aload_n 0, 1) := by decide +kernel
theorem dX10_ever_33 : decode cX10_ever 33 = .ok (.getfield 47, 3) := by decide +kernel
theorem dX10_ever_36 : decode cX10_ever 36 = .ok (.iload_n 1, 1) := by decide +kernel
theorem dX10_ever_37 : decode cX10_ever 37 = .ok (.aload_n 0, 1) := by decide +kernel
theorem dX10_ever_38 : decode cX10_ever 38 = .ok (.getfield 120, 3) := by decide +kernel
theorem dX10_ever_41 : decode cX10_ever 41 = .ok (.aload_n 0, 1) := by decide +kernel
theorem dX10_ever_42 : decode cX10_ever 42 = .ok (.getfield 123, 3) := by decide +kernel
theorem dX10_ever_45 : decode cX10_ever 45 = .ok (.invokevirtual 204, 3) := by decide +kernel
theorem dX10_ever_48 : decode cX10_ever 48 = .ok (.aload_n 0, 1) := by decide +kernel
theorem dX10_ever_49 : decode cX10_ever 49 = .ok (.aload_n 0, 1) := by decide +kernel
theorem dX10_ever_50 : decode cX10_ever 50 = .ok (.getfield 59, 3) := by decide +kernel
theorem dX10_ever_53 : decode cX10_ever 53 = .ok (.invokevirtual 207, 3) := by decide +kernel
theorem dX10_ever_56 : decode cX10_ever 56 = .ok (.ifCond .eq 7, 3) := by decide +kernel
theorem dX10_ever_59 : decode cX10_ever 59 = .ok (.iconst 1, 1) := by decide +kernel
theorem dX10_ever_60 : decode cX10_ever 60 = .ok (.goto 4, 3) := by decide +kernel
theorem dX10_ever_63 : decode cX10_ever 63 = .ok (.iconst 0, 1) := by decide +kernel
theorem dX10_ever_64 : decode cX10_ever 64 = .ok (.invokevirtual 135, 3) := by decide +kernel
theorem dX10_ever_67 : decode cX10_ever 67 = .ok (.ireturn, 1) := by decide +kernel
theorem dX10_ring_0 : decode cX10_ring 0 = .ok (.aload_n 0, 1) := by decide +kernel
theorem dX10_ring_1 : decode cX10_ring 1 = .ok (.iload_n 1, 1) := by decide +kernel
theorem dX10_ring_2 : decode cX10_ring 2 = .ok (.invokevirtual 185, 3) := by decide +kernel
theorem dX10_ring_5 : decode cX10_ring 5 = .ok (.ifCond .ne 9, 3) := by decide +kernel
theorem dX10_ring_8 : decode cX10_ring 8 = .ok (.aload_n 0, 1) := by decide +kernel
theorem dX10_ring_9 : decode cX10_ring 9 = .ok (.iconst 1, 1) := by decide +kernel
theorem dX10_ring_10 : decode cX10_ring 10 = .ok (.invokevirtual 82, 3) := by decide +kernel
theorem dX10_ring_13 : decode cX10_ring 13 = .ok (.ireturn, 1) := by decide +kernel
theorem dX10_ring_14 : decode cX10_ring 14 = .ok (.aload_n 0, 1) := by decide +kernel
theorem dX10_ring_15 : decode cX10_ring 15 = .ok (.iload_n 1, 1) := by decide +kernel
theorem dX10_ring_16 : decode cX10_ring 16 = .ok (.invokevirtual 201, 3) := by decide +kernel
theorem dX10_ring_19 : decode cX10_ring 19 = .ok (.ifCond .eq 9, 3) := by decide +kernel
theorem dX10_ring_22 : decode cX10_ring 22 = .ok (.aload_n 0, 1) := by decide +kernel
theorem dX10_ring_23 : decode cX10_ring 23 = .ok (.iconst 5, 1) := by decide +kernel
theorem dX10_ring_24 : decode cX10_ring 24 = .ok (.invokevirtual 82, 3) := by decide +kernel
theorem dX10_ring_27 : decode cX10_ring 27 = .ok (.ireturn, 1) := by decide +kernel
theorem dX10_ring_28 : decode cX10_ring 28 = .ok (.aload_n 0, 1) := by decide +kernel
theorem dX10_ring_29 : decode cX10_ring 29 = .ok (.getfield 59, 3) := by decide +kernel
theorem dX10_ring_32 : decode cX10_ring 32 = .ok (.aload_n 0, 1) := by decide +kernel
theorem dX10_ring_33 : decode cX10_ring 33 = .ok (.getfield 47, 3) := by decide +kernel
theorem dX10_ring_36 : decode cX10_ring 36 = .ok (.iload_n 1, 1) := by decide +kernel
theorem dX10_ring_37 : decode cX10_ring 37 = .ok (.aload_n 0, 1) := by decide +kernel
theorem dX10_ring_38 : decode cX10_ring 38 = .ok (.getfield 120, 3) := by decide +kernel
theorem dX10_ring_41 : decode cX10_ring 41 = .ok (.aload_n 0, 1) := by decide +kernel
theorem dX10_ring_42 : decode cX10_ring 42 = .ok (.getfield 123, 3) := by decide +kernel
theorem dX10_ring_45 : decode cX10_ring 45 = .ok (.invokevirtual 204, 3) := by decide +kernel
theorem dX10_ring_48 : decode cX10_ring 48 = .ok (.aload_n 0, 1) := by decide +kernel
theorem dX10_ring_49 : decode cX10_ring 49 = .ok (.getfield 59, 3) := by decide +kernel
theorem dX10_ring_52 : decode cX10_ring 52 = .ok (.invokevirtual 207, 3) := by decide +kernel
theorem dX10_ring_55 : decode cX10_ring 55 = .ok (.ifCond .eq 10, 3) := by decide +kernel
theorem dX10_ring_58 : decode cX10_ring 58 = .ok (.aload_n 0, 1) := by decide +kernel
theorem dX10_ring_59 : decode cX10_ring 59 = .ok (.bipush 6, 2) := by decide +kernel
theorem dX10_ring_61 : decode cX10_ring 61 = .ok (.invokevirtual 82, 3) := by decide +kernel
theorem dX10_ring_64 : decode cX10_ring 64 = .ok (.ireturn, 1) := by decide +kernel
theorem dX10_ring_65 : decode cX10_ring 65 = .ok (.aload_n 0, 1) := by decide +kernel
theorem dX10_ring_66 : decode cX10_ring 66 = .ok (.aload_n 0, 1) := by decide +kernel
theorem dX10_ring_67 : decode cX10_ring 67 = .ok (.getfield 59, 3) := by decide +kernel
theorem dX10_ring_70 : decode cX10_ring 70 = .ok (.invokevirtual 211, 3) := by decide +kernel
theorem dX10_ring_73 : decode cX10_ring 73 = .ok (.invokevirtual 135, 3) := by decide +kernel
theorem dX10_ring_76 : decode cX10_ring 76 = .ok (.ireturn, 1) := by decide +kernel
theorem dX10_meets_0 : decode cX10_meets 0 = .ok (.aload_n 0, 1) := by decide +kernel
theorem dX10_meets_1 : decode cX10_meets 1 = .ok (.iload_n 1, 1) := by decide +kernel
theorem dX10_meets_2 : decode cX10_meets 2 = .ok (.invokevirtual 185, 3) := by decide +kernel
theorem dX10_meets_5 : decode cX10_meets 5 = .ok (.ifCond .eq 16, 3) := by decide +kernel
theorem dX10_meets_8 : decode cX10_meets 8 = .ok (.aload_n 0, 1) := by decide +kernel
theorem dX10_meets_9 : decode cX10_meets 9 = .ok (.iload_n 2, 1) := by decide +kernel
theorem dX10_meets_10 : decode cX10_meets 10 = .ok (.invokevirtual 185, 3) := by decide +kernel
theorem dX10_meets_13 : decode cX10_meets 13 = .ok (.ifCond .eq 8, 3) := by decide +kernel
theorem dX10_meets_16 : decode cX10_meets 16 = .ok (.iload_n 1, 1) := by decide +kernel
theorem dX10_meets_17 : decode cX10_meets 17 = .ok (.iload_n 2, 1) := by decide +kernel
theorem dX10_meets_18 : decode cX10_meets 18 = .ok (.if_icmp .ne 9, 3) := by decide +kernel
theorem dX10_meets_21 : decode cX10_meets 21 = .ok (.aload_n 0, 1) := by decide +kernel
theorem dX10_meets_22 : decode cX10_meets 22 = .ok (.iconst 1, 1) := by decide +kernel
theorem dX10_meets_23 : decode cX10_meets 23 = .ok (.invokevirtual 82, 3) := by decide +kernel
theorem dX10_meets_26 : decode cX10_meets 26 = .ok (.ireturn, 1) := by decide +kernel
theorem dX10_meets_27 : decode cX10_meets 27 = .ok (.aload_n 0, 1) := by decide +kernel
theorem dX10_meets_28 : decode cX10_meets 28 = .ok (.getfield 59, 3) := by decide +kernel
theorem dX10_meets_31 : decode cX10_meets 31 = .ok (.aload_n 0, 1) := by decide +kernel
theorem dX10_meets_32 : decode cX10_meets 32 = .ok (.getfield 47, 3) := by decide +kernel
theorem dX10_meets_35 : decode cX10_meets 35 = .ok (.iload_n 1, 1) := by decide +kernel
theorem dX10_meets_36 : decode cX10_meets 36 = .ok (.aload_n 0, 1) := by decide +kernel
theorem dX10_meets_37 : decode cX10_meets 37 = .ok (.getfield 120, 3) := by decide +kernel
theorem dX10_meets_40 : decode cX10_meets 40 = .ok (.aload_n 0, 1) := by decide +kernel
theorem dX10_meets_41 : decode cX10_meets 41 = .ok (.getfield 123, 3) := by decide +kernel
theorem dX10_meets_44 : decode cX10_meets 44 = .ok (.invokevirtual 191, 3) := by decide +kernel
theorem dX10_meets_47 : decode cX10_meets 47 = .ok (.aload_n 0, 1) := by decide +kernel
theorem dX10_meets_48 : decode cX10_meets 48 = .ok (.getfield 63, 3) := by decide +kernel
theorem dX10_meets_51 : decode cX10_meets 51 = .ok (.aload_n 0, 1) := by decide +kernel
theorem dX10_meets_52 : decode cX10_meets 52 = .ok (.getfield 47, 3) := by decide +kernel
theorem dX10_meets_55 : decode cX10_meets 55 = .ok (.iload_n 2, 1) := by decide +kernel
theorem dX10_meets_56 : decode cX10_meets 56 = .ok (.aload_n 0, 1) := by decide +kernel
theorem dX10_meets_57 : decode cX10_meets 57 = .ok (.getfield 120, 3) := by decide +kernel
theorem dX10_meets_60 : decode cX10_meets 60 = .ok (.aload_n 0, 1) := by decide +kernel
theorem dX10_meets_61 : decode cX10_meets 61 = .ok (.getfield 123, 3) := by decide +kernel
theorem dX10_meets_64 : decode cX10_meets 64 = .ok (.invokevirtual 191, 3) := by decide +kernel
theorem dX10_meets_67 : decode cX10_meets 67 = .ok (.iconst 0, 1) := by decide +kernel
theorem dX10_meets_68 : decode cX10_meets 68 = .ok (.istore_n 3, 1) := by decide +kernel
theorem dX10_meets_69 : decode cX10_meets 69 = .ok (.iload_n 3, 1) := by decide +kernel
theorem dX10_meets_70 : decode cX10_meets 70 = .ok (.aload_n 0, 1) := by decide +kernel
theorem dX10_meets_71 : decode cX10_meets 71 = .ok (.getfield 47, 3) := by decide +kernel
theorem dX10_meets_74 : decode cX10_meets 74 = .ok (.getfield 214, 3) := by decide +kernel
theorem dX10_meets_77 : decode cX10_meets 77 = .ok (.if_icmp .gt 43, 3) := by decide +kernel
theorem dX10_meets_80 : decode cX10_meets 80 = .ok (.aload_n 0, 1) := by decide +kernel
theorem dX10_meets_81 : decode cX10_meets 81 = .ok (.getfield 59, 3) := by decide +kernel
theorem dX10_meets_84 : decode cX10_meets 84 = .ok (.iload_n 3, 1) := by decide +kernel
theorem dX10_meets_85 : decode cX10_meets 85 = .ok (.invokevirtual 195, 3) := by decide +kernel
theorem dX10_meets_88 : decode cX10_meets 88 = .ok (.istore 4, 2) := by decide +kernel
theorem dX10_meets_90 : decode cX10_meets 90 = .ok (.iload 4, 2) := by decide +kernel
theorem dX10_meets_92 : decode cX10_meets 92 = .ok (.ifCond .lt 22, 3) := by decide +kernel
theorem dX10_meets_95 : decode cX10_meets 95 = .ok (.iload 4, 2) := by decide +kernel
theorem dX10_meets_97 : decode cX10_meets 97 = .ok (.aload_n 0, 1) := by decide +kernel
theorem dX10_meets_98 : decode cX10_meets 98 = .ok (.getfield 63, 3) := by decide +kernel
theorem dX10_meets_101 : decode cX10_meets 101 = .ok (.iload_n 3, 1) := by decide +kernel
theorem dX10_meets_102 : decode cX10_meets 102 = .ok (.invokevirtual 195, 3) := by decide +kernel
theorem dX10_meets_105 : decode cX10_meets 105 = .ok (.if_icmp .ne 9, 3) := by decide +kernel
theorem dX10_meets_108 : decode cX10_meets 108 = .ok (.aload_n 0, 1) := by decide +kernel
theorem dX10_meets_109 : decode cX10_meets 109 = .ok (.iload_n 3, 1) := by decide +kernel
theorem dX10_meets_110 : decode cX10_meets 110 = .ok (.invokevirtual 135, 3) := by decide +kernel
theorem dX10_meets_113 : decode cX10_meets 113 = .ok (.ireturn, 1) := by decide +kernel
theorem dX10_meets_114 : decode cX10_meets 114 = .ok (.iinc 3 1, 3) := by decide +kernel
theorem dX10_meets_117 : decode cX10_meets 117 = .ok (.goto (-48), 3) := by decide +kernel
theorem dX10_meets_120 : decode cX10_meets 120 = .ok (.aload_n 0, 1) := by decide +kernel
theorem dX10_meets_121 : decode cX10_meets 121 = .ok (.bipush (-2), 2) := by decide +kernel
theorem dX10_meets_123 : decode cX10_meets 123 = .ok (.invokevirtual 135, 3) := by decide +kernel
theorem dX10_meets_126 : decode cX10_meets 126 = .ok (.ireturn, 1) := by decide +kernel
theorem dX10_shouts_0 : decode cX10_shouts 0 = .ok (.aload_n 0, 1) := by decide +kernel
theorem dX10_shouts_1 : decode cX10_shouts 1 = .ok (.iload_n 1, 1) := by decide +kernel
theorem dX10_shouts_2 : decode cX10_shouts 2 = .ok (.invokevirtual 185, 3) := by decide +kernel
theorem dX10_shouts_5 : decode cX10_shouts 5 = .ok (.ifCond .ne 9, 3) := by decide +kernel
theorem dX10_shouts_8 : decode cX10_shouts 8 = .ok (.aload_n 0, 1) := by decide +kernel
theorem dX10_shouts_9 : decode cX10_shouts 9 = .ok (.iconst 1, 1) := by decide +kernel
theorem dX10_shouts_10 : decode cX10_shouts 10 = .ok (.invokevirtual 82, 3) := by decide +kernel
theorem dX10_shouts_13 : decode cX10_shouts 13 = .ok (.ireturn, 1) := by decide +kernel
theorem dX10_shouts_14 : decode cX10_shouts 14 = .ok (.aload_n 0, 1) := by decide +kernel
theorem dX10_shouts_15 : decode cX10_shouts 15 = .ok (.getfield 59, 3) := by decide +kernel
theorem dX10_shouts_18 : decode cX10_shouts 18 = .ok (.aload_n 0, 1) := by decide +kernel
theorem dX10_shouts_19 : decode cX10_shouts 19 = .ok (.getfield 47, 3) := by decide +kernel
theorem dX10_shouts_22 : decode cX10_shouts 22 = .ok (.iload_n 1, 1) := by decide +kernel
theorem dX10_shouts_23 : decode cX10_shouts 23 = .ok (.aload_n 0, 1) := by decide +kernel
theorem dX10_shouts_24 : decode cX10_shouts 24 = .ok (.getfield 120, 3) := by decide +kernel
theorem dX10_shouts_27 : decode cX10_shouts 27 = .ok (.aload_n 0, 1) := by decide +kernel
theorem dX10_shouts_28 : decode cX10_shouts 28 = .ok (.getfield 123, 3) := by decide +kernel
theorem dX10_shouts_31 : decode cX10_shouts 31 = .ok (.invokevirtual 191, 3) := by decide +kernel
theorem dX10_shouts_34 : decode cX10_shouts 34 = .ok (.aload_n 0, 1) := by decide +kernel
theorem dX10_shouts_35 : decode cX10_shouts 35 = .ok (.aload_n 0, 1) := by decide +kernel
theorem dX10_shouts_36 : decode cX10_shouts 36 = .ok (.getfield 59, 3) := by decide +kernel
theorem dX10_shouts_39 : decode cX10_shouts 39 = .ok (.invokevirtual 217, 3) := by decide +kernel
theorem dX10_shouts_42 : decode cX10_shouts 42 = .ok (.invokevirtual 135, 3) := by decide +kernel
theorem dX10_shouts_45 : decode cX10_shouts 45 = .ok (.ireturn, 1) := by decide +kernel
theorem dX10_visits_0 : decode cX10_visits 0 = .ok (.aload_n 0, 1) := by decide +kernel
theorem dX10_visits_1 : decode cX10_visits 1 = .ok (.iload_n 1, 1) := by decide +kernel
theorem dX10_visits_2 : decode cX10_visits 2 = .ok (.invokevirtual 185, 3) := by decide +kernel
theorem dX10_visits_5 : decode cX10_visits 5 = .ok (.ifCond .ne 9, 3) := by decide +kernel
theorem dX10_visits_8 : decode cX10_visits 8 = .ok (.aload_n 0, 1) := by decide +kernel
theorem dX10_visits_9 : decode cX10_visits 9 = .ok (.iconst 1, 1) := by decide +kernel
theorem dX10_visits_10 : decode cX10_visits 10 = .ok (.invokevirtual 82, 3) := by decide +kernel
theorem dX10_visits_13 : decode cX10_visits 13 = .ok (.ireturn, 1) := by decide +kernel
theorem dX10_visits_14 : decode cX10_visits 14 = .ok (.aload_n 0, 1) := by decide +kernel
theorem dX10_visits_15 : decode cX10_visits 15 = .ok (.getfield 59, 3) := by decide +kernel
theorem dX10_visits_18 : decode cX10_visits 18 = .ok (.aload_n 0, 1) := by decide +kernel
theorem dX10_visits_19 : decode cX10_visits 19 = .ok (.getfield 47, 3) := by decide +kernel
theorem dX10_visits_22 : decode cX10_visits 22 = .ok (.iload_n 1, 1) := by decide +kernel
theorem dX10_visits_23 : decode cX10_visits 23 = .ok (.aload_n 0, 1) := by decide +kernel
theorem dX10_visits_24 : decode cX10_visits 24 = .ok (.getfield 120, 3) := by decide +kernel
theorem dX10_visits_27 : decode cX10_visits 27 = .ok (.aload_n 0, 1) := by decide +kernel
theorem dX10_visits_28 : decode cX10_visits 28 = .ok (.getfield 123, 3) := by decide +kernel
theorem dX10_visits_31 : decode cX10_visits 31 = .ok (.invokevirtual 191, 3) := by decide +kernel
theorem dX10_visits_34 : decode cX10_visits 34 = .ok (.aload_n 0, 1) := by decide +kernel
theorem dX10_visits_35 : decode cX10_visits 35 = .ok (.aload_n 0, 1) := by decide +kernel
theorem dX10_visits_36 : decode cX10_visits 36 = .ok (.getfield 59, 3) := by decide +kernel
theorem dX10_visits_39 : decode cX10_visits 39 = .ok (.invokevirtual 220, 3) := by decide +kernel
theorem dX10_visits_42 : decode cX10_visits 42 = .ok (.invokevirtual 135, 3) := by decide +kernel
theorem dX10_visits_45 : decode cX10_visits 45 = .ok (.ireturn, 1) := by decide +kernel
theorem dX10_crowd_0 : decode cX10_crowd 0 = .ok (.aload_n 0, 1) := by decide +kernel
theorem dX10_crowd_1 : decode cX10_crowd 1 = .ok (.getfield 106, 3) := by decide +kernel
theorem dX10_crowd_4 : decode cX10_crowd 4 = .ok (.ifCond .ne 9, 3) := by decide +kernel
theorem dX10_crowd_7 : decode cX10_crowd 7 = .ok (.aload_n 0, 1) := by decide +kernel
theorem dX10_crowd_8 : decode cX10_crowd 8 = .ok (.iconst 1, 1) := by decide +kernel
theorem dX10_crowd_9 : decode cX10_crowd 9 = .ok (.invokevirtual 82, 3) := by decide +kernel
theorem dX10_crowd_12 : decode cX10_crowd 12 = .ok (.ireturn, 1) := by decide +kernel
theorem dX10_crowd_13 : decode cX10_crowd 13 = .ok (.aload_n 0, 1) := by decide +kernel
theorem dX10_crowd_14 : decode cX10_crowd 14 = .ok (.iload_n 1, 1) := by decide +kernel
theorem dX10_crowd_15 : decode cX10_crowd 15 = .ok (.invokevirtual 188, 3) := by decide +kernel
theorem dX10_crowd_18 : decode cX10_crowd 18 = .ok (.ifCond .ne 9, 3) := by decide +kernel
theorem dX10_crowd_21 : decode cX10_crowd 21 = .ok (.aload_n 0, 1) := by decide +kernel
theorem dX10_crowd_22 : decode cX10_crowd 22 = .ok (.iconst 2, 1) := by decide +kernel
theorem dX10_crowd_23 : decode cX10_crowd 23 = .ok (.invokevirtual 82, 3) := by decide +kernel
theorem dX10_crowd_26 : decode cX10_crowd 26 = .ok (.ireturn, 1) := by decide +kernel
theorem dX10_crowd_27 : decode cX10_crowd 27 = .ok (.iconst 0, 1) := by decide +kernel
theorem dX10_crowd_28 : decode cX10_crowd 28 = .ok (.istore_n 2, 1) := by decide +kernel
theorem dX10_crowd_29 : decode cX10_crowd 29 = .ok (.iconst 0, 1) := by decide +kernel
theorem dX10_crowd_30 : decode cX10_crowd 30 = .ok (.istore_n 3, 1) := by decide +kernel
theorem dX10_crowd_31 : decode cX10_crowd 31 = .ok (.iload_n 3, 1) := by decide +kernel
theorem dX10_crowd_32 : decode cX10_crowd 32 = .ok (.aload_n 0, 1) := by decide +kernel
theorem dX10_crowd_33 : decode cX10_crowd 33 = .ok (.getfield 47, 3) := by decide +kernel
theorem dX10_crowd_36 : decode cX10_crowd 36 = .ok (.getfield 223, 3) := by decide +kernel
theorem dX10_crowd_39 : decode cX10_crowd 39 = .ok (.if_icmp .ge 43, 3) := by decide +kernel
theorem dX10_crowd_42 : decode cX10_crowd 42 = .ok (.aload_n 0, 1) := by decide +kernel
theorem dX10_crowd_43 : decode cX10_crowd 43 = .ok (.getfield 59, 3) := by decide +kernel
theorem dX10_crowd_46 : decode cX10_crowd 46 = .ok (.aload_n 0, 1) := by decide +kernel
theorem dX10_crowd_47 : decode cX10_crowd 47 = .ok (.getfield 47, 3) := by decide +kernel
theorem dX10_crowd_50 : decode cX10_crowd 50 = .ok (.iload_n 3, 1) := by decide +kernel
theorem dX10_crowd_51 : decode cX10_crowd 51 = .ok (.aload_n 0, 1) := by decide +kernel
theorem dX10_crowd_52 : decode cX10_crowd 52 = .ok (.getfield 120, 3) := by decide +kernel
theorem dX10_crowd_55 : decode cX10_crowd 55 = .ok (.aload_n 0, 1) := by decide +kernel
theorem dX10_crowd_56 : decode cX10_crowd 56 = .ok (.getfield 123, 3) := by decide +kernel
theorem dX10_crowd_59 : decode cX10_crowd 59 = .ok (.invokevirtual 191, 3) := by decide +kernel
theorem dX10_crowd_62 : decode cX10_crowd 62 = .ok (.aload_n 0, 1) := by decide +kernel
theorem dX10_crowd_63 : decode cX10_crowd 63 = .ok (.getfield 59, 3) := by decide +kernel
theorem dX10_crowd_66 : decode cX10_crowd 66 = .ok (.iload_n 1, 1) := by decide +kernel
theorem dX10_crowd_67 : decode cX10_crowd 67 = .ok (.invokevirtual 195, 3) := by decide +kernel
theorem dX10_crowd_70 : decode cX10_crowd 70 = .ok (.ifCond .lt 6, 3) := by decide +kernel
theorem dX10_crowd_73 : decode cX10_crowd 73 = .ok (.iinc 2 1, 3) := by decide +kernel
theorem dX10_crowd_76 : decode cX10_crowd 76 = .ok (.iinc 3 1, 3) := by decide +kernel
theorem dX10_crowd_79 : decode cX10_crowd 79 = .ok (.goto (-48), 3) := by decide +kernel
theorem dX10_crowd_82 : decode cX10_crowd 82 = .ok (.aload_n 0, 1) := by decide +kernel
theorem dX10_crowd_83 : decode cX10_crowd 83 = .ok (.iload_n 2, 1) := by decide +kernel
theorem dX10_crowd_84 : decode cX10_crowd 84 = .ok (.invokevirtual 135, 3) := by decide +kernel
theorem dX10_crowd_87 : decode cX10_crowd 87 = .ok (.ireturn, 1) := by decide +kernel
theorem dX10_paid_0 : decode cX10_paid 0 = .ok (.aload_n 0, 1) := by decide +kernel
theorem dX10_paid_1 : decode cX10_paid 1 = .ok (.getfield 106, 3) := by decide +kernel
theorem dX10_paid_4 : decode cX10_paid 4 = .ok (.ifCond .ne 9, 3) := by decide +kernel
theorem dX10_paid_7 : decode cX10_paid 7 = .ok (.aload_n 0, 1) := by decide +kernel
theorem dX10_paid_8 : decode cX10_paid 8 = .ok (.iconst 1, 1) := by decide +kernel
theorem dX10_paid_9 : decode cX10_paid 9 = .ok (.invokevirtual 82, 3) := by decide +kernel
theorem dX10_paid_12 : decode cX10_paid 12 = .ok (.ireturn, 1) := by decide +kernel
theorem dX10_paid_13 : decode cX10_paid 13 = .ok (.iconst 0, 1) := by decide +kernel
theorem dX10_paid_14 : decode cX10_paid 14 = .ok (.istore_n 1, 1) := by decide +kernel
theorem dX10_paid_15 : decode cX10_paid 15 = .ok (.iconst 0, 1) := by decide +kernel
theorem dX10_paid_16 : decode cX10_paid 16 = .ok (.istore_n 2, 1) := by decide +kernel
theorem dX10_paid_17 : decode cX10_paid 17 = .ok (.iload_n 2, 1) := by decide +kernel
theorem dX10_paid_18 : decode cX10_paid 18 = .ok (.aload_n 0, 1) := by decide +kernel
theorem dX10_paid_19 : decode cX10_paid 19 = .ok (.getfield 47, 3) := by decide +kernel
theorem dX10_paid_22 : decode cX10_paid 22 = .ok (.getfield 223, 3) := by decide +kernel
theorem dX10_paid_25 : decode cX10_paid 25 = .ok (.if_icmp .ge 39, 3) := by decide +kernel
theorem dX10_paid_28 : decode cX10_paid 28 = .ok (.aload_n 0, 1) := by decide +kernel
theorem dX10_paid_29 : decode cX10_paid 29 = .ok (.getfield 59, 3) := by decide +kernel
theorem dX10_paid_32 : decode cX10_paid 32 = .ok (.aload_n 0, 1) := by decide +kernel
theorem dX10_paid_33 : decode cX10_paid 33 = .ok (.getfield 47, 3) := by decide +kernel
theorem dX10_paid_36 : decode cX10_paid 36 = .ok (.iload_n 2, 1) := by decide +kernel
theorem dX10_paid_37 : decode cX10_paid 37 = .ok (.aload_n 0, 1) := by decide +kernel
theorem dX10_paid_38 : decode cX10_paid 38 = .ok (.getfield 120, 3) := by decide +kernel
theorem dX10_paid_41 : decode cX10_paid 41 = .ok (.aload_n 0, 1) := by decide +kernel
theorem dX10_paid_42 : decode cX10_paid 42 = .ok (.getfield 123, 3) := by decide +kernel
theorem dX10_paid_45 : decode cX10_paid 45 = .ok (.invokevirtual 191, 3) := by decide +kernel
theorem dX10_paid_48 : decode cX10_paid 48 = .ok (.iload_n 1, 1) := by decide +kernel
theorem dX10_paid_49 : decode cX10_paid 49 = .ok (.aload_n 0, 1) := by decide +kernel
theorem dX10_paid_50 : decode cX10_paid 50 = .ok (.getfield 59, 3) := by decide +kernel
theorem dX10_paid_53 : decode cX10_paid 53 = .ok (.invokevirtual 217, 3) := by decide +kernel
theorem dX10_paid_56 : decode cX10_paid 56 = .ok (.iadd, 1) := by decide +kernel
theorem dX10_paid_57 : decode cX10_paid 57 = .ok (.istore_n 1, 1) := by decide +kernel
theorem dX10_paid_58 : decode cX10_paid 58 = .ok (.iinc 2 1, 3) := by decide +kernel
theorem dX10_paid_61 : decode cX10_paid 61 = .ok (.goto (-44), 3) := by decide +kernel
theorem dX10_paid_64 : decode cX10_paid 64 = .ok (.aload_n 0, 1) := by decide +kernel
theorem dX10_paid_65 : decode cX10_paid 65 = .ok (.aload_n 0, 1) := by decide +kernel
theorem dX10_paid_66 : decode cX10_paid 66 = .ok (.getfield 47, 3) := by decide +kernel
theorem dX10_paid_69 : decode cX10_paid 69 = .ok (.getfield 226, 3) := by decide +kernel
theorem dX10_paid_72 : decode cX10_paid 72 = .ok (.iload_n 1, 1) := by decide +kernel
theorem dX10_paid_73 : decode cX10_paid 73 = .ok (.imul, 1) := by decide +kernel
theorem dX10_paid_74 : decode cX10_paid 74 = .ok (.invokevirtual 135, 3) := by decide +kernel
theorem dX10_paid_77 : decode cX10_paid 77 = .ok (.ireturn, 1) := by decide +kernel
theorem dX10_stuck_0 : decode cX10_stuck 0 = .ok (.aload_n 0, 1) := by decide +kernel
theorem dX10_stuck_1 : decode cX10_stuck 1 = .ok (.getfield 106, 3) := by decide +kernel
theorem dX10_stuck_4 : decode cX10_stuck 4 = .ok (.ifCond .ne 9, 3) := by decide +kernel
theorem dX10_stuck_7 : decode cX10_stuck 7 = .ok (.aload_n 0, 1) := by decide +kernel
theorem dX10_stuck_8 : decode cX10_stuck 8 = .ok (.iconst 1, 1) := by decide +kernel
theorem dX10_stuck_9 : decode cX10_stuck 9 = .ok (.invokevirtual 82, 3) := by decide +kernel
theorem dX10_stuck_12 : decode cX10_stuck 12 = .ok (.ireturn, 1) := by decide +kernel
theorem dX10_stuck_13 : decode cX10_stuck 13 = .ok (.iconst 0, 1) := by decide +kernel
theorem dX10_stuck_14 : decode cX10_stuck 14 = .ok (.istore_n 1, 1) := by decide +kernel
theorem dX10_stuck_15 : decode cX10_stuck 15 = .ok (.iconst 0, 1) := by decide +kernel
theorem dX10_stuck_16 : decode cX10_stuck 16 = .ok (.istore_n 2, 1) := by decide +kernel
theorem dX10_stuck_17 : decode cX10_stuck 17 = .ok (.iload_n 2, 1) := by decide +kernel
theorem dX10_stuck_18 : decode cX10_stuck 18 = .ok (.aload_n 0, 1) := by decide +kernel
theorem dX10_stuck_19 : decode cX10_stuck 19 = .ok (.getfield 47, 3) := by decide +kernel
theorem dX10_stuck_22 : decode cX10_stuck 22 = .ok (.getfield 223, 3) := by decide +kernel
theorem dX10_stuck_25 : decode cX10_stuck 25 = .ok (.if_icmp .ge 47, 3) := by decide +kernel
theorem dX10_stuck_28 : decode cX10_stuck 28 = .ok (.aload_n 0, 1) := by decide +kernel
theorem dX10_stuck_29 : decode cX10_stuck 29 = .ok (.getfield 59, 3) := by decide +kernel
theorem dX10_stuck_32 : decode cX10_stuck 32 = .ok (.aload_n 0, 1) := by decide +kernel
theorem dX10_stuck_33 : decode cX10_stuck 33 = .ok (.getfield 47, 3) := by decide +kernel
theorem dX10_stuck_36 : decode cX10_stuck 36 = .ok (.iload_n 2, 1) := by decide +kernel
theorem dX10_stuck_37 : decode cX10_stuck 37 = .ok (.aload_n 0, 1) := by decide +kernel
theorem dX10_stuck_38 : decode cX10_stuck 38 = .ok (.getfield 120, 3) := by decide +kernel
theorem dX10_stuck_41 : decode cX10_stuck 41 = .ok (.aload_n 0, 1) := by decide +kernel
theorem dX10_stuck_42 : decode cX10_stuck 42 = .ok (.getfield 123, 3) := by decide +kernel
theorem dX10_stuck_45 : decode cX10_stuck 45 = .ok (.invokevirtual 191, 3) := by decide +kernel
theorem dX10_stuck_48 : decode cX10_stuck 48 = .ok (.aload_n 0, 1) := by decide +kernel
theorem dX10_stuck_49 : decode cX10_stuck 49 = .ok (.getfield 59, 3) := by decide +kernel
theorem dX10_stuck_52 : decode cX10_stuck 52 = .ok (.invokevirtual 198, 3) := by decide +kernel
theorem dX10_stuck_55 : decode cX10_stuck 55 = .ok (.bipush (-2), 2) := by decide +kernel
theorem dX10_stuck_57 : decode cX10_stuck 57 = .ok (.if_icmp .ne 9, 3) := by decide +kernel
theorem dX10_stuck_60 : decode cX10_stuck 60 = .ok (.iload_n 1, 1) := by decide +kernel
theorem dX10_stuck_61 : decode cX10_stuck 61 = .ok (.iconst 1, 1) := by decide +kernel
theorem dX10_stuck_62 : decode cX10_stuck 62 = .ok (.iload_n 2, 1) := by decide +kernel
theorem dX10_stuck_63 : decode cX10_stuck 63 = .ok (.ishl, 1) := by decide +kernel
theorem dX10_stuck_64 : decode cX10_stuck 64 = .ok (.ior, 1) := by decide +kernel
theorem dX10_stuck_65 : decode cX10_stuck 65 = .ok (.istore_n 1, 1) := by decide +kernel
theorem dX10_stuck_66 : decode cX10_stuck 66 = .ok (.iinc 2 1, 3) := by decide +kernel
theorem dX10_stuck_69 : decode cX10_stuck 69 = .ok (.goto (-52), 3) := by decide +kernel
theorem dX10_stuck_72 : decode cX10_stuck 72 = .ok (.aload_n 0, 1) := by decide +kernel
theorem dX10_stuck_73 : decode cX10_stuck 73 = .ok (.iload_n 1, 1) := by decide +kernel
theorem dX10_stuck_74 : decode cX10_stuck 74 = .ok (.invokevirtual 135, 3) := by decide +kernel
theorem dX10_stuck_77 : decode cX10_stuck 77 = .ok (.ireturn, 1) := by decide +kernel
theorem dX10_caught_0 : decode cX10_caught 0 = .ok (.aload_n 0, 1) := by decide +kernel
theorem dX10_caught_1 : decode cX10_caught 1 = .ok (.iload_n 1, 1) := by decide +kernel
theorem dX10_caught_2 : decode cX10_caught 2 = .ok (.invokevirtual 185, 3) := by decide +kernel
theorem dX10_caught_5 : decode cX10_caught 5 = .ok (.ifCond .eq 12, 3) := by decide +kernel
theorem dX10_caught_8 : decode cX10_caught 8 = .ok (.aload_n 0, 1) := by decide +kernel
theorem dX10_caught_9 : decode cX10_caught 9 = .ok (.iload_n 2, 1) := by decide +kernel
theorem dX10_caught_10 : decode cX10_caught 10 = .ok (.iload_n 3, 1) := by decide +kernel
theorem dX10_caught_11 : decode cX10_caught 11 = .ok (.invokevirtual 141, 3) := by decide +kernel
theorem dX10_caught_14 : decode cX10_caught 14 = .ok (.ifCond .ne 9, 3) := by decide +kernel
theorem dX10_caught_17 : decode cX10_caught 17 = .ok (.aload_n 0, 1) := by decide +kernel
theorem dX10_caught_18 : decode cX10_caught 18 = .ok (.iconst 1, 1) := by decide +kernel
theorem dX10_caught_19 : decode cX10_caught 19 = .ok (.invokevirtual 82, 3) := by decide +kernel
theorem dX10_caught_22 : decode cX10_caught 22 = .ok (.ireturn, 1) := by decide +kernel
theorem dX10_caught_23 : decode cX10_caught 23 = .ok (.aload_n 0, 1) := by decide +kernel
theorem dX10_caught_24 : decode cX10_caught 24 = .ok (.iload_n 2, 1) := by decide +kernel
theorem dX10_caught_25 : decode cX10_caught 25 = .ok (.iload_n 3, 1) := by decide +kernel
theorem dX10_caught_26 : decode cX10_caught 26 = .ok (.invokevirtual 145, 3) := by decide +kernel
theorem dX10_caught_29 : decode cX10_caught 29 = .ok (.ifCond .ne 9, 3) := by decide +kernel
theorem dX10_caught_32 : decode cX10_caught 32 = .ok (.aload_n 0, 1) := by decide +kernel
theorem dX10_caught_33 : decode cX10_caught 33 = .ok (.iconst 5, 1) := by decide +kernel
theorem dX10_caught_34 : decode cX10_caught 34 = .ok (.invokevirtual 82, 3) := by decide +kernel
theorem dX10_caught_37 : decode cX10_caught 37 = .ok (.ireturn, 1) := by decide +kernel
theorem dX10_caught_38 : decode cX10_caught 38 = .ok (.aload_n 0, 1) := by decide +kernel
theorem dX10_caught_39 : decode cX10_caught 39 = .ok (.getfield 59, 3) := by decide +kernel
theorem dX10_caught_42 : decode cX10_caught 42 = .ok (.aload_n 0, 1) := by decide +kernel
theorem dX10_caught_43 : decode cX10_caught 43 = .ok (.getfield 47, 3) := by decide +kernel
theorem dX10_caught_46 : decode cX10_caught 46 = .ok (.iload_n 1, 1) := by decide +kernel
theorem dX10_caught_47 : decode cX10_caught 47 = .ok (.aload_n 0, 1) := by decide +kernel
theorem dX10_caught_48 : decode cX10_caught 48 = .ok (.getfield 120, 3) := by decide +kernel
theorem dX10_caught_51 : decode cX10_caught 51 = .ok (.aload_n 0, 1) := by decide +kernel
theorem dX10_caught_52 : decode cX10_caught 52 = .ok (.getfield 123, 3) := by decide +kernel
theorem dX10_caught_55 : decode cX10_caught 55 = .ok (.invokevirtual 191, 3) := by decide +kernel
theorem dX10_caught_58 : decode cX10_caught 58 = .ok (.aload_n 0, 1) := by decide +kernel
theorem dX10_caught_59 : decode cX10_caught 59 = .ok (.getfield 47, 3) := by decide +kernel
theorem dX10_caught_62 : decode cX10_caught 62 = .ok (.getfield 148, 3) := by decide +kernel
theorem dX10_caught_65 : decode cX10_caught 65 = .ok (.aload_n 0, 1) := by decide +kernel
theorem dX10_caught_66 : decode cX10_caught 66 = .ok (.getfield 120, 3) := by decide +kernel
theorem dX10_caught_69 : decode cX10_caught 69 = .ok (.aload_n 0, 1) := by decide +kernel
theorem dX10_caught_70 : decode cX10_caught 70 = .ok (.getfield 47, 3) := by decide +kernel
theorem dX10_caught_73 : decode cX10_caught 73 = .ok (.getfield 148, 3) := by decide +kernel
theorem dX10_caught_76 : decode cX10_caught 76 = .ok (.iload_n 2, 1) := by decide +kernel
theorem dX10_caught_77 : decode cX10_caught 77 = .ok (.iload_n 3, 1) := by decide +kernel
theorem dX10_caught_78 : decode cX10_caught 78 = .ok (.invokevirtual 152, 3) := by decide +kernel
theorem dX10_caught_81 : decode cX10_caught 81 = .ok (.aload_n 0, 1) := by decide +kernel
theorem dX10_caught_82 : decode cX10_caught 82 = .ok (.getfield 66, 3) := by decide +kernel
theorem dX10_caught_85 : decode cX10_caught 85 = .ok (.invokevirtual 229, 3) := by decide +kernel
theorem dX10_caught_88 : decode cX10_caught 88 = .ok (.iconst 0, 1) := by decide +kernel
theorem dX10_caught_89 : decode cX10_caught 89 = .ok (.istore 4, 2) := by decide +kernel
theorem dX10_caught_91 : decode cX10_caught 91 = .ok (.iload 4, 2) := by decide +kernel
theorem dX10_caught_93 : decode cX10_caught 93 = .ok (.aload_n 0, 1) := by decide +kernel
theorem dX10_caught_94 : decode cX10_caught 94 = .ok (.getfield 47, 3) := by decide +kernel
theorem dX10_caught_97 : decode cX10_caught 97 = .ok (.getfield 214, 3) := by decide +kernel
theorem dX10_caught_100 : decode cX10_caught 100 = .ok (.if_icmp .gt 64, 3) := by decide +kernel
theorem dX10_caught_103 : decode cX10_caught 103 = .ok (.aload_n 0, 1) := by decide +kernel
theorem dX10_caught_104 : decode cX10_caught 104 = .ok (.getfield 59, 3) := by decide +kernel
theorem dX10_caught_107 : decode cX10_caught 107 = .ok (.iload 4, 2) := by decide +kernel
theorem dX10_caught_109 : decode cX10_caught 109 = .ok (.invokevirtual 195, 3) := by decide +kernel
theorem dX10_caught_112 : decode cX10_caught 112 = .ok (.istore 5, 2) := by decide +kernel
theorem dX10_caught_114 : decode cX10_caught 114 = .ok (.iload 5, 2) := by decide +kernel
theorem dX10_caught_116 : decode cX10_caught 116 = .ok (.ifCond .lt 42, 3) := by decide +kernel
theorem dX10_caught_119 : decode cX10_caught 119 = .ok (.iload 5, 2) := by decide +kernel
theorem dX10_caught_121 : decode cX10_caught 121 = .ok (.aload_n 0, 1) := by decide +kernel
theorem dX10_caught_122 : decode cX10_caught 122 = .ok (.getfield 66, 3) := by decide +kernel
theorem dX10_caught_125 : decode cX10_caught 125 = .ok (.arraylength, 1) := by decide +kernel
theorem dX10_caught_126 : decode cX10_caught 126 = .ok (.if_icmp .ge 32, 3) := by decide +kernel
theorem dX10_caught_129 : decode cX10_caught 129 = .ok (.aload_n 0, 1) := by decide +kernel
theorem dX10_caught_130 : decode cX10_caught 130 = .ok (.getfield 66, 3) := by decide +kernel
theorem dX10_caught_133 : decode cX10_caught 133 = .ok (.iload 5, 2) := by decide +kernel
theorem dX10_caught_135 : decode cX10_caught 135 = .ok (.iaload, 1) := by decide +kernel
theorem dX10_caught_136 : decode cX10_caught 136 = .ok (.ifCond .lt 22, 3) := by decide +kernel
theorem dX10_caught_139 : decode cX10_caught 139 = .ok (.aload_n 0, 1) := by decide +kernel
theorem dX10_caught_140 : decode cX10_caught 140 = .ok (.getfield 66, 3) := by decide +kernel
theorem dX10_caught_143 : decode cX10_caught 143 = .ok (.iload 5, 2) := by decide +kernel
theorem dX10_caught_145 : decode cX10_caught 145 = .ok (.iaload, 1) := by decide +kernel
theorem dX10_caught_146 : decode cX10_caught 146 = .ok (.iload 4, 2) := by decide +kernel
theorem dX10_caught_148 : decode cX10_caught 148 = .ok (.if_icmp .gt 10, 3) := by decide +kernel
theorem dX10_caught_151 : decode cX10_caught 151 = .ok (.aload_n 0, 1) := by decide +kernel
theorem dX10_caught_152 : decode cX10_caught 152 = .ok (.iload 4, 2) := by decide +kernel
theorem dX10_caught_154 : decode cX10_caught 154 = .ok (.invokevirtual 135, 3) := by decide +kernel
theorem dX10_caught_157 : decode cX10_caught 157 = .ok (.ireturn, 1) := by decide +kernel
theorem dX10_caught_158 : decode cX10_caught 158 = .ok (.iinc 4 1, 3) := by decide +kernel
theorem dX10_caught_161 : decode cX10_caught 161 = .ok (.goto (-70), 3) := by decide +kernel
theorem dX10_caught_164 : decode cX10_caught 164 = .ok (.aload_n 0, 1) := by decide +kernel
theorem dX10_caught_165 : decode cX10_caught 165 = .ok (.bipush (-2), 2) := by decide +kernel
theorem dX10_caught_167 : decode cX10_caught 167 = .ok (.invokevirtual 135, 3) := by decide +kernel
theorem dX10_caught_170 : decode cX10_caught 170 = .ok (.ireturn, 1) := by decide +kernel
theorem dX10_unlike_0 : decode cX10_unlike 0 = .ok (.aload_n 0, 1) := by decide +kernel
theorem dX10_unlike_1 : decode cX10_unlike 1 = .ok (.getfield 106, 3) := by decide +kernel
theorem dX10_unlike_4 : decode cX10_unlike 4 = .ok (.ifCond .eq 18, 3) := by decide +kernel
theorem dX10_unlike_7 : decode cX10_unlike 7 = .ok (.aload_n 0, 1) := by decide +kernel
theorem dX10_unlike_8 : decode cX10_unlike 8 = .ok (.aload_n 0, 1) := by decide +kernel
theorem dX10_unlike_9 : decode cX10_unlike 9 = .ok (.iload_n 1, 1) := by decide +kernel
theorem dX10_unlike_10 : decode cX10_unlike 10 = .ok (.invokevirtual 233, 3) := by decide +kernel
theorem dX10_unlike_13 : decode cX10_unlike 13 = .ok (.invokestatic 129, 3) := by decide +kernel
theorem dX10_unlike_16 : decode cX10_unlike 16 = .ok (.invokevirtual 135, 3) := by decide +kernel
theorem dX10_unlike_19 : decode cX10_unlike 19 = .ok (.goto 8, 3) := by decide +kernel
theorem dX10_unlike_22 : decode cX10_unlike 22 = .ok (.aload_n 0, 1) := by decide +kernel
theorem dX10_unlike_23 : decode cX10_unlike 23 = .ok (.iconst 1, 1) := by decide +kernel
theorem dX10_unlike_24 : decode cX10_unlike 24 = .ok (.invokevirtual 82, 3) := by decide +kernel
theorem dX10_unlike_27 : decode cX10_unlike 27 = .ok (.ireturn, 1) := by decide +kernel
theorem dX10_firstUnlike_0 : decode cX10_firstUnlike 0 = .ok (.aload_n 0, 1) := by decide +kernel
theorem dX10_firstUnlike_1 : decode cX10_firstUnlike 1 = .ok (.getfield 106, 3) := by decide +kernel
theorem dX10_firstUnlike_4 : decode cX10_firstUnlike 4 = .ok (.ifCond .eq 19, 3) := by decide +kernel
theorem dX10_firstUnlike_7 : decode cX10_firstUnlike 7 = .ok (.aload_n 0, 1) := by decide +kernel
theorem dX10_firstUnlike_8 : decode cX10_firstUnlike 8 = .ok (.aload_n 0, 1) := by decide +kernel
theorem dX10_firstUnlike_9 : decode cX10_firstUnlike 9 = .ok (.iload_n 1, 1) := by decide +kernel
theorem dX10_firstUnlike_10 : decode cX10_firstUnlike 10 = .ok (.invokevirtual 233, 3) := by decide +kernel
theorem dX10_firstUnlike_13 : decode cX10_firstUnlike 13 = .ok (.iconst 0, 1) := by decide +kernel
theorem dX10_firstUnlike_14 : decode cX10_firstUnlike 14 = .ok (.invokestatic 237, 3) := by decide +kernel
theorem dX10_firstUnlike_17 : decode cX10_firstUnlike 17 = .ok (.invokevirtual 135, 3) := by decide +kernel
theorem dX10_firstUnlike_20 : decode cX10_firstUnlike 20 = .ok (.goto 8, 3) := by decide +kernel
theorem dX10_firstUnlike_23 : decode cX10_firstUnlike 23 = .ok (.aload_n 0, 1) := by decide +kernel
theorem dX10_firstUnlike_24 : decode cX10_firstUnlike 24 = .ok (.iconst 1, 1) := by decide +kernel
theorem dX10_firstUnlike_25 : decode cX10_firstUnlike 25 = .ok (.invokevirtual 82, 3) := by decide +kernel
theorem dX10_firstUnlike_28 : decode cX10_firstUnlike 28 = .ok (.ireturn, 1) := by decide +kernel
theorem dX10_clash_0 : decode cX10_clash 0 = .ok (.aload_n 0, 1) := by decide +kernel
theorem dX10_clash_1 : decode cX10_clash 1 = .ok (.getfield 106, 3) := by decide +kernel
theorem dX10_clash_4 : decode cX10_clash 4 = .ok (.ifCond .eq 17, 3) := by decide +kernel
theorem dX10_clash_7 : decode cX10_clash 7 = .ok (.aload_n 0, 1) := by decide +kernel
theorem dX10_clash_8 : decode cX10_clash 8 = .ok (.aload_n 0, 1) := by decide +kernel
theorem dX10_clash_9 : decode cX10_clash 9 = .ok (.invokevirtual 240, 3) := by decide +kernel
theorem dX10_clash_12 : decode cX10_clash 12 = .ok (.invokestatic 129, 3) := by decide +kernel
theorem dX10_clash_15 : decode cX10_clash 15 = .ok (.invokevirtual 135, 3) := by decide +kernel
theorem dX10_clash_18 : decode cX10_clash 18 = .ok (.goto 8, 3) := by decide +kernel
theorem dX10_clash_21 : decode cX10_clash 21 = .ok (.aload_n 0, 1) := by decide +kernel
theorem dX10_clash_22 : decode cX10_clash 22 = .ok (.iconst 1, 1) := by decide +kernel
theorem dX10_clash_23 : decode cX10_clash 23 = .ok (.invokevirtual 82, 3) := by decide +kernel
theorem dX10_clash_26 : decode cX10_clash 26 = .ok (.ireturn, 1) := by decide +kernel
theorem dX10_changes_0 : decode cX10_changes 0 = .ok (.aload_n 0, 1) := by decide +kernel
theorem dX10_changes_1 : decode cX10_changes 1 = .ok (.getfield 106, 3) := by decide +kernel
theorem dX10_changes_4 : decode cX10_changes 4 = .ok (.ifCond .ne 9, 3) := by decide +kernel
theorem dX10_changes_7 : decode cX10_changes 7 = .ok (.aload_n 0, 1) := by decide +kernel
theorem dX10_changes_8 : decode cX10_changes 8 = .ok (.iconst 1, 1) := by decide +kernel
theorem dX10_changes_9 : decode cX10_changes 9 = .ok (.invokevirtual 82, 3) := by decide +kernel
theorem dX10_changes_12 : decode cX10_changes 12 = .ok (.ireturn, 1) := by decide +kernel
theorem dX10_changes_13 : decode cX10_changes 13 = .ok (.aload_n 0, 1) := by decide +kernel
theorem dX10_changes_14 : decode cX10_changes 14 = .ok (.iconst 0, 1) := by decide +kernel
theorem dX10_changes_15 : decode cX10_changes 15 = .ok (.invokevirtual 233, 3) := by decide +kernel
theorem dX10_changes_18 : decode cX10_changes 18 = .ok (.aload_n 0, 1) := by decide +kernel
theorem dX10_changes_19 : decode cX10_changes 19 = .ok (.iconst 1, 1) := by decide +kernel
theorem dX10_changes_20 : decode cX10_changes 20 = .ok (.invokevirtual 233, 3) := by decide +kernel
theorem dX10_changes_23 : decode cX10_changes 23 = .ok (.lor, 1) := by decide +kernel
theorem dX10_changes_24 : decode cX10_changes 24 = .ok (.lstore_n 1, 1) := by decide +kernel
theorem dX10_changes_25 : decode cX10_changes 25 = .ok (.aload_n 0, 1) := by decide +kernel
theorem dX10_changes_26 : decode cX10_changes 26 = .ok (.lload_n 1, 1) := by decide +kernel
theorem dX10_changes_27 : decode cX10_changes 27 = .ok (.aload_n 0, 1) := by decide +kernel
theorem dX10_changes_28 : decode cX10_changes 28 = .ok (.invokevirtual 240, 3) := by decide +kernel
theorem dX10_changes_31 : decode cX10_changes 31 = .ok (.ldc2_w 244, 3) := by decide +kernel
theorem dX10_changes_34 : decode cX10_changes 34 = .ok (.lxor, 1) := by decide +kernel
theorem dX10_changes_35 : decode cX10_changes 35 = .ok (.land, 1) := by decide +kernel
theorem dX10_changes_36 : decode cX10_changes 36 = .ok (.invokestatic 129, 3) := by decide +kernel
theorem dX10_changes_39 : decode cX10_changes 39 = .ok (.invokevirtual 135, 3) := by decide +kernel
theorem dX10_changes_42 : decode cX10_changes 42 = .ok (.ireturn, 1) := by decide +kernel
theorem dX10_toMow_0 : decode cX10_toMow 0 = .ok (.aload_n 0, 1) := by decide +kernel
theorem dX10_toMow_1 : decode cX10_toMow 1 = .ok (.getfield 106, 3) := by decide +kernel
theorem dX10_toMow_4 : decode cX10_toMow 4 = .ok (.ifCond .eq 17, 3) := by decide +kernel
theorem dX10_toMow_7 : decode cX10_toMow 7 = .ok (.aload_n 0, 1) := by decide +kernel
theorem dX10_toMow_8 : decode cX10_toMow 8 = .ok (.aload_n 0, 1) := by decide +kernel
theorem dX10_toMow_9 : decode cX10_toMow 9 = .ok (.invokevirtual 246, 3) := by decide +kernel
theorem dX10_toMow_12 : decode cX10_toMow 12 = .ok (.invokestatic 129, 3) := by decide +kernel
theorem dX10_toMow_15 : decode cX10_toMow 15 = .ok (.invokevirtual 135, 3) := by decide +kernel
theorem dX10_toMow_18 : decode cX10_toMow 18 = .ok (.goto 8, 3) := by decide +kernel
theorem dX10_toMow_21 : decode cX10_toMow 21 = .ok (.aload_n 0, 1) := by decide +kernel
theorem dX10_toMow_22 : decode cX10_toMow 22 = .ok (.iconst 1, 1) := by decide +kernel
theorem dX10_toMow_23 : decode cX10_toMow 23 = .ok (.invokevirtual 82, 3) := by decide +kernel
theorem dX10_toMow_26 : decode cX10_toMow 26 = .ok (.ireturn, 1) := by decide +kernel
theorem dX10_strokes_0 : decode cX10_strokes 0 = .ok (.aload_n 0, 1) := by decide +kernel
theorem dX10_strokes_1 : decode cX10_strokes 1 = .ok (.getfield 106, 3) := by decide +kernel
theorem dX10_strokes_4 : decode cX10_strokes 4 = .ok (.ifCond .ne 9, 3) := by decide +kernel
theorem dX10_strokes_7 : decode cX10_strokes 7 = .ok (.aload_n 0, 1) := by decide +kernel
theorem dX10_strokes_8 : decode cX10_strokes 8 = .ok (.iconst 1, 1) := by decide +kernel
theorem dX10_strokes_9 : decode cX10_strokes 9 = .ok (.invokevirtual 82, 3) := by decide +kernel
theorem dX10_strokes_12 : decode cX10_strokes 12 = .ok (.ireturn, 1) := by decide +kernel
theorem dX10_strokes_13 : decode cX10_strokes 13 = .ok (.aload_n 0, 1) := by decide +kernel
theorem dX10_strokes_14 : decode cX10_strokes 14 = .ok (.invokevirtual 246, 3) := by decide +kernel
theorem dX10_strokes_17 : decode cX10_strokes 17 = .ok (.invokestatic 129, 3) := by decide +kernel
theorem dX10_strokes_20 : decode cX10_strokes 20 = .ok (.bipush 12, 2) := by decide +kernel
theorem dX10_strokes_22 : decode cX10_strokes 22 = .ok (.if_icmp .le 9, 3) := by decide +kernel
theorem dX10_strokes_25 : decode cX10_strokes 25 = .ok (.aload_n 0, 1) := by decide +kernel
theorem dX10_strokes_26 : decode cX10_strokes 26 = .ok (.iconst 3, 1) := by decide +kernel
theorem dX10_strokes_27 : decode cX10_strokes 27 = .ok (.invokevirtual 82, 3) := by decide +kernel
theorem dX10_strokes_30 : decode cX10_strokes 30 = .ok (.ireturn, 1) := by decide +kernel
theorem dX10_strokes_31 : decode cX10_strokes 31 = .ok (.aload_n 0, 1) := by decide +kernel
theorem dX10_strokes_32 : decode cX10_strokes 32 = .ok (.aload_n 0, 1) := by decide +kernel
theorem dX10_strokes_33 : decode cX10_strokes 33 = .ok (.getfield 40, 3) := by decide +kernel
theorem dX10_strokes_36 : decode cX10_strokes 36 = .ok (.aload_n 0, 1) := by decide +kernel
theorem dX10_strokes_37 : decode cX10_strokes 37 = .ok (.getfield 47, 3) := by decide +kernel
theorem dX10_strokes_40 : decode cX10_strokes 40 = .ok (.getfield 148, 3) := by decide +kernel
theorem dX10_strokes_43 : decode cX10_strokes 43 = .ok (.aload_n 0, 1) := by decide +kernel
theorem dX10_strokes_44 : decode cX10_strokes 44 = .ok (.invokevirtual 246, 3) := by decide +kernel
theorem dX10_strokes_47 : decode cX10_strokes 47 = .ok (.invokevirtual 249, 3) := by decide +kernel
theorem dX10_strokes_50 : decode cX10_strokes 50 = .ok (.invokevirtual 135, 3) := by decide +kernel
theorem dX10_strokes_53 : decode cX10_strokes 53 = .ok (.ireturn, 1) := by decide +kernel
theorem dX10_shut_0 : decode cX10_shut 0 = .ok (.aload_n 0, 1) := by decide +kernel
theorem dX10_shut_1 : decode cX10_shut 1 = .ok (.iload_n 1, 1) := by decide +kernel
theorem dX10_shut_2 : decode cX10_shut 2 = .ok (.iload_n 2, 1) := by decide +kernel
theorem dX10_shut_3 : decode cX10_shut 3 = .ok (.invokevirtual 141, 3) := by decide +kernel
theorem dX10_shut_6 : decode cX10_shut 6 = .ok (.ifCond .ne 9, 3) := by decide +kernel
theorem dX10_shut_9 : decode cX10_shut 9 = .ok (.aload_n 0, 1) := by decide +kernel
theorem dX10_shut_10 : decode cX10_shut 10 = .ok (.iconst 1, 1) := by decide +kernel
theorem dX10_shut_11 : decode cX10_shut 11 = .ok (.invokevirtual 82, 3) := by decide +kernel
theorem dX10_shut_14 : decode cX10_shut 14 = .ok (.ireturn, 1) := by decide +kernel
theorem dX10_shut_15 : decode cX10_shut 15 = .ok (.aload_n 0, 1) := by decide +kernel
theorem dX10_shut_16 : decode cX10_shut 16 = .ok (.iload_n 1, 1) := by decide +kernel
theorem dX10_shut_17 : decode cX10_shut 17 = .ok (.iload_n 2, 1) := by decide +kernel
theorem dX10_shut_18 : decode cX10_shut 18 = .ok (.invokevirtual 145, 3) := by decide +kernel
theorem dX10_shut_21 : decode cX10_shut 21 = .ok (.ifCond .ne 9, 3) := by decide +kernel
theorem dX10_shut_24 : decode cX10_shut 24 = .ok (.aload_n 0, 1) := by decide +kernel
theorem dX10_shut_25 : decode cX10_shut 25 = .ok (.iconst 5, 1) := by decide +kernel
theorem dX10_shut_26 : decode cX10_shut 26 = .ok (.invokevirtual 82, 3) := by decide +kernel
theorem dX10_shut_29 : decode cX10_shut 29 = .ok (.ireturn, 1) := by decide +kernel
theorem dX10_shut_30 : decode cX10_shut 30 = .ok (.aload_n 0, 1) := by decide +kernel
theorem dX10_shut_31 : decode cX10_shut 31 = .ok (.getfield 47, 3) := by decide +kernel
theorem dX10_shut_34 : decode cX10_shut 34 = .ok (.getfield 148, 3) := by decide +kernel
theorem dX10_shut_37 : decode cX10_shut 37 = .ok (.iload_n 1, 1) := by decide +kernel
theorem dX10_shut_38 : decode cX10_shut 38 = .ok (.iload_n 2, 1) := by decide +kernel
theorem dX10_shut_39 : decode cX10_shut 39 = .ok (.invokevirtual 152, 3) := by decide +kernel
theorem dX10_shut_42 : decode cX10_shut 42 = .ok (.invokestatic 253, 3) := by decide +kernel
theorem dX10_shut_45 : decode cX10_shut 45 = .ok (.lstore_n 3, 1) := by decide +kernel
theorem dX10_shut_46 : decode cX10_shut 46 = .ok (.aload_n 0, 1) := by decide +kernel
theorem dX10_shut_47 : decode cX10_shut 47 = .ok (.getfield 120, 3) := by decide +kernel
theorem dX10_shut_50 : decode cX10_shut 50 = .ok (.lstore 5, 2) := by decide +kernel
theorem dX10_shut_52 : decode cX10_shut 52 = .ok (.iconst 1, 1) := by decide +kernel
theorem dX10_shut_53 : decode cX10_shut 53 = .ok (.istore 7, 2) := by decide +kernel
theorem dX10_shut_55 : decode cX10_shut 55 = .ok (.iload 7, 2) := by decide +kernel
theorem dX10_shut_57 : decode cX10_shut 57 = .ok (.bipush 60, 2) := by decide +kernel
theorem dX10_shut_59 : decode cX10_shut 59 = .ok (.if_icmp .gt 33, 3) := by decide +kernel
theorem dX10_shut_62 : decode cX10_shut 62 = .ok (.aload_n 0, 1) := by decide +kernel
theorem dX10_shut_63 : decode cX10_shut 63 = .ok (.lload 5, 2) := by decide +kernel
theorem dX10_shut_65 : decode cX10_shut 65 = .ok (.invokevirtual 257, 3) := by decide +kernel
theorem dX10_shut_68 : decode cX10_shut 68 = .ok (.lstore 5, 2) := by decide +kernel
theorem dX10_shut_70 : decode cX10_shut 70 = .ok (.lload 5, 2) := by decide +kernel
theorem dX10_shut_72 : decode cX10_shut 72 = .ok (.lload_n 3, 1) := by decide +kernel
theorem dX10_shut_73 : decode cX10_shut 73 = .ok (.land, 1) := by decide +kernel
theorem dX10_shut_74 : decode cX10_shut 74 = .ok (.lconst 0, 1) := by decide +kernel
theorem dX10_shut_75 : decode cX10_shut 75 = .ok (.lcmp, 1) := by decide +kernel
theorem dX10_shut_76 : decode cX10_shut 76 = .ok (.ifCond .ne 10, 3) := by decide +kernel
theorem dX10_shut_79 : decode cX10_shut 79 = .ok (.aload_n 0, 1) := by decide +kernel
theorem dX10_shut_80 : decode cX10_shut 80 = .ok (.iload 7, 2) := by decide +kernel
theorem dX10_shut_82 : decode cX10_shut 82 = .ok (.invokevirtual 135, 3) := by decide +kernel
theorem dX10_shut_85 : decode cX10_shut 85 = .ok (.ireturn, 1) := by decide +kernel
theorem dX10_shut_86 : decode cX10_shut 86 = .ok (.iinc 7 1, 3) := by decide +kernel
theorem dX10_shut_89 : decode cX10_shut 89 = .ok (.goto (-34), 3) := by decide +kernel
theorem dX10_shut_92 : decode cX10_shut 92 = .ok (.aload_n 0, 1) := by decide +kernel
theorem dX10_shut_93 : decode cX10_shut 93 = .ok (.bipush (-2), 2) := by decide +kernel
theorem dX10_shut_95 : decode cX10_shut 95 = .ok (.invokevirtual 135, 3) := by decide +kernel
theorem dX10_shut_98 : decode cX10_shut 98 = .ok (.ireturn, 1) := by decide +kernel
theorem dX10_shutWays_0 : decode cX10_shutWays 0 = .ok (.aload_n 0, 1) := by decide +kernel
theorem dX10_shutWays_1 : decode cX10_shutWays 1 = .ok (.getfield 106, 3) := by decide +kernel
theorem dX10_shutWays_4 : decode cX10_shutWays 4 = .ok (.ifCond .ne 9, 3) := by decide +kernel
theorem dX10_shutWays_7 : decode cX10_shutWays 7 = .ok (.aload_n 0, 1) := by decide +kernel
theorem dX10_shutWays_8 : decode cX10_shutWays 8 = .ok (.iconst 1, 1) := by decide +kernel
theorem dX10_shutWays_9 : decode cX10_shutWays 9 = .ok (.invokevirtual 82, 3) := by decide +kernel
theorem dX10_shutWays_12 : decode cX10_shutWays 12 = .ok (.ireturn, 1) := by decide +kernel
theorem dX10_shutWays_13 : decode cX10_shutWays 13 = .ok (.aload_n 0, 1) := by decide +kernel
theorem dX10_shutWays_14 : decode cX10_shutWays 14 = .ok (.getfield 47, 3) := by decide +kernel
theorem dX10_shutWays_17 : decode cX10_shutWays 17 = .ok (.getfield 223, 3) := by decide +kernel
theorem dX10_shutWays_20 : decode cX10_shutWays 20 = .ok (.ifCond .ne 10, 3) := by decide +kernel
theorem dX10_shutWays_23 : decode cX10_shutWays 23 = .ok (.aload_n 0, 1) := by decide +kernel
theorem dX10_shutWays_24 : decode cX10_shutWays 24 = .ok (.bipush 6, 2) := by decide +kernel
theorem dX10_shutWays_26 : decode cX10_shutWays 26 = .ok (.invokevirtual 82, 3) := by decide +kernel
theorem dX10_shutWays_29 : decode cX10_shutWays 29 = .ok (.ireturn, 1) := by decide +kernel
theorem dX10_shutWays_30 : decode cX10_shutWays 30 = .ok (.aload_n 0, 1) := by decide +kernel
theorem dX10_shutWays_31 : decode cX10_shutWays 31 = .ok (.getfield 47, 3) := by decide +kernel
theorem dX10_shutWays_34 : decode cX10_shutWays 34 = .ok (.invokevirtual 261, 3) := by decide +kernel
theorem dX10_shutWays_37 : decode cX10_shutWays 37 = .ok (.lstore_n 1, 1) := by decide +kernel
theorem dX10_shutWays_38 : decode cX10_shutWays 38 = .ok (.aload_n 0, 1) := by decide +kernel
theorem dX10_shutWays_39 : decode cX10_shutWays 39 = .ok (.getfield 120, 3) := by decide +kernel
theorem dX10_shutWays_42 : decode cX10_shutWays 42 = .ok (.lstore_n 3, 1) := by decide +kernel
theorem dX10_shutWays_43 : decode cX10_shutWays 43 = .ok (.iconst 0, 1) := by decide +kernel
theorem dX10_shutWays_44 : decode cX10_shutWays 44 = .ok (.istore 5, 2) := by decide +kernel
theorem dX10_shutWays_46 : decode cX10_shutWays 46 = .ok (.iload 5, 2) := by decide +kernel
theorem dX10_shutWays_48 : decode cX10_shutWays 48 = .ok (.bipush 60, 2) := by decide +kernel
theorem dX10_shutWays_50 : decode cX10_shutWays 50 = .ok (.if_icmp .gt 53, 3) := by decide +kernel
theorem dX10_shutWays_53 : decode cX10_shutWays 53 = .ok (.aload_n 0, 1) := by decide +kernel
theorem dX10_shutWays_54 : decode cX10_shutWays 54 = .ok (.getfield 47, 3) := by decide +kernel
theorem dX10_shutWays_57 : decode cX10_shutWays 57 = .ok (.getfield 148, 3) := by decide +kernel
theorem dX10_shutWays_60 : decode cX10_shutWays 60 = .ok (.lload_n 3, 1) := by decide +kernel
theorem dX10_shutWays_61 : decode cX10_shutWays 61 = .ok (.aload_n 0, 1) := by decide +kernel
theorem dX10_shutWays_62 : decode cX10_shutWays 62 = .ok (.getfield 47, 3) := by decide +kernel
theorem dX10_shutWays_65 : decode cX10_shutWays 65 = .ok (.getfield 264, 3) := by decide +kernel
theorem dX10_shutWays_68 : decode cX10_shutWays 68 = .ok (.lload_n 3, 1) := by decide +kernel
theorem dX10_shutWays_69 : decode cX10_shutWays 69 = .ok (.land, 1) := by decide +kernel
theorem dX10_shutWays_70 : decode cX10_shutWays 70 = .ok (.invokevirtual 267, 3) := by decide +kernel
theorem dX10_shutWays_73 : decode cX10_shutWays 73 = .ok (.lstore 6, 2) := by decide +kernel
theorem dX10_shutWays_75 : decode cX10_shutWays 75 = .ok (.lload 6, 2) := by decide +kernel
theorem dX10_shutWays_77 : decode cX10_shutWays 77 = .ok (.lload_n 1, 1) := by decide +kernel
theorem dX10_shutWays_78 : decode cX10_shutWays 78 = .ok (.land, 1) := by decide +kernel
theorem dX10_shutWays_79 : decode cX10_shutWays 79 = .ok (.lconst 0, 1) := by decide +kernel
theorem dX10_shutWays_80 : decode cX10_shutWays 80 = .ok (.lcmp, 1) := by decide +kernel
theorem dX10_shutWays_81 : decode cX10_shutWays 81 = .ok (.ifCond .ne 10, 3) := by decide +kernel
theorem dX10_shutWays_84 : decode cX10_shutWays 84 = .ok (.aload_n 0, 1) := by decide +kernel
theorem dX10_shutWays_85 : decode cX10_shutWays 85 = .ok (.iload 5, 2) := by decide +kernel
theorem dX10_shutWays_87 : decode cX10_shutWays 87 = .ok (.invokevirtual 135, 3) := by decide +kernel
theorem dX10_shutWays_90 : decode cX10_shutWays 90 = .ok (.ireturn, 1) := by decide +kernel
theorem dX10_shutWays_91 : decode cX10_shutWays 91 = .ok (.aload_n 0, 1) := by decide +kernel
theorem dX10_shutWays_92 : decode cX10_shutWays 92 = .ok (.lload_n 3, 1) := by decide +kernel
theorem dX10_shutWays_93 : decode cX10_shutWays 93 = .ok (.invokevirtual 257, 3) := by decide +kernel
theorem dX10_shutWays_96 : decode cX10_shutWays 96 = .ok (.lstore_n 3, 1) := by decide +kernel
theorem dX10_shutWays_97 : decode cX10_shutWays 97 = .ok (.iinc 5 1, 3) := by decide +kernel
theorem dX10_shutWays_100 : decode cX10_shutWays 100 = .ok (.goto (-54), 3) := by decide +kernel
theorem dX10_shutWays_103 : decode cX10_shutWays 103 = .ok (.aload_n 0, 1) := by decide +kernel
theorem dX10_shutWays_104 : decode cX10_shutWays 104 = .ok (.bipush (-2), 2) := by decide +kernel
theorem dX10_shutWays_106 : decode cX10_shutWays 106 = .ok (.invokevirtual 135, 3) := by decide +kernel
theorem dX10_shutWays_109 : decode cX10_shutWays 109 = .ok (.ireturn, 1) := by decide +kernel
theorem dX10_seen_0 : decode cX10_seen 0 = .ok (.aload_n 0, 1) := by decide +kernel
theorem dX10_seen_1 : decode cX10_seen 1 = .ok (.iload_n 1, 1) := by decide +kernel
theorem dX10_seen_2 : decode cX10_seen 2 = .ok (.iload_n 2, 1) := by decide +kernel
theorem dX10_seen_3 : decode cX10_seen 3 = .ok (.invokevirtual 141, 3) := by decide +kernel
theorem dX10_seen_6 : decode cX10_seen 6 = .ok (.ifCond .ne 9, 3) := by decide +kernel
theorem dX10_seen_9 : decode cX10_seen 9 = .ok (.aload_n 0, 1) := by decide +kernel
theorem dX10_seen_10 : decode cX10_seen 10 = .ok (.iconst 1, 1) := by decide +kernel
theorem dX10_seen_11 : decode cX10_seen 11 = .ok (.invokevirtual 82, 3) := by decide +kernel
theorem dX10_seen_14 : decode cX10_seen 14 = .ok (.ireturn, 1) := by decide +kernel
theorem dX10_seen_15 : decode cX10_seen 15 = .ok (.aload_n 0, 1) := by decide +kernel
theorem dX10_seen_16 : decode cX10_seen 16 = .ok (.aload_n 0, 1) := by decide +kernel
theorem dX10_seen_17 : decode cX10_seen 17 = .ok (.getfield 47, 3) := by decide +kernel
theorem dX10_seen_20 : decode cX10_seen 20 = .ok (.getfield 148, 3) := by decide +kernel
theorem dX10_seen_23 : decode cX10_seen 23 = .ok (.aload_n 0, 1) := by decide +kernel
theorem dX10_seen_24 : decode cX10_seen 24 = .ok (.getfield 120, 3) := by decide +kernel
theorem dX10_seen_27 : decode cX10_seen 27 = .ok (.aload_n 0, 1) := by decide +kernel
theorem dX10_seen_28 : decode cX10_seen 28 = .ok (.getfield 47, 3) := by decide +kernel
theorem dX10_seen_31 : decode cX10_seen 31 = .ok (.getfield 148, 3) := by decide +kernel
theorem dX10_seen_34 : decode cX10_seen 34 = .ok (.iload_n 1, 1) := by decide +kernel
theorem dX10_seen_35 : decode cX10_seen 35 = .ok (.iload_n 2, 1) := by decide +kernel
theorem dX10_seen_36 : decode cX10_seen 36 = .ok (.invokevirtual 152, 3) := by decide +kernel
theorem dX10_seen_39 : decode cX10_seen 39 = .ok (.invokevirtual 271, 3) := by decide +kernel
theorem dX10_seen_42 : decode cX10_seen 42 = .ok (.invokevirtual 135, 3) := by decide +kernel
theorem dX10_seen_45 : decode cX10_seen 45 = .ok (.ireturn, 1) := by decide +kernel
theorem dX10_gatesSeen_0 : decode cX10_gatesSeen 0 = .ok (.aload_n 0, 1) := by decide +kernel
theorem dX10_gatesSeen_1 : decode cX10_gatesSeen 1 = .ok (.getfield 106, 3) := by decide +kernel
theorem dX10_gatesSeen_4 : decode cX10_gatesSeen 4 = .ok (.ifCond .ne 9, 3) := by decide +kernel
theorem dX10_gatesSeen_7 : decode cX10_gatesSeen 7 = .ok (.aload_n 0, 1) := by decide +kernel
theorem dX10_gatesSeen_8 : decode cX10_gatesSeen 8 = .ok (.iconst 1, 1) := by decide +kernel
theorem dX10_gatesSeen_9 : decode cX10_gatesSeen 9 = .ok (.invokevirtual 82, 3) := by decide +kernel
theorem dX10_gatesSeen_12 : decode cX10_gatesSeen 12 = .ok (.ireturn, 1) := by decide +kernel
theorem dX10_gatesSeen_13 : decode cX10_gatesSeen 13 = .ok (.iconst 0, 1) := by decide +kernel
theorem dX10_gatesSeen_14 : decode cX10_gatesSeen 14 = .ok (.istore_n 1, 1) := by decide +kernel
theorem dX10_gatesSeen_15 : decode cX10_gatesSeen 15 = .ok (.iconst 0, 1) := by decide +kernel
theorem dX10_gatesSeen_16 : decode cX10_gatesSeen 16 = .ok (.istore_n 2, 1) := by decide +kernel
theorem dX10_gatesSeen_17 : decode cX10_gatesSeen 17 = .ok (.iload_n 2, 1) := by decide +kernel
theorem dX10_gatesSeen_18 : decode cX10_gatesSeen 18 = .ok (.aload_n 0, 1) := by decide +kernel
theorem dX10_gatesSeen_19 : decode cX10_gatesSeen 19 = .ok (.getfield 47, 3) := by decide +kernel
theorem dX10_gatesSeen_22 : decode cX10_gatesSeen 22 = .ok (.getfield 274, 3) := by decide +kernel
theorem dX10_gatesSeen_25 : decode cX10_gatesSeen 25 = .ok (.if_icmp .ge 23, 3) := by decide +kernel
theorem dX10_gatesSeen_28 : decode cX10_gatesSeen 28 = .ok (.aload_n 0, 1) := by decide +kernel
theorem dX10_gatesSeen_29 : decode cX10_gatesSeen 29 = .ok (.iload_n 2, 1) := by decide +kernel
theorem dX10_gatesSeen_30 : decode cX10_gatesSeen 30 = .ok (.invokevirtual 277, 3) := by decide +kernel
theorem dX10_gatesSeen_33 : decode cX10_gatesSeen 33 = .ok (.ifCond .eq 9, 3) := by decide +kernel
theorem dX10_gatesSeen_36 : decode cX10_gatesSeen 36 = .ok (.iload_n 1, 1) := by decide +kernel
theorem dX10_gatesSeen_37 : decode cX10_gatesSeen 37 = .ok (.iconst 1, 1) := by decide +kernel
theorem dX10_gatesSeen_38 : decode cX10_gatesSeen 38 = .ok (.iload_n 2, 1) := by decide +kernel
theorem dX10_gatesSeen_39 : decode cX10_gatesSeen 39 = .ok (.ishl, 1) := by decide +kernel
theorem dX10_gatesSeen_40 : decode cX10_gatesSeen 40 = .ok (.ior, 1) := by decide +kernel
theorem dX10_gatesSeen_41 : decode cX10_gatesSeen 41 = .ok (.istore_n 1, 1) := by decide +kernel
theorem dX10_gatesSeen_42 : decode cX10_gatesSeen 42 = .ok (.iinc 2 1, 3) := by decide +kernel
theorem dX10_gatesSeen_45 : decode cX10_gatesSeen 45 = .ok (.goto (-28), 3) := by decide +kernel
theorem dX10_gatesSeen_48 : decode cX10_gatesSeen 48 = .ok (.aload_n 0, 1) := by decide +kernel
theorem dX10_gatesSeen_49 : decode cX10_gatesSeen 49 = .ok (.iload_n 1, 1) := by decide +kernel
theorem dX10_gatesSeen_50 : decode cX10_gatesSeen 50 = .ok (.invokevirtual 135, 3) := by decide +kernel
theorem dX10_gatesSeen_53 : decode cX10_gatesSeen 53 = .ok (.ireturn, 1) := by decide +kernel
theorem dX10_places_0 : decode cX10_places 0 = .ok (.aload_n 0, 1) := by decide +kernel
theorem dX10_places_1 : decode cX10_places 1 = .ok (.getfield 106, 3) := by decide +kernel
theorem dX10_places_4 : decode cX10_places 4 = .ok (.ifCond .eq 17, 3) := by decide +kernel
theorem dX10_places_7 : decode cX10_places 7 = .ok (.aload_n 0, 1) := by decide +kernel
theorem dX10_places_8 : decode cX10_places 8 = .ok (.aload_n 0, 1) := by decide +kernel
theorem dX10_places_9 : decode cX10_places 9 = .ok (.invokevirtual 280, 3) := by decide +kernel
theorem dX10_places_12 : decode cX10_places 12 = .ok (.invokestatic 129, 3) := by decide +kernel
theorem dX10_places_15 : decode cX10_places 15 = .ok (.invokevirtual 135, 3) := by decide +kernel
theorem dX10_places_18 : decode cX10_places 18 = .ok (.goto 8, 3) := by decide +kernel
theorem dX10_places_21 : decode cX10_places 21 = .ok (.aload_n 0, 1) := by decide +kernel
theorem dX10_places_22 : decode cX10_places 22 = .ok (.iconst 1, 1) := by decide +kernel
theorem dX10_places_23 : decode cX10_places 23 = .ok (.invokevirtual 82, 3) := by decide +kernel
theorem dX10_places_26 : decode cX10_places 26 = .ok (.ireturn, 1) := by decide +kernel
theorem dX10_place_0 : decode cX10_place 0 = .ok (.aload_n 0, 1) := by decide +kernel
theorem dX10_place_1 : decode cX10_place 1 = .ok (.getfield 106, 3) := by decide +kernel
theorem dX10_place_4 : decode cX10_place 4 = .ok (.ifCond .eq 14, 3) := by decide +kernel
theorem dX10_place_7 : decode cX10_place 7 = .ok (.aload_n 0, 1) := by decide +kernel
theorem dX10_place_8 : decode cX10_place 8 = .ok (.invokevirtual 280, 3) := by decide +kernel
theorem dX10_place_11 : decode cX10_place 11 = .ok (.iload_n 1, 1) := by decide +kernel
theorem dX10_place_12 : decode cX10_place 12 = .ok (.invokestatic 237, 3) := by decide +kernel
theorem dX10_place_15 : decode cX10_place 15 = .ok (.goto 5, 3) := by decide +kernel
theorem dX10_place_18 : decode cX10_place 18 = .ok (.bipush (-2), 2) := by decide +kernel
theorem dX10_place_20 : decode cX10_place 20 = .ok (.istore_n 2, 1) := by decide +kernel
theorem dX10_place_21 : decode cX10_place 21 = .ok (.iload_n 2, 1) := by decide +kernel
theorem dX10_place_22 : decode cX10_place 22 = .ok (.bipush (-2), 2) := by decide +kernel
theorem dX10_place_24 : decode cX10_place 24 = .ok (.if_icmp .ne 11, 3) := by decide +kernel
theorem dX10_place_27 : decode cX10_place 27 = .ok (.aload_n 0, 1) := by decide +kernel
theorem dX10_place_28 : decode cX10_place 28 = .ok (.iconst 1, 1) := by decide +kernel
theorem dX10_place_29 : decode cX10_place 29 = .ok (.invokevirtual 82, 3) := by decide +kernel
theorem dX10_place_32 : decode cX10_place 32 = .ok (.goto 8, 3) := by decide +kernel
theorem dX10_place_35 : decode cX10_place 35 = .ok (.aload_n 0, 1) := by decide +kernel
theorem dX10_place_36 : decode cX10_place 36 = .ok (.iload_n 2, 1) := by decide +kernel
theorem dX10_place_37 : decode cX10_place 37 = .ok (.invokevirtual 135, 3) := by decide +kernel
theorem dX10_place_40 : decode cX10_place 40 = .ok (.ireturn, 1) := by decide +kernel
theorem dX10_best_0 : decode cX10_best 0 = .ok (.aload_n 0, 1) := by decide +kernel
theorem dX10_best_1 : decode cX10_best 1 = .ok (.getfield 106, 3) := by decide +kernel
theorem dX10_best_4 : decode cX10_best 4 = .ok (.ifCond .eq 14, 3) := by decide +kernel
theorem dX10_best_7 : decode cX10_best 7 = .ok (.aload_n 0, 1) := by decide +kernel
theorem dX10_best_8 : decode cX10_best 8 = .ok (.aload_n 0, 1) := by decide +kernel
theorem dX10_best_9 : decode cX10_best 9 = .ok (.invokevirtual 283, 3) := by decide +kernel
theorem dX10_best_12 : decode cX10_best 12 = .ok (.invokevirtual 135, 3) := by decide +kernel
theorem dX10_best_15 : decode cX10_best 15 = .ok (.goto 8, 3) := by decide +kernel
theorem dX10_best_18 : decode cX10_best 18 = .ok (.aload_n 0, 1) := by decide +kernel
theorem dX10_best_19 : decode cX10_best 19 = .ok (.iconst 1, 1) := by decide +kernel
theorem dX10_best_20 : decode cX10_best 20 = .ok (.invokevirtual 82, 3) := by decide +kernel
theorem dX10_best_23 : decode cX10_best 23 = .ok (.ireturn, 1) := by decide +kernel
theorem dX10_bestPaid_0 : decode cX10_bestPaid 0 = .ok (.aload_n 0, 1) := by decide +kernel
theorem dX10_bestPaid_1 : decode cX10_bestPaid 1 = .ok (.getfield 106, 3) := by decide +kernel
theorem dX10_bestPaid_4 : decode cX10_bestPaid 4 = .ok (.ifCond .ne 9, 3) := by decide +kernel
theorem dX10_bestPaid_7 : decode cX10_bestPaid 7 = .ok (.aload_n 0, 1) := by decide +kernel
theorem dX10_bestPaid_8 : decode cX10_bestPaid 8 = .ok (.iconst 1, 1) := by decide +kernel
theorem dX10_bestPaid_9 : decode cX10_bestPaid 9 = .ok (.invokevirtual 82, 3) := by decide +kernel
theorem dX10_bestPaid_12 : decode cX10_bestPaid 12 = .ok (.ireturn, 1) := by decide +kernel
theorem dX10_bestPaid_13 : decode cX10_bestPaid 13 = .ok (.aload_n 0, 1) := by decide +kernel
theorem dX10_bestPaid_14 : decode cX10_bestPaid 14 = .ok (.invokevirtual 283, 3) := by decide +kernel
theorem dX10_bestPaid_17 : decode cX10_bestPaid 17 = .ok (.istore_n 1, 1) := by decide +kernel
theorem dX10_bestPaid_18 : decode cX10_bestPaid 18 = .ok (.iload_n 1, 1) := by decide +kernel
theorem dX10_bestPaid_19 : decode cX10_bestPaid 19 = .ok (.bipush (-2), 2) := by decide +kernel
theorem dX10_bestPaid_21 : decode cX10_bestPaid 21 = .ok (.if_icmp .ne 10, 3) := by decide +kernel
theorem dX10_bestPaid_24 : decode cX10_bestPaid 24 = .ok (.aload_n 0, 1) := by decide +kernel
theorem dX10_bestPaid_25 : decode cX10_bestPaid 25 = .ok (.bipush 6, 2) := by decide +kernel
theorem dX10_bestPaid_27 : decode cX10_bestPaid 27 = .ok (.invokevirtual 82, 3) := by decide +kernel
theorem dX10_bestPaid_30 : decode cX10_bestPaid 30 = .ok (.ireturn, 1) := by decide +kernel
theorem dX10_bestPaid_31 : decode cX10_bestPaid 31 = .ok (.aload_n 0, 1) := by decide +kernel
theorem dX10_bestPaid_32 : decode cX10_bestPaid 32 = .ok (.aload_n 0, 1) := by decide +kernel
theorem dX10_bestPaid_33 : decode cX10_bestPaid 33 = .ok (.aload_n 0, 1) := by decide +kernel
theorem dX10_bestPaid_34 : decode cX10_bestPaid 34 = .ok (.getfield 120, 3) := by decide +kernel
theorem dX10_bestPaid_37 : decode cX10_bestPaid 37 = .ok (.iload_n 1, 1) := by decide +kernel
theorem dX10_bestPaid_38 : decode cX10_bestPaid 38 = .ok (.invokestatic 253, 3) := by decide +kernel
theorem dX10_bestPaid_41 : decode cX10_bestPaid 41 = .ok (.lxor, 1) := by decide +kernel
theorem dX10_bestPaid_42 : decode cX10_bestPaid 42 = .ok (.invokevirtual 286, 3) := by decide +kernel
theorem dX10_bestPaid_45 : decode cX10_bestPaid 45 = .ok (.invokevirtual 135, 3) := by decide +kernel
theorem dX10_bestPaid_48 : decode cX10_bestPaid 48 = .ok (.ireturn, 1) := by decide +kernel
theorem dX10_mow_0 : decode cX10_mow 0 = .ok (.aload_n 0, 1) := by decide +kernel
theorem dX10_mow_1 : decode cX10_mow 1 = .ok (.iload_n 1, 1) := by decide +kernel
theorem dX10_mow_2 : decode cX10_mow 2 = .ok (.iload_n 2, 1) := by decide +kernel
theorem dX10_mow_3 : decode cX10_mow 3 = .ok (.invokevirtual 141, 3) := by decide +kernel
theorem dX10_mow_6 : decode cX10_mow 6 = .ok (.ifCond .ne 9, 3) := by decide +kernel
theorem dX10_mow_9 : decode cX10_mow 9 = .ok (.aload_n 0, 1) := by decide +kernel
theorem dX10_mow_10 : decode cX10_mow 10 = .ok (.iconst 1, 1) := by decide +kernel
theorem dX10_mow_11 : decode cX10_mow 11 = .ok (.invokevirtual 289, 3) := by decide +kernel
theorem dX10_mow_14 : decode cX10_mow 14 = .ok (.ireturn, 1) := by decide +kernel
theorem dX10_mow_15 : decode cX10_mow 15 = .ok (.aload_n 0, 1) := by decide +kernel
theorem dX10_mow_16 : decode cX10_mow 16 = .ok (.iload_n 1, 1) := by decide +kernel
theorem dX10_mow_17 : decode cX10_mow 17 = .ok (.iload_n 2, 1) := by decide +kernel
theorem dX10_mow_18 : decode cX10_mow 18 = .ok (.invokevirtual 145, 3) := by decide +kernel
theorem dX10_mow_21 : decode cX10_mow 21 = .ok (.ifCond .eq 9, 3) := by decide +kernel
theorem dX10_mow_24 : decode cX10_mow 24 = .ok (.aload_n 0, 1) := by decide +kernel
theorem dX10_mow_25 : decode cX10_mow 25 = .ok (.iconst 5, 1) := by decide +kernel
theorem dX10_mow_26 : decode cX10_mow 26 = .ok (.invokevirtual 289, 3) := by decide +kernel
theorem dX10_mow_29 : decode cX10_mow 29 = .ok (.ireturn, 1) := by decide +kernel
theorem dX10_mow_30 : decode cX10_mow 30 = .ok (.aload_n 0, 1) := by decide +kernel
theorem dX10_mow_31 : decode cX10_mow 31 = .ok (.aload_n 0, 1) := by decide +kernel
theorem dX10_mow_32 : decode cX10_mow 32 = .ok (.getfield 120, 3) := by decide +kernel
theorem dX10_mow_35 : decode cX10_mow 35 = .ok (.aload_n 0, 1) := by decide +kernel
theorem dX10_mow_36 : decode cX10_mow 36 = .ok (.getfield 47, 3) := by decide +kernel
theorem dX10_mow_39 : decode cX10_mow 39 = .ok (.getfield 148, 3) := by decide +kernel
theorem dX10_mow_42 : decode cX10_mow 42 = .ok (.iload_n 1, 1) := by decide +kernel
theorem dX10_mow_43 : decode cX10_mow 43 = .ok (.iload_n 2, 1) := by decide +kernel
theorem dX10_mow_44 : decode cX10_mow 44 = .ok (.invokevirtual 152, 3) := by decide +kernel
theorem dX10_mow_47 : decode cX10_mow 47 = .ok (.invokestatic 253, 3) := by decide +kernel
theorem dX10_mow_50 : decode cX10_mow 50 = .ok (.lor, 1) := by decide +kernel
theorem dX10_mow_51 : decode cX10_mow 51 = .ok (.invokevirtual 292, 3) := by decide +kernel
theorem dX10_mow_54 : decode cX10_mow 54 = .ok (.aload_n 0, 1) := by decide +kernel
theorem dX10_mow_55 : decode cX10_mow 55 = .ok (.invokevirtual 296, 3) := by decide +kernel
theorem dX10_mow_58 : decode cX10_mow 58 = .ok (.ireturn, 1) := by decide +kernel
theorem dX10_stand_0 : decode cX10_stand 0 = .ok (.aload_n 0, 1) := by decide +kernel
theorem dX10_stand_1 : decode cX10_stand 1 = .ok (.iload_n 1, 1) := by decide +kernel
theorem dX10_stand_2 : decode cX10_stand 2 = .ok (.iload_n 2, 1) := by decide +kernel
theorem dX10_stand_3 : decode cX10_stand 3 = .ok (.invokevirtual 141, 3) := by decide +kernel
theorem dX10_stand_6 : decode cX10_stand 6 = .ok (.ifCond .ne 9, 3) := by decide +kernel
theorem dX10_stand_9 : decode cX10_stand 9 = .ok (.aload_n 0, 1) := by decide +kernel
theorem dX10_stand_10 : decode cX10_stand 10 = .ok (.iconst 1, 1) := by decide +kernel
theorem dX10_stand_11 : decode cX10_stand 11 = .ok (.invokevirtual 289, 3) := by decide +kernel
theorem dX10_stand_14 : decode cX10_stand 14 = .ok (.ireturn, 1) := by decide +kernel
theorem dX10_stand_15 : decode cX10_stand 15 = .ok (.aload_n 0, 1) := by decide +kernel
theorem dX10_stand_16 : decode cX10_stand 16 = .ok (.iload_n 1, 1) := by decide +kernel
theorem dX10_stand_17 : decode cX10_stand 17 = .ok (.iload_n 2, 1) := by decide +kernel
theorem dX10_stand_18 : decode cX10_stand 18 = .ok (.invokevirtual 145, 3) := by decide +kernel
theorem dX10_stand_21 : decode cX10_stand 21 = .ok (.ifCond .ne 9, 3) := by decide +kernel
theorem dX10_stand_24 : decode cX10_stand 24 = .ok (.aload_n 0, 1) := by decide +kernel
theorem dX10_stand_25 : decode cX10_stand 25 = .ok (.iconst 5, 1) := by decide +kernel
theorem dX10_stand_26 : decode cX10_stand 26 = .ok (.invokevirtual 289, 3) := by decide +kernel
theorem dX10_stand_29 : decode cX10_stand 29 = .ok (.ireturn, 1) := by decide +kernel
theorem dX10_stand_30 : decode cX10_stand 30 = .ok (.aload_n 0, 1) := by decide +kernel
theorem dX10_stand_31 : decode cX10_stand 31 = .ok (.aload_n 0, 1) := by decide +kernel
theorem dX10_stand_32 : decode cX10_stand 32 = .ok (.getfield 120, 3) := by decide +kernel
theorem dX10_stand_35 : decode cX10_stand 35 = .ok (.aload_n 0, 1) := by decide +kernel
theorem dX10_stand_36 : decode cX10_stand 36 = .ok (.getfield 47, 3) := by decide +kernel
theorem dX10_stand_39 : decode cX10_stand 39 = .ok (.getfield 148, 3) := by decide +kernel
theorem dX10_stand_42 : decode cX10_stand 42 = .ok (.iload_n 1, 1) := by decide +kernel
theorem dX10_stand_43 : decode cX10_stand 43 = .ok (.iload_n 2, 1) := by decide +kernel
theorem dX10_stand_44 : decode cX10_stand 44 = .ok (.invokevirtual 152, 3) := by decide +kernel
theorem dX10_stand_47 : decode cX10_stand 47 = .ok (.invokestatic 253, 3) := by decide +kernel
theorem dX10_stand_50 : decode cX10_stand 50 = .ok (.ldc2_w 244, 3) := by decide +kernel
theorem dX10_stand_53 : decode cX10_stand 53 = .ok (.lxor, 1) := by decide +kernel
theorem dX10_stand_54 : decode cX10_stand 54 = .ok (.land, 1) := by decide +kernel
theorem dX10_stand_55 : decode cX10_stand 55 = .ok (.invokevirtual 292, 3) := by decide +kernel
theorem dX10_stand_58 : decode cX10_stand 58 = .ok (.aload_n 0, 1) := by decide +kernel
theorem dX10_stand_59 : decode cX10_stand 59 = .ok (.invokevirtual 296, 3) := by decide +kernel
theorem dX10_stand_62 : decode cX10_stand 62 = .ok (.ireturn, 1) := by decide +kernel
theorem dX10_week_0 : decode cX10_week 0 = .ok (.aload_n 0, 1) := by decide +kernel
theorem dX10_week_1 : decode cX10_week 1 = .ok (.getfield 106, 3) := by decide +kernel
theorem dX10_week_4 : decode cX10_week 4 = .ok (.ifCond .ne 9, 3) := by decide +kernel
theorem dX10_week_7 : decode cX10_week 7 = .ok (.aload_n 0, 1) := by decide +kernel
theorem dX10_week_8 : decode cX10_week 8 = .ok (.iconst 1, 1) := by decide +kernel
theorem dX10_week_9 : decode cX10_week 9 = .ok (.invokevirtual 82, 3) := by decide +kernel
theorem dX10_week_12 : decode cX10_week 12 = .ok (.ireturn, 1) := by decide +kernel
theorem dX10_week_13 : decode cX10_week 13 = .ok (.aload_n 0, 1) := by decide +kernel
theorem dX10_week_14 : decode cX10_week 14 = .ok (.getfield 120, 3) := by decide +kernel
theorem dX10_week_17 : decode cX10_week 17 = .ok (.lstore_n 1, 1) := by decide +kernel
theorem dX10_week_18 : decode cX10_week 18 = .ok (.aload_n 0, 1) := by decide +kernel
theorem dX10_week_19 : decode cX10_week 19 = .ok (.aload_n 0, 1) := by decide +kernel
theorem dX10_week_20 : decode cX10_week 20 = .ok (.aload_n 0, 1) := by decide +kernel
theorem dX10_week_21 : decode cX10_week 21 = .ok (.getfield 120, 3) := by decide +kernel
theorem dX10_week_24 : decode cX10_week 24 = .ok (.invokevirtual 257, 3) := by decide +kernel
theorem dX10_week_27 : decode cX10_week 27 = .ok (.invokevirtual 292, 3) := by decide +kernel
theorem dX10_week_30 : decode cX10_week 30 = .ok (.aload_n 0, 1) := by decide +kernel
theorem dX10_week_31 : decode cX10_week 31 = .ok (.lload_n 1, 1) := by decide +kernel
theorem dX10_week_32 : decode cX10_week 32 = .ok (.aload_n 0, 1) := by decide +kernel
theorem dX10_week_33 : decode cX10_week 33 = .ok (.getfield 120, 3) := by decide +kernel
theorem dX10_week_36 : decode cX10_week 36 = .ok (.ldc2_w 244, 3) := by decide +kernel
theorem dX10_week_39 : decode cX10_week 39 = .ok (.lxor, 1) := by decide +kernel
theorem dX10_week_40 : decode cX10_week 40 = .ok (.land, 1) := by decide +kernel
theorem dX10_week_41 : decode cX10_week 41 = .ok (.invokestatic 129, 3) := by decide +kernel
theorem dX10_week_44 : decode cX10_week 44 = .ok (.invokevirtual 135, 3) := by decide +kernel
theorem dX10_week_47 : decode cX10_week 47 = .ok (.ireturn, 1) := by decide +kernel
theorem dX10_thin_0 : decode cX10_thin 0 = .ok (.aload_n 0, 1) := by decide +kernel
theorem dX10_thin_1 : decode cX10_thin 1 = .ok (.getfield 106, 3) := by decide +kernel
theorem dX10_thin_4 : decode cX10_thin 4 = .ok (.ifCond .ne 9, 3) := by decide +kernel
theorem dX10_thin_7 : decode cX10_thin 7 = .ok (.aload_n 0, 1) := by decide +kernel
theorem dX10_thin_8 : decode cX10_thin 8 = .ok (.iconst 1, 1) := by decide +kernel
theorem dX10_thin_9 : decode cX10_thin 9 = .ok (.invokevirtual 82, 3) := by decide +kernel
theorem dX10_thin_12 : decode cX10_thin 12 = .ok (.ireturn, 1) := by decide +kernel
theorem dX10_thin_13 : decode cX10_thin 13 = .ok (.aload_n 0, 1) := by decide +kernel
theorem dX10_thin_14 : decode cX10_thin 14 = .ok (.invokevirtual 299, 3) := by decide +kernel
theorem dX10_thin_17 : decode cX10_thin 17 = .ok (.lstore_n 1, 1) := by decide +kernel
theorem dX10_thin_18 : decode cX10_thin 18 = .ok (.lload_n 1, 1) := by decide +kernel
theorem dX10_thin_19 : decode cX10_thin 19 = .ok (.invokestatic 129, 3) := by decide +kernel
theorem dX10_thin_22 : decode cX10_thin 22 = .ok (.istore_n 3, 1) := by decide +kernel
theorem dX10_thin_23 : decode cX10_thin 23 = .ok (.iload_n 3, 1) := by decide +kernel
theorem dX10_thin_24 : decode cX10_thin 24 = .ok (.ifCond .ne 10, 3) := by decide +kernel
theorem dX10_thin_27 : decode cX10_thin 27 = .ok (.aload_n 0, 1) := by decide +kernel
theorem dX10_thin_28 : decode cX10_thin 28 = .ok (.bipush 6, 2) := by decide +kernel
theorem dX10_thin_30 : decode cX10_thin 30 = .ok (.invokevirtual 82, 3) := by decide +kernel
theorem dX10_thin_33 : decode cX10_thin 33 = .ok (.ireturn, 1) := by decide +kernel
theorem dX10_thin_34 : decode cX10_thin 34 = .ok (.aload_n 0, 1) := by decide +kernel
theorem dX10_thin_35 : decode cX10_thin 35 = .ok (.getfield 123, 3) := by decide +kernel
theorem dX10_thin_38 : decode cX10_thin 38 = .ok (.invokestatic 302, 3) := by decide +kernel
theorem dX10_thin_41 : decode cX10_thin 41 = .ok (.istore 4, 2) := by decide +kernel
theorem dX10_thin_43 : decode cX10_thin 43 = .ok (.lload_n 1, 1) := by decide +kernel
theorem dX10_thin_44 : decode cX10_thin 44 = .ok (.iload 4, 2) := by decide +kernel
theorem dX10_thin_46 : decode cX10_thin 46 = .ok (.iload_n 3, 1) := by decide +kernel
theorem dX10_thin_47 : decode cX10_thin 47 = .ok (.irem, 1) := by decide +kernel
theorem dX10_thin_48 : decode cX10_thin 48 = .ok (.invokestatic 237, 3) := by decide +kernel
theorem dX10_thin_51 : decode cX10_thin 51 = .ok (.istore 5, 2) := by decide +kernel
theorem dX10_thin_53 : decode cX10_thin 53 = .ok (.aload_n 0, 1) := by decide +kernel
theorem dX10_thin_54 : decode cX10_thin 54 = .ok (.aload_n 0, 1) := by decide +kernel
theorem dX10_thin_55 : decode cX10_thin 55 = .ok (.getfield 120, 3) := by decide +kernel
theorem dX10_thin_58 : decode cX10_thin 58 = .ok (.iload 5, 2) := by decide +kernel
theorem dX10_thin_60 : decode cX10_thin 60 = .ok (.invokestatic 253, 3) := by decide +kernel
theorem dX10_thin_63 : decode cX10_thin 63 = .ok (.ldc2_w 244, 3) := by decide +kernel
theorem dX10_thin_66 : decode cX10_thin 66 = .ok (.lxor, 1) := by decide +kernel
theorem dX10_thin_67 : decode cX10_thin 67 = .ok (.land, 1) := by decide +kernel
theorem dX10_thin_68 : decode cX10_thin 68 = .ok (.invokevirtual 292, 3) := by decide +kernel
theorem dX10_thin_71 : decode cX10_thin 71 = .ok (.aload_n 0, 1) := by decide +kernel
theorem dX10_thin_72 : decode cX10_thin 72 = .ok (.iload 4, 2) := by decide +kernel
theorem dX10_thin_74 : decode cX10_thin 74 = .ok (.putfield 123, 3) := by decide +kernel
theorem dX10_thin_77 : decode cX10_thin 77 = .ok (.aload_n 0, 1) := by decide +kernel
theorem dX10_thin_78 : decode cX10_thin 78 = .ok (.iload 5, 2) := by decide +kernel
theorem dX10_thin_80 : decode cX10_thin 80 = .ok (.invokevirtual 135, 3) := by decide +kernel
theorem dX10_thin_83 : decode cX10_thin 83 = .ok (.ireturn, 1) := by decide +kernel
theorem dX10_seed_0 : decode cX10_seed 0 = .ok (.aload_n 0, 1) := by decide +kernel
theorem dX10_seed_1 : decode cX10_seed 1 = .ok (.getfield 106, 3) := by decide +kernel
theorem dX10_seed_4 : decode cX10_seed 4 = .ok (.ifCond .ne 9, 3) := by decide +kernel
theorem dX10_seed_7 : decode cX10_seed 7 = .ok (.aload_n 0, 1) := by decide +kernel
theorem dX10_seed_8 : decode cX10_seed 8 = .ok (.iconst 1, 1) := by decide +kernel
theorem dX10_seed_9 : decode cX10_seed 9 = .ok (.invokevirtual 289, 3) := by decide +kernel
theorem dX10_seed_12 : decode cX10_seed 12 = .ok (.ireturn, 1) := by decide +kernel
theorem dX10_seed_13 : decode cX10_seed 13 = .ok (.iload_n 1, 1) := by decide +kernel
theorem dX10_seed_14 : decode cX10_seed 14 = .ok (.ifCond .lt 10, 3) := by decide +kernel
theorem dX10_seed_17 : decode cX10_seed 17 = .ok (.iload_n 1, 1) := by decide +kernel
theorem dX10_seed_18 : decode cX10_seed 18 = .ok (.ldc_w 305, 3) := by decide +kernel
theorem dX10_seed_21 : decode cX10_seed 21 = .ok (.if_icmp .lt 9, 3) := by decide +kernel
theorem dX10_seed_24 : decode cX10_seed 24 = .ok (.aload_n 0, 1) := by decide +kernel
theorem dX10_seed_25 : decode cX10_seed 25 = .ok (.iconst 2, 1) := by decide +kernel
theorem dX10_seed_26 : decode cX10_seed 26 = .ok (.invokevirtual 289, 3) := by decide +kernel
theorem dX10_seed_29 : decode cX10_seed 29 = .ok (.ireturn, 1) := by decide +kernel
theorem dX10_seed_30 : decode cX10_seed 30 = .ok (.aload_n 0, 1) := by decide +kernel
theorem dX10_seed_31 : decode cX10_seed 31 = .ok (.iload_n 1, 1) := by decide +kernel
theorem dX10_seed_32 : decode cX10_seed 32 = .ok (.putfield 123, 3) := by decide +kernel
theorem dX10_seed_35 : decode cX10_seed 35 = .ok (.aload_n 0, 1) := by decide +kernel
theorem dX10_seed_36 : decode cX10_seed 36 = .ok (.invokevirtual 296, 3) := by decide +kernel
theorem dX10_seed_39 : decode cX10_seed 39 = .ok (.ireturn, 1) := by decide +kernel
theorem dX10_undo_0 : decode cX10_undo 0 = .ok (.aload_n 0, 1) := by decide +kernel
theorem dX10_undo_1 : decode cX10_undo 1 = .ok (.getfield 33, 3) := by decide +kernel
theorem dX10_undo_4 : decode cX10_undo 4 = .ok (.invokevirtual 306, 3) := by decide +kernel
theorem dX10_undo_7 : decode cX10_undo 7 = .ok (.ifCond .ne 10, 3) := by decide +kernel
theorem dX10_undo_10 : decode cX10_undo 10 = .ok (.aload_n 0, 1) := by decide +kernel
theorem dX10_undo_11 : decode cX10_undo 11 = .ok (.bipush 6, 2) := by decide +kernel
theorem dX10_undo_13 : decode cX10_undo 13 = .ok (.invokevirtual 289, 3) := by decide +kernel
theorem dX10_undo_16 : decode cX10_undo 16 = .ok (.ireturn, 1) := by decide +kernel
theorem dX10_undo_17 : decode cX10_undo 17 = .ok (.aload_n 0, 1) := by decide +kernel
theorem dX10_undo_18 : decode cX10_undo 18 = .ok (.aload_n 0, 1) := by decide +kernel
theorem dX10_undo_19 : decode cX10_undo 19 = .ok (.getfield 33, 3) := by decide +kernel
theorem dX10_undo_22 : decode cX10_undo 22 = .ok (.invokevirtual 309, 3) := by decide +kernel
theorem dX10_undo_25 : decode cX10_undo 25 = .ok (.putfield 120, 3) := by decide +kernel
theorem dX10_undo_28 : decode cX10_undo 28 = .ok (.aload_n 0, 1) := by decide +kernel
theorem dX10_undo_29 : decode cX10_undo 29 = .ok (.aload_n 0, 1) := by decide +kernel
theorem dX10_undo_30 : decode cX10_undo 30 = .ok (.getfield 33, 3) := by decide +kernel
theorem dX10_undo_33 : decode cX10_undo 33 = .ok (.invokevirtual 312, 3) := by decide +kernel
theorem dX10_undo_36 : decode cX10_undo 36 = .ok (.putfield 123, 3) := by decide +kernel
theorem dX10_undo_39 : decode cX10_undo 39 = .ok (.aload_n 0, 1) := by decide +kernel
theorem dX10_undo_40 : decode cX10_undo 40 = .ok (.getfield 33, 3) := by decide +kernel
theorem dX10_undo_43 : decode cX10_undo 43 = .ok (.invokevirtual 315, 3) := by decide +kernel
theorem dX10_undo_46 : decode cX10_undo 46 = .ok (.aload_n 0, 1) := by decide +kernel
theorem dX10_undo_47 : decode cX10_undo 47 = .ok (.invokevirtual 296, 3) := by decide +kernel
theorem dX10_undo_50 : decode cX10_undo 50 = .ok (.ireturn, 1) := by decide +kernel
theorem dX10_mark_0 : decode cX10_mark 0 = .ok (.aload_n 0, 1) := by decide +kernel
theorem dX10_mark_1 : decode cX10_mark 1 = .ok (.getfield 106, 3) := by decide +kernel
theorem dX10_mark_4 : decode cX10_mark 4 = .ok (.ifCond .ne 9, 3) := by decide +kernel
theorem dX10_mark_7 : decode cX10_mark 7 = .ok (.aload_n 0, 1) := by decide +kernel
theorem dX10_mark_8 : decode cX10_mark 8 = .ok (.iconst 1, 1) := by decide +kernel
theorem dX10_mark_9 : decode cX10_mark 9 = .ok (.invokevirtual 82, 3) := by decide +kernel
theorem dX10_mark_12 : decode cX10_mark 12 = .ok (.ireturn, 1) := by decide +kernel
theorem dX10_mark_13 : decode cX10_mark 13 = .ok (.aload_n 0, 1) := by decide +kernel
theorem dX10_mark_14 : decode cX10_mark 14 = .ok (.getfield 33, 3) := by decide +kernel
theorem dX10_mark_17 : decode cX10_mark 17 = .ok (.aload_n 0, 1) := by decide +kernel
theorem dX10_mark_18 : decode cX10_mark 18 = .ok (.getfield 120, 3) := by decide +kernel
theorem dX10_mark_21 : decode cX10_mark 21 = .ok (.aload_n 0, 1) := by decide +kernel
theorem dX10_mark_22 : decode cX10_mark 22 = .ok (.getfield 123, 3) := by decide +kernel
theorem dX10_mark_25 : decode cX10_mark 25 = .ok (.invokevirtual 318, 3) := by decide +kernel
theorem dX10_mark_28 : decode cX10_mark 28 = .ok (.istore_n 1, 1) := by decide +kernel
theorem dX10_mark_29 : decode cX10_mark 29 = .ok (.iload_n 1, 1) := by decide +kernel
theorem dX10_mark_30 : decode cX10_mark 30 = .ok (.iconst (-1), 1) := by decide +kernel
theorem dX10_mark_31 : decode cX10_mark 31 = .ok (.if_icmp .ne 11, 3) := by decide +kernel
theorem dX10_mark_34 : decode cX10_mark 34 = .ok (.aload_n 0, 1) := by decide +kernel
theorem dX10_mark_35 : decode cX10_mark 35 = .ok (.iconst 3, 1) := by decide +kernel
theorem dX10_mark_36 : decode cX10_mark 36 = .ok (.invokevirtual 82, 3) := by decide +kernel
theorem dX10_mark_39 : decode cX10_mark 39 = .ok (.goto 8, 3) := by decide +kernel
theorem dX10_mark_42 : decode cX10_mark 42 = .ok (.aload_n 0, 1) := by decide +kernel
theorem dX10_mark_43 : decode cX10_mark 43 = .ok (.iload_n 1, 1) := by decide +kernel
theorem dX10_mark_44 : decode cX10_mark 44 = .ok (.invokevirtual 135, 3) := by decide +kernel
theorem dX10_mark_47 : decode cX10_mark 47 = .ok (.ireturn, 1) := by decide +kernel
theorem dX10_back_0 : decode cX10_back 0 = .ok (.aload_n 0, 1) := by decide +kernel
theorem dX10_back_1 : decode cX10_back 1 = .ok (.getfield 33, 3) := by decide +kernel
theorem dX10_back_4 : decode cX10_back 4 = .ok (.iload_n 1, 1) := by decide +kernel
theorem dX10_back_5 : decode cX10_back 5 = .ok (.invokevirtual 321, 3) := by decide +kernel
theorem dX10_back_8 : decode cX10_back 8 = .ok (.ifCond .ne 9, 3) := by decide +kernel
theorem dX10_back_11 : decode cX10_back 11 = .ok (.aload_n 0, 1) := by decide +kernel
theorem dX10_back_12 : decode cX10_back 12 = .ok (.iconst 1, 1) := by decide +kernel
theorem dX10_back_13 : decode cX10_back 13 = .ok (.invokevirtual 289, 3) := by decide +kernel
theorem dX10_back_16 : decode cX10_back 16 = .ok (.ireturn, 1) := by decide +kernel
theorem dX10_back_17 : decode cX10_back 17 = .ok (.aload_n 0, 1) := by decide +kernel
theorem dX10_back_18 : decode cX10_back 18 = .ok (.aload_n 0, 1) := by decide +kernel
theorem dX10_back_19 : decode cX10_back 19 = .ok (.getfield 33, 3) := by decide +kernel
theorem dX10_back_22 : decode cX10_back 22 = .ok (.iload_n 1, 1) := by decide +kernel
theorem dX10_back_23 : decode cX10_back 23 = .ok (.invokevirtual 324, 3) := by decide +kernel
theorem dX10_back_26 : decode cX10_back 26 = .ok (.putfield 120, 3) := by decide +kernel
theorem dX10_back_29 : decode cX10_back 29 = .ok (.aload_n 0, 1) := by decide +kernel
theorem dX10_back_30 : decode cX10_back 30 = .ok (.aload_n 0, 1) := by decide +kernel
theorem dX10_back_31 : decode cX10_back 31 = .ok (.getfield 33, 3) := by decide +kernel
theorem dX10_back_34 : decode cX10_back 34 = .ok (.iload_n 1, 1) := by decide +kernel
theorem dX10_back_35 : decode cX10_back 35 = .ok (.invokevirtual 327, 3) := by decide +kernel
theorem dX10_back_38 : decode cX10_back 38 = .ok (.putfield 123, 3) := by decide +kernel
theorem dX10_back_41 : decode cX10_back 41 = .ok (.aload_n 0, 1) := by decide +kernel
theorem dX10_back_42 : decode cX10_back 42 = .ok (.getfield 33, 3) := by decide +kernel
theorem dX10_back_45 : decode cX10_back 45 = .ok (.invokevirtual 330, 3) := by decide +kernel
theorem dX10_back_48 : decode cX10_back 48 = .ok (.aload_n 0, 1) := by decide +kernel
theorem dX10_back_49 : decode cX10_back 49 = .ok (.invokevirtual 296, 3) := by decide +kernel
theorem dX10_back_52 : decode cX10_back 52 = .ok (.ireturn, 1) := by decide +kernel
theorem dX10_led_0 : decode cX10_led 0 = .ok (.iconst 0, 1) := by decide +kernel
theorem dX10_led_1 : decode cX10_led 1 = .ok (.istore_n 2, 1) := by decide +kernel
theorem dX10_led_2 : decode cX10_led 2 = .ok (.iconst 0, 1) := by decide +kernel
theorem dX10_led_3 : decode cX10_led 3 = .ok (.istore_n 3, 1) := by decide +kernel
theorem dX10_led_4 : decode cX10_led 4 = .ok (.aload_n 0, 1) := by decide +kernel
theorem dX10_led_5 : decode cX10_led 5 = .ok (.getfield 106, 3) := by decide +kernel
theorem dX10_led_8 : decode cX10_led 8 = .ok (.ifCond .eq 38, 3) := by decide +kernel
theorem dX10_led_11 : decode cX10_led 11 = .ok (.iload_n 3, 1) := by decide +kernel
theorem dX10_led_12 : decode cX10_led 12 = .ok (.aload_n 0, 1) := by decide +kernel
theorem dX10_led_13 : decode cX10_led 13 = .ok (.getfield 47, 3) := by decide +kernel
theorem dX10_led_16 : decode cX10_led 16 = .ok (.getfield 274, 3) := by decide +kernel
theorem dX10_led_19 : decode cX10_led 19 = .ok (.if_icmp .ge 27, 3) := by decide +kernel
theorem dX10_led_22 : decode cX10_led 22 = .ok (.aload_n 0, 1) := by decide +kernel
theorem dX10_led_23 : decode cX10_led 23 = .ok (.iload_n 3, 1) := by decide +kernel
theorem dX10_led_24 : decode cX10_led 24 = .ok (.invokevirtual 277, 3) := by decide +kernel
theorem dX10_led_27 : decode cX10_led 27 = .ok (.ifCond .ne 13, 3) := by decide +kernel
theorem dX10_led_30 : decode cX10_led 30 = .ok (.iload_n 2, 1) := by decide +kernel
theorem dX10_led_31 : decode cX10_led 31 = .ok (.iload_n 1, 1) := by decide +kernel
theorem dX10_led_32 : decode cX10_led 32 = .ok (.if_icmp .ne 5, 3) := by decide +kernel
theorem dX10_led_35 : decode cX10_led 35 = .ok (.iload_n 3, 1) := by decide +kernel
theorem dX10_led_36 : decode cX10_led 36 = .ok (.ireturn, 1) := by decide +kernel
theorem dX10_led_37 : decode cX10_led 37 = .ok (.iinc 2 1, 3) := by decide +kernel
theorem dX10_led_40 : decode cX10_led 40 = .ok (.iinc 3 1, 3) := by decide +kernel
theorem dX10_led_43 : decode cX10_led 43 = .ok (.goto (-39), 3) := by decide +kernel
theorem dX10_led_46 : decode cX10_led 46 = .ok (.new 333, 3) := by decide +kernel
theorem dX10_led_49 : decode cX10_led 49 = .ok (.dup, 1) := by decide +kernel
theorem dX10_led_50 : decode cX10_led 50 = .ok (.ldc_w 335, 3) := by decide +kernel
theorem dX10_led_53 : decode cX10_led 53 = .ok (.invokespecial 337, 3) := by decide +kernel
theorem dX10_led_56 : decode cX10_led 56 = .ok (.athrow, 1) := by decide +kernel
theorem dX10_size_0 : decode cX10_size 0 = .ok (.iload_n 1, 1) := by decide +kernel
theorem dX10_size_1 : decode cX10_size 1 = .ok (.ifCond .lt 9, 3) := by decide +kernel
theorem dX10_size_4 : decode cX10_size 4 = .ok (.iload_n 1, 1) := by decide +kernel
theorem dX10_size_5 : decode cX10_size 5 = .ok (.bipush 12, 2) := by decide +kernel
theorem dX10_size_7 : decode cX10_size 7 = .ok (.if_icmp .le 5, 3) := by decide +kernel
theorem dX10_size_10 : decode cX10_size 10 = .ok (.iconst (-1), 1) := by decide +kernel
theorem dX10_size_11 : decode cX10_size 11 = .ok (.ireturn, 1) := by decide +kernel
theorem dX10_size_12 : decode cX10_size 12 = .ok (.iload_n 1, 1) := by decide +kernel
theorem dX10_size_13 : decode cX10_size 13 = .ok (.bipush 12, 2) := by decide +kernel
theorem dX10_size_15 : decode cX10_size 15 = .ok (.if_icmp .ne 11, 3) := by decide +kernel
theorem dX10_size_18 : decode cX10_size 18 = .ok (.aload_n 0, 1) := by decide +kernel
theorem dX10_size_19 : decode cX10_size 19 = .ok (.getfield 12, 3) := by decide +kernel
theorem dX10_size_22 : decode cX10_size 22 = .ok (.invokevirtual 78, 3) := by decide +kernel
theorem dX10_size_25 : decode cX10_size 25 = .ok (.ireturn, 1) := by decide +kernel
theorem dX10_size_26 : decode cX10_size 26 = .ok (.aload_n 0, 1) := by decide +kernel
theorem dX10_size_27 : decode cX10_size 27 = .ok (.getfield 106, 3) := by decide +kernel
theorem dX10_size_30 : decode cX10_size 30 = .ok (.ifCond .ne 5, 3) := by decide +kernel
theorem dX10_size_33 : decode cX10_size 33 = .ok (.iconst 0, 1) := by decide +kernel
theorem dX10_size_34 : decode cX10_size 34 = .ok (.ireturn, 1) := by decide +kernel
theorem dX10_size_35 : decode cX10_size 35 = .ok (.iload_n 1, 1) := by decide +kernel
theorem dX10_size_36 : decode cX10_size 36 = .ok (.tableswitch 61 8 11 #[32, 40, 45, 53], 32) := by decide +kernel
theorem dX10_size_68 : decode cX10_size 68 = .ok (.aload_n 0, 1) := by decide +kernel
theorem dX10_size_69 : decode cX10_size 69 = .ok (.getfield 120, 3) := by decide +kernel
theorem dX10_size_72 : decode cX10_size 72 = .ok (.invokestatic 129, 3) := by decide +kernel
theorem dX10_size_75 : decode cX10_size 75 = .ok (.ireturn, 1) := by decide +kernel
theorem dX10_size_76 : decode cX10_size 76 = .ok (.aload_n 0, 1) := by decide +kernel
theorem dX10_size_77 : decode cX10_size 77 = .ok (.getfield 123, 3) := by decide +kernel
theorem dX10_size_80 : decode cX10_size 80 = .ok (.ireturn, 1) := by decide +kernel
theorem dX10_size_81 : decode cX10_size 81 = .ok (.aload_n 0, 1) := by decide +kernel
theorem dX10_size_82 : decode cX10_size 82 = .ok (.getfield 33, 3) := by decide +kernel
theorem dX10_size_85 : decode cX10_size 85 = .ok (.invokevirtual 306, 3) := by decide +kernel
theorem dX10_size_88 : decode cX10_size 88 = .ok (.ireturn, 1) := by decide +kernel
theorem dX10_size_89 : decode cX10_size 89 = .ok (.aload_n 0, 1) := by decide +kernel
theorem dX10_size_90 : decode cX10_size 90 = .ok (.getfield 33, 3) := by decide +kernel
theorem dX10_size_93 : decode cX10_size 93 = .ok (.invokevirtual 340, 3) := by decide +kernel
theorem dX10_size_96 : decode cX10_size 96 = .ok (.ireturn, 1) := by decide +kernel
theorem dX10_size_97 : decode cX10_size 97 = .ok (.aload_n 0, 1) := by decide +kernel
theorem dX10_size_98 : decode cX10_size 98 = .ok (.getfield 47, 3) := by decide +kernel
theorem dX10_size_101 : decode cX10_size 101 = .ok (.iload_n 1, 1) := by decide +kernel
theorem dX10_size_102 : decode cX10_size 102 = .ok (.invokevirtual 343, 3) := by decide +kernel
theorem dX10_size_105 : decode cX10_size 105 = .ok (.ireturn, 1) := by decide +kernel
theorem dX10_trouble_0 : decode cX10_trouble 0 = .ok (.aload_n 0, 1) := by decide +kernel
theorem dX10_trouble_1 : decode cX10_trouble 1 = .ok (.getfield 138, 3) := by decide +kernel
theorem dX10_trouble_4 : decode cX10_trouble 4 = .ok (.ireturn, 1) := by decide +kernel
theorem dX10_answer_0 : decode cX10_answer 0 = .ok (.aload_n 0, 1) := by decide +kernel
theorem dX10_answer_1 : decode cX10_answer 1 = .ok (.iconst 0, 1) := by decide +kernel
theorem dX10_answer_2 : decode cX10_answer 2 = .ok (.putfield 138, 3) := by decide +kernel
theorem dX10_answer_5 : decode cX10_answer 5 = .ok (.iload_n 1, 1) := by decide +kernel
theorem dX10_answer_6 : decode cX10_answer 6 = .ok (.ireturn, 1) := by decide +kernel
theorem dX10_refuse_0 : decode cX10_refuse 0 = .ok (.aload_n 0, 1) := by decide +kernel
theorem dX10_refuse_1 : decode cX10_refuse 1 = .ok (.iload_n 1, 1) := by decide +kernel
theorem dX10_refuse_2 : decode cX10_refuse 2 = .ok (.putfield 138, 3) := by decide +kernel
theorem dX10_refuse_5 : decode cX10_refuse 5 = .ok (.iconst (-1), 1) := by decide +kernel
theorem dX10_refuse_6 : decode cX10_refuse 6 = .ok (.ireturn, 1) := by decide +kernel
theorem dX10_accepted_0 : decode cX10_accepted 0 = .ok (.aload_n 0, 1) := by decide +kernel
theorem dX10_accepted_1 : decode cX10_accepted 1 = .ok (.iconst 0, 1) := by decide +kernel
theorem dX10_accepted_2 : decode cX10_accepted 2 = .ok (.putfield 138, 3) := by decide +kernel
theorem dX10_accepted_5 : decode cX10_accepted 5 = .ok (.iconst 1, 1) := by decide +kernel
theorem dX10_accepted_6 : decode cX10_accepted 6 = .ok (.ireturn, 1) := by decide +kernel
theorem dX10_rejected_0 : decode cX10_rejected 0 = .ok (.aload_n 0, 1) := by decide +kernel
theorem dX10_rejected_1 : decode cX10_rejected 1 = .ok (.iload_n 1, 1) := by decide +kernel
theorem dX10_rejected_2 : decode cX10_rejected 2 = .ok (.putfield 138, 3) := by decide +kernel
theorem dX10_rejected_5 : decode cX10_rejected 5 = .ok (.iconst 0, 1) := by decide +kernel
theorem dX10_rejected_6 : decode cX10_rejected 6 = .ok (.ireturn, 1) := by decide +kernel
theorem dX10_isCell_0 : decode cX10_isCell 0 = .ok (.aload_n 0, 1) := by decide +kernel
theorem dX10_isCell_1 : decode cX10_isCell 1 = .ok (.getfield 106, 3) := by decide +kernel
theorem dX10_isCell_4 : decode cX10_isCell 4 = .ok (.ifCond .eq 22, 3) := by decide +kernel
theorem dX10_isCell_7 : decode cX10_isCell 7 = .ok (.aload_n 0, 1) := by decide +kernel
theorem dX10_isCell_8 : decode cX10_isCell 8 = .ok (.getfield 47, 3) := by decide +kernel
theorem dX10_isCell_11 : decode cX10_isCell 11 = .ok (.getfield 148, 3) := by decide +kernel
theorem dX10_isCell_14 : decode cX10_isCell 14 = .ok (.iload_n 1, 1) := by decide +kernel
theorem dX10_isCell_15 : decode cX10_isCell 15 = .ok (.iload_n 2, 1) := by decide +kernel
theorem dX10_isCell_16 : decode cX10_isCell 16 = .ok (.invokevirtual 346, 3) := by decide +kernel
theorem dX10_isCell_19 : decode cX10_isCell 19 = .ok (.ifCond .eq 7, 3) := by decide +kernel
theorem dX10_isCell_22 : decode cX10_isCell 22 = .ok (.iconst 1, 1) := by decide +kernel
theorem dX10_isCell_23 : decode cX10_isCell 23 = .ok (.goto 4, 3) := by decide +kernel
theorem dX10_isCell_26 : decode cX10_isCell 26 = .ok (.iconst 0, 1) := by decide +kernel
theorem dX10_isCell_27 : decode cX10_isCell 27 = .ok (.ireturn, 1) := by decide +kernel
theorem dX10_isNumber_0 : decode cX10_isNumber 0 = .ok (.aload_n 0, 1) := by decide +kernel
theorem dX10_isNumber_1 : decode cX10_isNumber 1 = .ok (.getfield 106, 3) := by decide +kernel
theorem dX10_isNumber_4 : decode cX10_isNumber 4 = .ok (.ifCond .eq 25, 3) := by decide +kernel
theorem dX10_isNumber_7 : decode cX10_isNumber 7 = .ok (.iload_n 1, 1) := by decide +kernel
theorem dX10_isNumber_8 : decode cX10_isNumber 8 = .ok (.ifCond .lt 21, 3) := by decide +kernel
theorem dX10_isNumber_11 : decode cX10_isNumber 11 = .ok (.iload_n 1, 1) := by decide +kernel
theorem dX10_isNumber_12 : decode cX10_isNumber 12 = .ok (.aload_n 0, 1) := by decide +kernel
theorem dX10_isNumber_13 : decode cX10_isNumber 13 = .ok (.getfield 47, 3) := by decide +kernel
theorem dX10_isNumber_16 : decode cX10_isNumber 16 = .ok (.getfield 148, 3) := by decide +kernel
theorem dX10_isNumber_19 : decode cX10_isNumber 19 = .ok (.getfield 349, 3) := by decide +kernel
theorem dX10_isNumber_22 : decode cX10_isNumber 22 = .ok (.if_icmp .ge 7, 3) := by decide +kernel
theorem dX10_isNumber_25 : decode cX10_isNumber 25 = .ok (.iconst 1, 1) := by decide +kernel
theorem dX10_isNumber_26 : decode cX10_isNumber 26 = .ok (.goto 4, 3) := by decide +kernel
theorem dX10_isNumber_29 : decode cX10_isNumber 29 = .ok (.iconst 0, 1) := by decide +kernel
theorem dX10_isNumber_30 : decode cX10_isNumber 30 = .ok (.ireturn, 1) := by decide +kernel
theorem dX10_isWalker_0 : decode cX10_isWalker 0 = .ok (.aload_n 0, 1) := by decide +kernel
theorem dX10_isWalker_1 : decode cX10_isWalker 1 = .ok (.getfield 106, 3) := by decide +kernel
theorem dX10_isWalker_4 : decode cX10_isWalker 4 = .ok (.ifCond .eq 22, 3) := by decide +kernel
theorem dX10_isWalker_7 : decode cX10_isWalker 7 = .ok (.iload_n 1, 1) := by decide +kernel
theorem dX10_isWalker_8 : decode cX10_isWalker 8 = .ok (.ifCond .lt 18, 3) := by decide +kernel
theorem dX10_isWalker_11 : decode cX10_isWalker 11 = .ok (.iload_n 1, 1) := by decide +kernel
theorem dX10_isWalker_12 : decode cX10_isWalker 12 = .ok (.aload_n 0, 1) := by decide +kernel
theorem dX10_isWalker_13 : decode cX10_isWalker 13 = .ok (.getfield 47, 3) := by decide +kernel
theorem dX10_isWalker_16 : decode cX10_isWalker 16 = .ok (.getfield 223, 3) := by decide +kernel
theorem dX10_isWalker_19 : decode cX10_isWalker 19 = .ok (.if_icmp .ge 7, 3) := by decide +kernel
theorem dX10_isWalker_22 : decode cX10_isWalker 22 = .ok (.iconst 1, 1) := by decide +kernel
theorem dX10_isWalker_23 : decode cX10_isWalker 23 = .ok (.goto 4, 3) := by decide +kernel
theorem dX10_isWalker_26 : decode cX10_isWalker 26 = .ok (.iconst 0, 1) := by decide +kernel
theorem dX10_isWalker_27 : decode cX10_isWalker 27 = .ok (.ireturn, 1) := by decide +kernel
theorem dX10_isMinute_0 : decode cX10_isMinute 0 = .ok (.iload_n 1, 1) := by decide +kernel
theorem dX10_isMinute_1 : decode cX10_isMinute 1 = .ok (.ifCond .lt 18, 3) := by decide +kernel
theorem dX10_isMinute_4 : decode cX10_isMinute 4 = .ok (.iload_n 1, 1) := by decide +kernel
theorem dX10_isMinute_5 : decode cX10_isMinute 5 = .ok (.aload_n 0, 1) := by decide +kernel
theorem dX10_isMinute_6 : decode cX10_isMinute 6 = .ok (.getfield 47, 3) := by decide +kernel
theorem dX10_isMinute_9 : decode cX10_isMinute 9 = .ok (.getfield 214, 3) := by decide +kernel
theorem dX10_isMinute_12 : decode cX10_isMinute 12 = .ok (.if_icmp .gt 7, 3) := by decide +kernel
theorem dX10_isMinute_15 : decode cX10_isMinute 15 = .ok (.iconst 1, 1) := by decide +kernel
theorem dX10_isMinute_16 : decode cX10_isMinute 16 = .ok (.goto 4, 3) := by decide +kernel
theorem dX10_isMinute_19 : decode cX10_isMinute 19 = .ok (.iconst 0, 1) := by decide +kernel
theorem dX10_isMinute_20 : decode cX10_isMinute 20 = .ok (.ireturn, 1) := by decide +kernel
theorem dX10_isMown_0 : decode cX10_isMown 0 = .ok (.aload_n 0, 1) := by decide +kernel
theorem dX10_isMown_1 : decode cX10_isMown 1 = .ok (.getfield 120, 3) := by decide +kernel
theorem dX10_isMown_4 : decode cX10_isMown 4 = .ok (.aload_n 0, 1) := by decide +kernel
theorem dX10_isMown_5 : decode cX10_isMown 5 = .ok (.getfield 47, 3) := by decide +kernel
theorem dX10_isMown_8 : decode cX10_isMown 8 = .ok (.getfield 148, 3) := by decide +kernel
theorem dX10_isMown_11 : decode cX10_isMown 11 = .ok (.iload_n 1, 1) := by decide +kernel
theorem dX10_isMown_12 : decode cX10_isMown 12 = .ok (.iload_n 2, 1) := by decide +kernel
theorem dX10_isMown_13 : decode cX10_isMown 13 = .ok (.invokevirtual 152, 3) := by decide +kernel
theorem dX10_isMown_16 : decode cX10_isMown 16 = .ok (.invokestatic 352, 3) := by decide +kernel
theorem dX10_isMown_19 : decode cX10_isMown 19 = .ok (.ireturn, 1) := by decide +kernel
theorem dX10_goesByLot_0 : decode cX10_goesByLot 0 = .ok (.aload_n 0, 1) := by decide +kernel
theorem dX10_goesByLot_1 : decode cX10_goesByLot 1 = .ok (.getfield 47, 3) := by decide +kernel
theorem dX10_goesByLot_4 : decode cX10_goesByLot 4 = .ok (.iload_n 1, 1) := by decide +kernel
theorem dX10_goesByLot_5 : decode cX10_goesByLot 5 = .ok (.invokevirtual 355, 3) := by decide +kernel
theorem dX10_goesByLot_8 : decode cX10_goesByLot 8 = .ok (.getfield 359, 3) := by decide +kernel
theorem dX10_goesByLot_11 : decode cX10_goesByLot 11 = .ok (.iconst 4, 1) := by decide +kernel
theorem dX10_goesByLot_12 : decode cX10_goesByLot 12 = .ok (.if_icmp .ne 7, 3) := by decide +kernel
theorem dX10_goesByLot_15 : decode cX10_goesByLot 15 = .ok (.iconst 1, 1) := by decide +kernel
theorem dX10_goesByLot_16 : decode cX10_goesByLot 16 = .ok (.goto 4, 3) := by decide +kernel
theorem dX10_goesByLot_19 : decode cX10_goesByLot 19 = .ok (.iconst 0, 1) := by decide +kernel
theorem dX10_goesByLot_20 : decode cX10_goesByLot 20 = .ok (.ireturn, 1) := by decide +kernel
theorem dX10_act_0 : decode cX10_act 0 = .ok (.aload_n 0, 1) := by decide +kernel
theorem dX10_act_1 : decode cX10_act 1 = .ok (.getfield 33, 3) := by decide +kernel
theorem dX10_act_4 : decode cX10_act 4 = .ok (.aload_n 0, 1) := by decide +kernel
theorem dX10_act_5 : decode cX10_act 5 = .ok (.getfield 120, 3) := by decide +kernel
theorem dX10_act_8 : decode cX10_act 8 = .ok (.aload_n 0, 1) := by decide +kernel
theorem dX10_act_9 : decode cX10_act 9 = .ok (.getfield 123, 3) := by decide +kernel
theorem dX10_act_12 : decode cX10_act 12 = .ok (.invokevirtual 364, 3) := by decide +kernel
theorem dX10_act_15 : decode cX10_act 15 = .ok (.aload_n 0, 1) := by decide +kernel
theorem dX10_act_16 : decode cX10_act 16 = .ok (.lload_n 1, 1) := by decide +kernel
theorem dX10_act_17 : decode cX10_act 17 = .ok (.putfield 120, 3) := by decide +kernel
theorem dX10_act_20 : decode cX10_act 20 = .ok (.return_, 1) := by decide +kernel
theorem dX10_weekLater_0 : decode cX10_weekLater 0 = .ok (.aload_n 0, 1) := by decide +kernel
theorem dX10_weekLater_1 : decode cX10_weekLater 1 = .ok (.getfield 47, 3) := by decide +kernel
theorem dX10_weekLater_4 : decode cX10_weekLater 4 = .ok (.getfield 148, 3) := by decide +kernel
theorem dX10_weekLater_7 : decode cX10_weekLater 7 = .ok (.lload_n 1, 1) := by decide +kernel
theorem dX10_weekLater_8 : decode cX10_weekLater 8 = .ok (.aload_n 0, 1) := by decide +kernel
theorem dX10_weekLater_9 : decode cX10_weekLater 9 = .ok (.getfield 47, 3) := by decide +kernel
theorem dX10_weekLater_12 : decode cX10_weekLater 12 = .ok (.getfield 264, 3) := by decide +kernel
theorem dX10_weekLater_15 : decode cX10_weekLater 15 = .ok (.aload_n 0, 1) := by decide +kernel
theorem dX10_weekLater_16 : decode cX10_weekLater 16 = .ok (.getfield 47, 3) := by decide +kernel
theorem dX10_weekLater_19 : decode cX10_weekLater 19 = .ok (.getfield 368, 3) := by decide +kernel
theorem dX10_weekLater_22 : decode cX10_weekLater 22 = .ok (.invokevirtual 371, 3) := by decide +kernel
theorem dX10_weekLater_25 : decode cX10_weekLater 25 = .ok (.lreturn, 1) := by decide +kernel
theorem dX10_isGateSeen_0 : decode cX10_isGateSeen 0 = .ok (.aload_n 0, 1) := by decide +kernel
theorem dX10_isGateSeen_1 : decode cX10_isGateSeen 1 = .ok (.getfield 47, 3) := by decide +kernel
theorem dX10_isGateSeen_4 : decode cX10_isGateSeen 4 = .ok (.getfield 148, 3) := by decide +kernel
theorem dX10_isGateSeen_7 : decode cX10_isGateSeen 7 = .ok (.aload_n 0, 1) := by decide +kernel
theorem dX10_isGateSeen_8 : decode cX10_isGateSeen 8 = .ok (.getfield 120, 3) := by decide +kernel
theorem dX10_isGateSeen_11 : decode cX10_isGateSeen 11 = .ok (.aload_n 0, 1) := by decide +kernel
theorem dX10_isGateSeen_12 : decode cX10_isGateSeen 12 = .ok (.getfield 47, 3) := by decide +kernel
theorem dX10_isGateSeen_15 : decode cX10_isGateSeen 15 = .ok (.iload_n 1, 1) := by decide +kernel
theorem dX10_isGateSeen_16 : decode cX10_isGateSeen 16 = .ok (.invokevirtual 374, 3) := by decide +kernel
theorem dX10_isGateSeen_19 : decode cX10_isGateSeen 19 = .ok (.invokevirtual 271, 3) := by decide +kernel
theorem dX10_isGateSeen_22 : decode cX10_isGateSeen 22 = .ok (.ifCond .eq 7, 3) := by decide +kernel
theorem dX10_isGateSeen_25 : decode cX10_isGateSeen 25 = .ok (.iconst 1, 1) := by decide +kernel
theorem dX10_isGateSeen_26 : decode cX10_isGateSeen 26 = .ok (.goto 4, 3) := by decide +kernel
theorem dX10_isGateSeen_29 : decode cX10_isGateSeen 29 = .ok (.iconst 0, 1) := by decide +kernel
theorem dX10_isGateSeen_30 : decode cX10_isGateSeen 30 = .ok (.ireturn, 1) := by decide +kernel
theorem dX10_unlikeCells_0 : decode cX10_unlikeCells 0 = .ok (.iload_n 1, 1) := by decide +kernel
theorem dX10_unlikeCells_1 : decode cX10_unlikeCells 1 = .ok (.ifCond .eq 13, 3) := by decide +kernel
theorem dX10_unlikeCells_4 : decode cX10_unlikeCells 4 = .ok (.aload_n 0, 1) := by decide +kernel
theorem dX10_unlikeCells_5 : decode cX10_unlikeCells 5 = .ok (.getfield 47, 3) := by decide +kernel
theorem dX10_unlikeCells_8 : decode cX10_unlikeCells 8 = .ok (.getfield 377, 3) := by decide +kernel
theorem dX10_unlikeCells_11 : decode cX10_unlikeCells 11 = .ok (.goto 10, 3) := by decide +kernel
theorem dX10_unlikeCells_14 : decode cX10_unlikeCells 14 = .ok (.aload_n 0, 1) := by decide +kernel
theorem dX10_unlikeCells_15 : decode cX10_unlikeCells 15 = .ok (.getfield 47, 3) := by decide +kernel
theorem dX10_unlikeCells_18 : decode cX10_unlikeCells 18 = .ok (.getfield 380, 3) := by decide +kernel
theorem dX10_unlikeCells_21 : decode cX10_unlikeCells 21 = .ok (.aload_n 0, 1) := by decide +kernel
theorem dX10_unlikeCells_22 : decode cX10_unlikeCells 22 = .ok (.getfield 120, 3) := by decide +kernel
theorem dX10_unlikeCells_25 : decode cX10_unlikeCells 25 = .ok (.invokevirtual 383, 3) := by decide +kernel
theorem dX10_unlikeCells_28 : decode cX10_unlikeCells 28 = .ok (.lreturn, 1) := by decide +kernel
theorem dX10_clashingCells_0 : decode cX10_clashingCells 0 = .ok (.aload_n 0, 1) := by decide +kernel
theorem dX10_clashingCells_1 : decode cX10_clashingCells 1 = .ok (.getfield 47, 3) := by decide +kernel
theorem dX10_clashingCells_4 : decode cX10_clashingCells 4 = .ok (.getfield 380, 3) := by decide +kernel
theorem dX10_clashingCells_7 : decode cX10_clashingCells 7 = .ok (.getfield 114, 3) := by decide +kernel
theorem dX10_clashingCells_10 : decode cX10_clashingCells 10 = .ok (.aload_n 0, 1) := by decide +kernel
theorem dX10_clashingCells_11 : decode cX10_clashingCells 11 = .ok (.getfield 47, 3) := by decide +kernel
theorem dX10_clashingCells_14 : decode cX10_clashingCells 14 = .ok (.getfield 377, 3) := by decide +kernel
theorem dX10_clashingCells_17 : decode cX10_clashingCells 17 = .ok (.getfield 386, 3) := by decide +kernel
theorem dX10_clashingCells_20 : decode cX10_clashingCells 20 = .ok (.land, 1) := by decide +kernel
theorem dX10_clashingCells_21 : decode cX10_clashingCells 21 = .ok (.aload_n 0, 1) := by decide +kernel
theorem dX10_clashingCells_22 : decode cX10_clashingCells 22 = .ok (.getfield 47, 3) := by decide +kernel
theorem dX10_clashingCells_25 : decode cX10_clashingCells 25 = .ok (.getfield 380, 3) := by decide +kernel
theorem dX10_clashingCells_28 : decode cX10_clashingCells 28 = .ok (.getfield 386, 3) := by decide +kernel
theorem dX10_clashingCells_31 : decode cX10_clashingCells 31 = .ok (.aload_n 0, 1) := by decide +kernel
theorem dX10_clashingCells_32 : decode cX10_clashingCells 32 = .ok (.getfield 47, 3) := by decide +kernel
theorem dX10_clashingCells_35 : decode cX10_clashingCells 35 = .ok (.getfield 377, 3) := by decide +kernel
theorem dX10_clashingCells_38 : decode cX10_clashingCells 38 = .ok (.getfield 114, 3) := by decide +kernel
theorem dX10_clashingCells_41 : decode cX10_clashingCells 41 = .ok (.land, 1) := by decide +kernel
theorem dX10_clashingCells_42 : decode cX10_clashingCells 42 = .ok (.lor, 1) := by decide +kernel
theorem dX10_clashingCells_43 : decode cX10_clashingCells 43 = .ok (.lreturn, 1) := by decide +kernel
theorem dX10_cellsToMow_0 : decode cX10_cellsToMow 0 = .ok (.aload_n 0, 1) := by decide +kernel
theorem dX10_cellsToMow_1 : decode cX10_cellsToMow 1 = .ok (.getfield 47, 3) := by decide +kernel
theorem dX10_cellsToMow_4 : decode cX10_cellsToMow 4 = .ok (.getfield 380, 3) := by decide +kernel
theorem dX10_cellsToMow_7 : decode cX10_cellsToMow 7 = .ok (.getfield 114, 3) := by decide +kernel
theorem dX10_cellsToMow_10 : decode cX10_cellsToMow 10 = .ok (.aload_n 0, 1) := by decide +kernel
theorem dX10_cellsToMow_11 : decode cX10_cellsToMow 11 = .ok (.getfield 120, 3) := by decide +kernel
theorem dX10_cellsToMow_14 : decode cX10_cellsToMow 14 = .ok (.ldc2_w 244, 3) := by decide +kernel
theorem dX10_cellsToMow_17 : decode cX10_cellsToMow 17 = .ok (.lxor, 1) := by decide +kernel
theorem dX10_cellsToMow_18 : decode cX10_cellsToMow 18 = .ok (.land, 1) := by decide +kernel
theorem dX10_cellsToMow_19 : decode cX10_cellsToMow 19 = .ok (.lreturn, 1) := by decide +kernel
theorem dX10_placesByShouts_0 : decode cX10_placesByShouts 0 = .ok (.aload_n 0, 1) := by decide +kernel
theorem dX10_placesByShouts_1 : decode cX10_placesByShouts 1 = .ok (.getfield 120, 3) := by decide +kernel
theorem dX10_placesByShouts_4 : decode cX10_placesByShouts 4 = .ok (.lstore_n 1, 1) := by decide +kernel
theorem dX10_placesByShouts_5 : decode cX10_placesByShouts 5 = .ok (.iconst 0, 1) := by decide +kernel
theorem dX10_placesByShouts_6 : decode cX10_placesByShouts 6 = .ok (.istore_n 3, 1) := by decide +kernel
theorem dX10_placesByShouts_7 : decode cX10_placesByShouts 7 = .ok (.iload_n 3, 1) := by decide +kernel
theorem dX10_placesByShouts_8 : decode cX10_placesByShouts 8 = .ok (.aload_n 0, 1) := by decide +kernel
theorem dX10_placesByShouts_9 : decode cX10_placesByShouts 9 = .ok (.getfield 47, 3) := by decide +kernel
theorem dX10_placesByShouts_12 : decode cX10_placesByShouts 12 = .ok (.getfield 389, 3) := by decide +kernel
theorem dX10_placesByShouts_15 : decode cX10_placesByShouts 15 = .ok (.if_icmp .ge 42, 3) := by decide +kernel
theorem dX10_placesByShouts_18 : decode cX10_placesByShouts 18 = .ok (.lload_n 1, 1) := by decide +kernel
theorem dX10_placesByShouts_19 : decode cX10_placesByShouts 19 = .ok (.aload_n 0, 1) := by decide +kernel
theorem dX10_placesByShouts_20 : decode cX10_placesByShouts 20 = .ok (.getfield 47, 3) := by decide +kernel
theorem dX10_placesByShouts_23 : decode cX10_placesByShouts 23 = .ok (.getfield 148, 3) := by decide +kernel
theorem dX10_placesByShouts_26 : decode cX10_placesByShouts 26 = .ok (.aload_n 0, 1) := by decide +kernel
theorem dX10_placesByShouts_27 : decode cX10_placesByShouts 27 = .ok (.getfield 120, 3) := by decide +kernel
theorem dX10_placesByShouts_30 : decode cX10_placesByShouts 30 = .ok (.aload_n 0, 1) := by decide +kernel
theorem dX10_placesByShouts_31 : decode cX10_placesByShouts 31 = .ok (.getfield 47, 3) := by decide +kernel
theorem dX10_placesByShouts_34 : decode cX10_placesByShouts 34 = .ok (.iload_n 3, 1) := by decide +kernel
theorem dX10_placesByShouts_35 : decode cX10_placesByShouts 35 = .ok (.invokevirtual 392, 3) := by decide +kernel
theorem dX10_placesByShouts_38 : decode cX10_placesByShouts 38 = .ok (.aload_n 0, 1) := by decide +kernel
theorem dX10_placesByShouts_39 : decode cX10_placesByShouts 39 = .ok (.getfield 47, 3) := by decide +kernel
theorem dX10_placesByShouts_42 : decode cX10_placesByShouts 42 = .ok (.iload_n 3, 1) := by decide +kernel
theorem dX10_placesByShouts_43 : decode cX10_placesByShouts 43 = .ok (.invokevirtual 395, 3) := by decide +kernel
theorem dX10_placesByShouts_46 : decode cX10_placesByShouts 46 = .ok (.invokevirtual 398, 3) := by decide +kernel
theorem dX10_placesByShouts_49 : decode cX10_placesByShouts 49 = .ok (.land, 1) := by decide +kernel
theorem dX10_placesByShouts_50 : decode cX10_placesByShouts 50 = .ok (.lstore_n 1, 1) := by decide +kernel
theorem dX10_placesByShouts_51 : decode cX10_placesByShouts 51 = .ok (.iinc 3 1, 3) := by decide +kernel
theorem dX10_placesByShouts_54 : decode cX10_placesByShouts 54 = .ok (.goto (-47), 3) := by decide +kernel
theorem dX10_placesByShouts_57 : decode cX10_placesByShouts 57 = .ok (.lload_n 1, 1) := by decide +kernel
theorem dX10_placesByShouts_58 : decode cX10_placesByShouts 58 = .ok (.lreturn, 1) := by decide +kernel
theorem dX10_cellsToThin_0 : decode cX10_cellsToThin 0 = .ok (.lconst 0, 1) := by decide +kernel
theorem dX10_cellsToThin_1 : decode cX10_cellsToThin 1 = .ok (.lstore_n 1, 1) := by decide +kernel
theorem dX10_cellsToThin_2 : decode cX10_cellsToThin 2 = .ok (.aload_n 0, 1) := by decide +kernel
theorem dX10_cellsToThin_3 : decode cX10_cellsToThin 3 = .ok (.getfield 120, 3) := by decide +kernel
theorem dX10_cellsToThin_6 : decode cX10_cellsToThin 6 = .ok (.aload_n 0, 1) := by decide +kernel
theorem dX10_cellsToThin_7 : decode cX10_cellsToThin 7 = .ok (.getfield 47, 3) := by decide +kernel
theorem dX10_cellsToThin_10 : decode cX10_cellsToThin 10 = .ok (.getfield 264, 3) := by decide +kernel
theorem dX10_cellsToThin_13 : decode cX10_cellsToThin 13 = .ok (.ldc2_w 244, 3) := by decide +kernel
theorem dX10_cellsToThin_16 : decode cX10_cellsToThin 16 = .ok (.lxor, 1) := by decide +kernel
theorem dX10_cellsToThin_17 : decode cX10_cellsToThin 17 = .ok (.land, 1) := by decide +kernel
theorem dX10_cellsToThin_18 : decode cX10_cellsToThin 18 = .ok (.aload_n 0, 1) := by decide +kernel
theorem dX10_cellsToThin_19 : decode cX10_cellsToThin 19 = .ok (.getfield 47, 3) := by decide +kernel
theorem dX10_cellsToThin_22 : decode cX10_cellsToThin 22 = .ok (.invokevirtual 261, 3) := by decide +kernel
theorem dX10_cellsToThin_25 : decode cX10_cellsToThin 25 = .ok (.ldc2_w 244, 3) := by decide +kernel
theorem dX10_cellsToThin_28 : decode cX10_cellsToThin 28 = .ok (.lxor, 1) := by decide +kernel
theorem dX10_cellsToThin_29 : decode cX10_cellsToThin 29 = .ok (.land, 1) := by decide +kernel
theorem dX10_cellsToThin_30 : decode cX10_cellsToThin 30 = .ok (.lstore_n 3, 1) := by decide +kernel
theorem dX10_cellsToThin_31 : decode cX10_cellsToThin 31 = .ok (.iconst 0, 1) := by decide +kernel
theorem dX10_cellsToThin_32 : decode cX10_cellsToThin 32 = .ok (.istore 5, 2) := by decide +kernel
theorem dX10_cellsToThin_34 : decode cX10_cellsToThin 34 = .ok (.iload 5, 2) := by decide +kernel
theorem dX10_cellsToThin_36 : decode cX10_cellsToThin 36 = .ok (.aload_n 0, 1) := by decide +kernel
theorem dX10_cellsToThin_37 : decode cX10_cellsToThin 37 = .ok (.getfield 47, 3) := by decide +kernel
theorem dX10_cellsToThin_40 : decode cX10_cellsToThin 40 = .ok (.getfield 148, 3) := by decide +kernel
theorem dX10_cellsToThin_43 : decode cX10_cellsToThin 43 = .ok (.getfield 349, 3) := by decide +kernel
theorem dX10_cellsToThin_46 : decode cX10_cellsToThin 46 = .ok (.if_icmp .ge 65, 3) := by decide +kernel
theorem dX10_cellsToThin_49 : decode cX10_cellsToThin 49 = .ok (.lload_n 3, 1) := by decide +kernel
theorem dX10_cellsToThin_50 : decode cX10_cellsToThin 50 = .ok (.iload 5, 2) := by decide +kernel
theorem dX10_cellsToThin_52 : decode cX10_cellsToThin 52 = .ok (.invokestatic 352, 3) := by decide +kernel
theorem dX10_cellsToThin_55 : decode cX10_cellsToThin 55 = .ok (.ifCond .eq 50, 3) := by decide +kernel
theorem dX10_cellsToThin_58 : decode cX10_cellsToThin 58 = .ok (.aload_n 0, 1) := by decide +kernel
theorem dX10_cellsToThin_59 : decode cX10_cellsToThin 59 = .ok (.getfield 47, 3) := by decide +kernel
theorem dX10_cellsToThin_62 : decode cX10_cellsToThin 62 = .ok (.getfield 148, 3) := by decide +kernel
theorem dX10_cellsToThin_65 : decode cX10_cellsToThin 65 = .ok (.aload_n 0, 1) := by decide +kernel
theorem dX10_cellsToThin_66 : decode cX10_cellsToThin 66 = .ok (.getfield 120, 3) := by decide +kernel
theorem dX10_cellsToThin_69 : decode cX10_cellsToThin 69 = .ok (.iload 5, 2) := by decide +kernel
theorem dX10_cellsToThin_71 : decode cX10_cellsToThin 71 = .ok (.invokevirtual 158, 3) := by decide +kernel
theorem dX10_cellsToThin_74 : decode cX10_cellsToThin 74 = .ok (.iconst 2, 1) := by decide +kernel
theorem dX10_cellsToThin_75 : decode cX10_cellsToThin 75 = .ok (.if_icmp .lt 30, 3) := by decide +kernel
theorem dX10_cellsToThin_78 : decode cX10_cellsToThin 78 = .ok (.aload_n 0, 1) := by decide +kernel
theorem dX10_cellsToThin_79 : decode cX10_cellsToThin 79 = .ok (.getfield 47, 3) := by decide +kernel
theorem dX10_cellsToThin_82 : decode cX10_cellsToThin 82 = .ok (.getfield 148, 3) := by decide +kernel
theorem dX10_cellsToThin_85 : decode cX10_cellsToThin 85 = .ok (.aload_n 0, 1) := by decide +kernel
theorem dX10_cellsToThin_86 : decode cX10_cellsToThin 86 = .ok (.getfield 120, 3) := by decide +kernel
theorem dX10_cellsToThin_89 : decode cX10_cellsToThin 89 = .ok (.iload 5, 2) := by decide +kernel
theorem dX10_cellsToThin_91 : decode cX10_cellsToThin 91 = .ok (.invokevirtual 181, 3) := by decide +kernel
theorem dX10_cellsToThin_94 : decode cX10_cellsToThin 94 = .ok (.ifCond .ne 11, 3) := by decide +kernel
theorem dX10_cellsToThin_97 : decode cX10_cellsToThin 97 = .ok (.lload_n 1, 1) := by decide +kernel
theorem dX10_cellsToThin_98 : decode cX10_cellsToThin 98 = .ok (.iload 5, 2) := by decide +kernel
theorem dX10_cellsToThin_100 : decode cX10_cellsToThin 100 = .ok (.invokestatic 253, 3) := by decide +kernel
theorem dX10_cellsToThin_103 : decode cX10_cellsToThin 103 = .ok (.lor, 1) := by decide +kernel
theorem dX10_cellsToThin_104 : decode cX10_cellsToThin 104 = .ok (.lstore_n 1, 1) := by decide +kernel
theorem dX10_cellsToThin_105 : decode cX10_cellsToThin 105 = .ok (.iinc 5 1, 3) := by decide +kernel
theorem dX10_cellsToThin_108 : decode cX10_cellsToThin 108 = .ok (.goto (-74), 3) := by decide +kernel
theorem dX10_cellsToThin_111 : decode cX10_cellsToThin 111 = .ok (.lload_n 1, 1) := by decide +kernel
theorem dX10_cellsToThin_112 : decode cX10_cellsToThin 112 = .ok (.lreturn, 1) := by decide +kernel
theorem dX10_bestCell_0 : decode cX10_bestCell 0 = .ok (.aload_n 0, 1) := by decide +kernel
theorem dX10_bestCell_1 : decode cX10_bestCell 1 = .ok (.getfield 47, 3) := by decide +kernel
theorem dX10_bestCell_4 : decode cX10_bestCell 4 = .ok (.getfield 148, 3) := by decide +kernel
theorem dX10_bestCell_7 : decode cX10_bestCell 7 = .ok (.getfield 402, 3) := by decide +kernel
theorem dX10_bestCell_10 : decode cX10_bestCell 10 = .ok (.aload_n 0, 1) := by decide +kernel
theorem dX10_bestCell_11 : decode cX10_bestCell 11 = .ok (.getfield 47, 3) := by decide +kernel
theorem dX10_bestCell_14 : decode cX10_bestCell 14 = .ok (.getfield 264, 3) := by decide +kernel
theorem dX10_bestCell_17 : decode cX10_bestCell 17 = .ok (.ldc2_w 244, 3) := by decide +kernel
theorem dX10_bestCell_20 : decode cX10_bestCell 20 = .ok (.lxor, 1) := by decide +kernel
theorem dX10_bestCell_21 : decode cX10_bestCell 21 = .ok (.land, 1) := by decide +kernel
theorem dX10_bestCell_22 : decode cX10_bestCell 22 = .ok (.aload_n 0, 1) := by decide +kernel
theorem dX10_bestCell_23 : decode cX10_bestCell 23 = .ok (.getfield 47, 3) := by decide +kernel
theorem dX10_bestCell_26 : decode cX10_bestCell 26 = .ok (.invokevirtual 261, 3) := by decide +kernel
theorem dX10_bestCell_29 : decode cX10_bestCell 29 = .ok (.ldc2_w 244, 3) := by decide +kernel
theorem dX10_bestCell_32 : decode cX10_bestCell 32 = .ok (.lxor, 1) := by decide +kernel
theorem dX10_bestCell_33 : decode cX10_bestCell 33 = .ok (.land, 1) := by decide +kernel
theorem dX10_bestCell_34 : decode cX10_bestCell 34 = .ok (.lstore_n 1, 1) := by decide +kernel
theorem dX10_bestCell_35 : decode cX10_bestCell 35 = .ok (.bipush (-2), 2) := by decide +kernel
theorem dX10_bestCell_37 : decode cX10_bestCell 37 = .ok (.istore_n 3, 1) := by decide +kernel
theorem dX10_bestCell_38 : decode cX10_bestCell 38 = .ok (.bipush (-2), 2) := by decide +kernel
theorem dX10_bestCell_40 : decode cX10_bestCell 40 = .ok (.istore 4, 2) := by decide +kernel
theorem dX10_bestCell_42 : decode cX10_bestCell 42 = .ok (.iconst 0, 1) := by decide +kernel
theorem dX10_bestCell_43 : decode cX10_bestCell 43 = .ok (.istore 5, 2) := by decide +kernel
theorem dX10_bestCell_45 : decode cX10_bestCell 45 = .ok (.iload 5, 2) := by decide +kernel
theorem dX10_bestCell_47 : decode cX10_bestCell 47 = .ok (.aload_n 0, 1) := by decide +kernel
theorem dX10_bestCell_48 : decode cX10_bestCell 48 = .ok (.getfield 47, 3) := by decide +kernel
theorem dX10_bestCell_51 : decode cX10_bestCell 51 = .ok (.getfield 148, 3) := by decide +kernel
theorem dX10_bestCell_54 : decode cX10_bestCell 54 = .ok (.getfield 349, 3) := by decide +kernel
theorem dX10_bestCell_57 : decode cX10_bestCell 57 = .ok (.if_icmp .ge 53, 3) := by decide +kernel
theorem dX10_bestCell_60 : decode cX10_bestCell 60 = .ok (.lload_n 1, 1) := by decide +kernel
theorem dX10_bestCell_61 : decode cX10_bestCell 61 = .ok (.iload 5, 2) := by decide +kernel
theorem dX10_bestCell_63 : decode cX10_bestCell 63 = .ok (.invokestatic 352, 3) := by decide +kernel
theorem dX10_bestCell_66 : decode cX10_bestCell 66 = .ok (.ifCond .eq 20, 3) := by decide +kernel
theorem dX10_bestCell_69 : decode cX10_bestCell 69 = .ok (.aload_n 0, 1) := by decide +kernel
theorem dX10_bestCell_70 : decode cX10_bestCell 70 = .ok (.aload_n 0, 1) := by decide +kernel
theorem dX10_bestCell_71 : decode cX10_bestCell 71 = .ok (.getfield 120, 3) := by decide +kernel
theorem dX10_bestCell_74 : decode cX10_bestCell 74 = .ok (.iload 5, 2) := by decide +kernel
theorem dX10_bestCell_76 : decode cX10_bestCell 76 = .ok (.invokestatic 253, 3) := by decide +kernel
theorem dX10_bestCell_79 : decode cX10_bestCell 79 = .ok (.lxor, 1) := by decide +kernel
theorem dX10_bestCell_80 : decode cX10_bestCell 80 = .ok (.invokevirtual 286, 3) := by decide +kernel
theorem dX10_bestCell_83 : decode cX10_bestCell 83 = .ok (.goto 5, 3) := by decide +kernel
theorem dX10_bestCell_86 : decode cX10_bestCell 86 = .ok (.bipush (-2), 2) := by decide +kernel
theorem dX10_bestCell_88 : decode cX10_bestCell 88 = .ok (.istore 6, 2) := by decide +kernel
theorem dX10_bestCell_90 : decode cX10_bestCell 90 = .ok (.iload 6, 2) := by decide +kernel
theorem dX10_bestCell_92 : decode cX10_bestCell 92 = .ok (.iload 4, 2) := by decide +kernel
theorem dX10_bestCell_94 : decode cX10_bestCell 94 = .ok (.if_icmp .le 10, 3) := by decide +kernel
theorem dX10_bestCell_97 : decode cX10_bestCell 97 = .ok (.iload 6, 2) := by decide +kernel
theorem dX10_bestCell_99 : decode cX10_bestCell 99 = .ok (.istore 4, 2) := by decide +kernel
theorem dX10_bestCell_101 : decode cX10_bestCell 101 = .ok (.iload 5, 2) := by decide +kernel
theorem dX10_bestCell_103 : decode cX10_bestCell 103 = .ok (.istore_n 3, 1) := by decide +kernel
theorem dX10_bestCell_104 : decode cX10_bestCell 104 = .ok (.iinc 5 1, 3) := by decide +kernel
theorem dX10_bestCell_107 : decode cX10_bestCell 107 = .ok (.goto (-62), 3) := by decide +kernel
theorem dX10_bestCell_110 : decode cX10_bestCell 110 = .ok (.iload_n 3, 1) := by decide +kernel
theorem dX10_bestCell_111 : decode cX10_bestCell 111 = .ok (.ireturn, 1) := by decide +kernel
theorem dX10_paidIfAllGetOut_0 : decode cX10_paidIfAllGetOut 0 = .ok (.iconst 0, 1) := by decide +kernel
theorem dX10_paidIfAllGetOut_1 : decode cX10_paidIfAllGetOut 1 = .ok (.istore_n 3, 1) := by decide +kernel
theorem dX10_paidIfAllGetOut_2 : decode cX10_paidIfAllGetOut 2 = .ok (.iconst 0, 1) := by decide +kernel
theorem dX10_paidIfAllGetOut_3 : decode cX10_paidIfAllGetOut 3 = .ok (.istore 4, 2) := by decide +kernel
theorem dX10_paidIfAllGetOut_5 : decode cX10_paidIfAllGetOut 5 = .ok (.iload 4, 2) := by decide +kernel
theorem dX10_paidIfAllGetOut_7 : decode cX10_paidIfAllGetOut 7 = .ok (.aload_n 0, 1) := by decide +kernel
theorem dX10_paidIfAllGetOut_8 : decode cX10_paidIfAllGetOut 8 = .ok (.getfield 47, 3) := by decide +kernel
theorem dX10_paidIfAllGetOut_11 : decode cX10_paidIfAllGetOut 11 = .ok (.getfield 223, 3) := by decide +kernel
theorem dX10_paidIfAllGetOut_14 : decode cX10_paidIfAllGetOut 14 = .ok (.if_icmp .ge 52, 3) := by decide +kernel
theorem dX10_paidIfAllGetOut_17 : decode cX10_paidIfAllGetOut 17 = .ok (.aload_n 0, 1) := by decide +kernel
theorem dX10_paidIfAllGetOut_18 : decode cX10_paidIfAllGetOut 18 = .ok (.getfield 59, 3) := by decide +kernel
theorem dX10_paidIfAllGetOut_21 : decode cX10_paidIfAllGetOut 21 = .ok (.aload_n 0, 1) := by decide +kernel
theorem dX10_paidIfAllGetOut_22 : decode cX10_paidIfAllGetOut 22 = .ok (.getfield 47, 3) := by decide +kernel
theorem dX10_paidIfAllGetOut_25 : decode cX10_paidIfAllGetOut 25 = .ok (.iload 4, 2) := by decide +kernel
theorem dX10_paidIfAllGetOut_27 : decode cX10_paidIfAllGetOut 27 = .ok (.lload_n 1, 1) := by decide +kernel
theorem dX10_paidIfAllGetOut_28 : decode cX10_paidIfAllGetOut 28 = .ok (.aload_n 0, 1) := by decide +kernel
theorem dX10_paidIfAllGetOut_29 : decode cX10_paidIfAllGetOut 29 = .ok (.getfield 123, 3) := by decide +kernel
theorem dX10_paidIfAllGetOut_32 : decode cX10_paidIfAllGetOut 32 = .ok (.invokevirtual 191, 3) := by decide +kernel
theorem dX10_paidIfAllGetOut_35 : decode cX10_paidIfAllGetOut 35 = .ok (.aload_n 0, 1) := by decide +kernel
theorem dX10_paidIfAllGetOut_36 : decode cX10_paidIfAllGetOut 36 = .ok (.getfield 59, 3) := by decide +kernel
theorem dX10_paidIfAllGetOut_39 : decode cX10_paidIfAllGetOut 39 = .ok (.invokevirtual 198, 3) := by decide +kernel
theorem dX10_paidIfAllGetOut_42 : decode cX10_paidIfAllGetOut 42 = .ok (.bipush (-2), 2) := by decide +kernel
theorem dX10_paidIfAllGetOut_44 : decode cX10_paidIfAllGetOut 44 = .ok (.if_icmp .ne 6, 3) := by decide +kernel
theorem dX10_paidIfAllGetOut_47 : decode cX10_paidIfAllGetOut 47 = .ok (.bipush (-2), 2) := by decide +kernel
theorem dX10_paidIfAllGetOut_49 : decode cX10_paidIfAllGetOut 49 = .ok (.ireturn, 1) := by decide +kernel
theorem dX10_paidIfAllGetOut_50 : decode cX10_paidIfAllGetOut 50 = .ok (.iload_n 3, 1) := by decide +kernel
theorem dX10_paidIfAllGetOut_51 : decode cX10_paidIfAllGetOut 51 = .ok (.aload_n 0, 1) := by decide +kernel
theorem dX10_paidIfAllGetOut_52 : decode cX10_paidIfAllGetOut 52 = .ok (.getfield 59, 3) := by decide +kernel
theorem dX10_paidIfAllGetOut_55 : decode cX10_paidIfAllGetOut 55 = .ok (.invokevirtual 217, 3) := by decide +kernel
theorem dX10_paidIfAllGetOut_58 : decode cX10_paidIfAllGetOut 58 = .ok (.iadd, 1) := by decide +kernel
theorem dX10_paidIfAllGetOut_59 : decode cX10_paidIfAllGetOut 59 = .ok (.istore_n 3, 1) := by decide +kernel
theorem dX10_paidIfAllGetOut_60 : decode cX10_paidIfAllGetOut 60 = .ok (.iinc 4 1, 3) := by decide +kernel
theorem dX10_paidIfAllGetOut_63 : decode cX10_paidIfAllGetOut 63 = .ok (.goto (-58), 3) := by decide +kernel
theorem dX10_paidIfAllGetOut_66 : decode cX10_paidIfAllGetOut 66 = .ok (.aload_n 0, 1) := by decide +kernel
theorem dX10_paidIfAllGetOut_67 : decode cX10_paidIfAllGetOut 67 = .ok (.getfield 47, 3) := by decide +kernel
theorem dX10_paidIfAllGetOut_70 : decode cX10_paidIfAllGetOut 70 = .ok (.getfield 226, 3) := by decide +kernel
theorem dX10_paidIfAllGetOut_73 : decode cX10_paidIfAllGetOut 73 = .ok (.iload_n 3, 1) := by decide +kernel
theorem dX10_paidIfAllGetOut_74 : decode cX10_paidIfAllGetOut 74 = .ok (.imul, 1) := by decide +kernel
theorem dX10_paidIfAllGetOut_75 : decode cX10_paidIfAllGetOut 75 = .ok (.ireturn, 1) := by decide +kernel
theorem dX10_draw_0 : decode cX10_draw 0 = .ok (.bipush 75, 2) := by decide +kernel
theorem dX10_draw_2 : decode cX10_draw 2 = .ok (.iload_n 0, 1) := by decide +kernel
theorem dX10_draw_3 : decode cX10_draw 3 = .ok (.imul, 1) := by decide +kernel
theorem dX10_draw_4 : decode cX10_draw 4 = .ok (.bipush 74, 2) := by decide +kernel
theorem dX10_draw_6 : decode cX10_draw 6 = .ok (.iadd, 1) := by decide +kernel
theorem dX10_draw_7 : decode cX10_draw 7 = .ok (.ldc_w 305, 3) := by decide +kernel
theorem dX10_draw_10 : decode cX10_draw 10 = .ok (.irem, 1) := by decide +kernel
theorem dX10_draw_11 : decode cX10_draw 11 = .ok (.ireturn, 1) := by decide +kernel
theorem dX10_bit_0 : decode cX10_bit 0 = .ok (.lconst 1, 1) := by decide +kernel
theorem dX10_bit_1 : decode cX10_bit 1 = .ok (.iload_n 0, 1) := by decide +kernel
theorem dX10_bit_2 : decode cX10_bit 2 = .ok (.lshl, 1) := by decide +kernel
theorem dX10_bit_3 : decode cX10_bit 3 = .ok (.lreturn, 1) := by decide +kernel
theorem dX10_isIn_0 : decode cX10_isIn 0 = .ok (.lload_n 0, 1) := by decide +kernel
theorem dX10_isIn_1 : decode cX10_isIn 1 = .ok (.iload_n 2, 1) := by decide +kernel
theorem dX10_isIn_2 : decode cX10_isIn 2 = .ok (.lushr, 1) := by decide +kernel
theorem dX10_isIn_3 : decode cX10_isIn 3 = .ok (.lconst 1, 1) := by decide +kernel
theorem dX10_isIn_4 : decode cX10_isIn 4 = .ok (.land, 1) := by decide +kernel
theorem dX10_isIn_5 : decode cX10_isIn 5 = .ok (.lconst 0, 1) := by decide +kernel
theorem dX10_isIn_6 : decode cX10_isIn 6 = .ok (.lcmp, 1) := by decide +kernel
theorem dX10_isIn_7 : decode cX10_isIn 7 = .ok (.ifCond .eq 7, 3) := by decide +kernel
theorem dX10_isIn_10 : decode cX10_isIn 10 = .ok (.iconst 1, 1) := by decide +kernel
theorem dX10_isIn_11 : decode cX10_isIn 11 = .ok (.goto 4, 3) := by decide +kernel
theorem dX10_isIn_14 : decode cX10_isIn 14 = .ok (.iconst 0, 1) := by decide +kernel
theorem dX10_isIn_15 : decode cX10_isIn 15 = .ok (.ireturn, 1) := by decide +kernel
theorem dX10_nthCell_0 : decode cX10_nthCell 0 = .ok (.iconst 0, 1) := by decide +kernel
theorem dX10_nthCell_1 : decode cX10_nthCell 1 = .ok (.istore_n 3, 1) := by decide +kernel
theorem dX10_nthCell_2 : decode cX10_nthCell 2 = .ok (.iconst 0, 1) := by decide +kernel
theorem dX10_nthCell_3 : decode cX10_nthCell 3 = .ok (.istore 4, 2) := by decide +kernel
theorem dX10_nthCell_5 : decode cX10_nthCell 5 = .ok (.iload 4, 2) := by decide +kernel
theorem dX10_nthCell_7 : decode cX10_nthCell 7 = .ok (.bipush 48, 2) := by decide +kernel
theorem dX10_nthCell_9 : decode cX10_nthCell 9 = .ok (.if_icmp .ge 29, 3) := by decide +kernel
theorem dX10_nthCell_12 : decode cX10_nthCell 12 = .ok (.lload_n 0, 1) := by decide +kernel
theorem dX10_nthCell_13 : decode cX10_nthCell 13 = .ok (.iload 4, 2) := by decide +kernel
theorem dX10_nthCell_15 : decode cX10_nthCell 15 = .ok (.invokestatic 352, 3) := by decide +kernel
theorem dX10_nthCell_18 : decode cX10_nthCell 18 = .ok (.ifCond .eq 14, 3) := by decide +kernel
theorem dX10_nthCell_21 : decode cX10_nthCell 21 = .ok (.iload_n 3, 1) := by decide +kernel
theorem dX10_nthCell_22 : decode cX10_nthCell 22 = .ok (.iload_n 2, 1) := by decide +kernel
theorem dX10_nthCell_23 : decode cX10_nthCell 23 = .ok (.if_icmp .ne 6, 3) := by decide +kernel
theorem dX10_nthCell_26 : decode cX10_nthCell 26 = .ok (.iload 4, 2) := by decide +kernel
theorem dX10_nthCell_28 : decode cX10_nthCell 28 = .ok (.ireturn, 1) := by decide +kernel
theorem dX10_nthCell_29 : decode cX10_nthCell 29 = .ok (.iinc 3 1, 3) := by decide +kernel
theorem dX10_nthCell_32 : decode cX10_nthCell 32 = .ok (.iinc 4 1, 3) := by decide +kernel
theorem dX10_nthCell_35 : decode cX10_nthCell 35 = .ok (.goto (-30), 3) := by decide +kernel
theorem dX10_nthCell_38 : decode cX10_nthCell 38 = .ok (.bipush (-2), 2) := by decide +kernel
theorem dX10_nthCell_40 : decode cX10_nthCell 40 = .ok (.ireturn, 1) := by decide +kernel
theorem dX11_init_0 : decode cX11_init 0 = .ok (.aload_n 0, 1) := by decide +kernel
theorem dX11_init_1 : decode cX11_init 1 = .ok (.invokespecial 3, 3) := by decide +kernel
theorem dX11_init_4 : decode cX11_init 4 = .ok (.aload_n 0, 1) := by decide +kernel
theorem dX11_init_5 : decode cX11_init 5 = .ok (.bipush (-2), 2) := by decide +kernel
theorem dX11_init_7 : decode cX11_init 7 = .ok (.putfield 9, 3) := by decide +kernel
theorem dX11_init_10 : decode cX11_init 10 = .ok (.aload_n 0, 1) := by decide +kernel
theorem dX11_init_11 : decode cX11_init 11 = .ok (.iconst 4, 1) := by decide +kernel
theorem dX11_init_12 : decode cX11_init 12 = .ok (.newarray .int, 2) := by decide +kernel
theorem dX11_init_14 : decode cX11_init 14 = .ok (.putfield 15, 3) := by decide +kernel
theorem dX11_init_17 : decode cX11_init 17 = .ok (.aload_n 0, 1) := by decide +kernel
theorem dX11_init_18 : decode cX11_init 18 = .ok (.iconst 5, 1) := by decide +kernel
theorem dX11_init_19 : decode cX11_init 19 = .ok (.newarray .int, 2) := by decide +kernel
theorem dX11_init_21 : decode cX11_init 21 = .ok (.putfield 19, 3) := by decide +kernel
theorem dX11_init_24 : decode cX11_init 24 = .ok (.aload_n 0, 1) := by decide +kernel
theorem dX11_init_25 : decode cX11_init 25 = .ok (.iconst 5, 1) := by decide +kernel
theorem dX11_init_26 : decode cX11_init 26 = .ok (.newarray .int, 2) := by decide +kernel
theorem dX11_init_28 : decode cX11_init 28 = .ok (.putfield 22, 3) := by decide +kernel
theorem dX11_init_31 : decode cX11_init 31 = .ok (.aload_n 0, 1) := by decide +kernel
theorem dX11_init_32 : decode cX11_init 32 = .ok (.iconst 5, 1) := by decide +kernel
theorem dX11_init_33 : decode cX11_init 33 = .ok (.newarray .int, 2) := by decide +kernel
theorem dX11_init_35 : decode cX11_init 35 = .ok (.putfield 25, 3) := by decide +kernel
theorem dX11_init_38 : decode cX11_init 38 = .ok (.aload_n 0, 1) := by decide +kernel
theorem dX11_init_39 : decode cX11_init 39 = .ok (.iconst 5, 1) := by decide +kernel
theorem dX11_init_40 : decode cX11_init 40 = .ok (.newarray .int, 2) := by decide +kernel
theorem dX11_init_42 : decode cX11_init 42 = .ok (.putfield 28, 3) := by decide +kernel
theorem dX11_init_45 : decode cX11_init 45 = .ok (.aload_n 0, 1) := by decide +kernel
theorem dX11_init_46 : decode cX11_init 46 = .ok (.iconst 5, 1) := by decide +kernel
theorem dX11_init_47 : decode cX11_init 47 = .ok (.newarray .int, 2) := by decide +kernel
theorem dX11_init_49 : decode cX11_init 49 = .ok (.putfield 31, 3) := by decide +kernel
theorem dX11_init_52 : decode cX11_init 52 = .ok (.aload_n 0, 1) := by decide +kernel
theorem dX11_init_53 : decode cX11_init 53 = .ok (.iconst 5, 1) := by decide +kernel
theorem dX11_init_54 : decode cX11_init 54 = .ok (.newarray .int, 2) := by decide +kernel
theorem dX11_init_56 : decode cX11_init 56 = .ok (.putfield 34, 3) := by decide +kernel
theorem dX11_init_59 : decode cX11_init 59 = .ok (.aload_n 0, 1) := by decide +kernel
theorem dX11_init_60 : decode cX11_init 60 = .ok (.iconst 5, 1) := by decide +kernel
theorem dX11_init_61 : decode cX11_init 61 = .ok (.newarray .long, 2) := by decide +kernel
theorem dX11_init_63 : decode cX11_init 63 = .ok (.putfield 37, 3) := by decide +kernel
theorem dX11_init_66 : decode cX11_init 66 = .ok (.return_, 1) := by decide +kernel
theorem dX11_cells_0 : decode cX11_cells 0 = .ok (.aload_n 0, 1) := by decide +kernel
theorem dX11_cells_1 : decode cX11_cells 1 = .ok (.getfield 41, 3) := by decide +kernel
theorem dX11_cells_4 : decode cX11_cells 4 = .ok (.aload_n 0, 1) := by decide +kernel
theorem dX11_cells_5 : decode cX11_cells 5 = .ok (.getfield 44, 3) := by decide +kernel
theorem dX11_cells_8 : decode cX11_cells 8 = .ok (.imul, 1) := by decide +kernel
theorem dX11_cells_9 : decode cX11_cells 9 = .ok (.ireturn, 1) := by decide +kernel
theorem dX11_to_0 : decode cX11_to 0 = .ok (.iload_n 1, 1) := by decide +kernel
theorem dX11_to_1 : decode cX11_to 1 = .ok (.aload_n 0, 1) := by decide +kernel
theorem dX11_to_2 : decode cX11_to 2 = .ok (.getfield 41, 3) := by decide +kernel
theorem dX11_to_5 : decode cX11_to 5 = .ok (.irem, 1) := by decide +kernel
theorem dX11_to_6 : decode cX11_to 6 = .ok (.istore_n 3, 1) := by decide +kernel
theorem dX11_to_7 : decode cX11_to 7 = .ok (.iload_n 2, 1) := by decide +kernel
theorem dX11_to_8 : decode cX11_to 8 = .ok (.tableswitch 89 0 2 #[28, 47, 65], 28) := by decide +kernel
theorem dX11_to_36 : decode cX11_to 36 = .ok (.iload_n 1, 1) := by decide +kernel
theorem dX11_to_37 : decode cX11_to 37 = .ok (.aload_n 0, 1) := by decide +kernel
theorem dX11_to_38 : decode cX11_to 38 = .ok (.getfield 41, 3) := by decide +kernel
theorem dX11_to_41 : decode cX11_to 41 = .ok (.if_icmp .lt 12, 3) := by decide +kernel
theorem dX11_to_44 : decode cX11_to 44 = .ok (.iload_n 1, 1) := by decide +kernel
theorem dX11_to_45 : decode cX11_to 45 = .ok (.aload_n 0, 1) := by decide +kernel
theorem dX11_to_46 : decode cX11_to 46 = .ok (.getfield 41, 3) := by decide +kernel
theorem dX11_to_49 : decode cX11_to 49 = .ok (.isub, 1) := by decide +kernel
theorem dX11_to_50 : decode cX11_to 50 = .ok (.goto 4, 3) := by decide +kernel
theorem dX11_to_53 : decode cX11_to 53 = .ok (.iconst (-1), 1) := by decide +kernel
theorem dX11_to_54 : decode cX11_to 54 = .ok (.ireturn, 1) := by decide +kernel
theorem dX11_to_55 : decode cX11_to 55 = .ok (.iload_n 3, 1) := by decide +kernel
theorem dX11_to_56 : decode cX11_to 56 = .ok (.iconst 1, 1) := by decide +kernel
theorem dX11_to_57 : decode cX11_to 57 = .ok (.iadd, 1) := by decide +kernel
theorem dX11_to_58 : decode cX11_to 58 = .ok (.aload_n 0, 1) := by decide +kernel
theorem dX11_to_59 : decode cX11_to 59 = .ok (.getfield 41, 3) := by decide +kernel
theorem dX11_to_62 : decode cX11_to 62 = .ok (.if_icmp .ge 9, 3) := by decide +kernel
theorem dX11_to_65 : decode cX11_to 65 = .ok (.iload_n 1, 1) := by decide +kernel
theorem dX11_to_66 : decode cX11_to 66 = .ok (.iconst 1, 1) := by decide +kernel
theorem dX11_to_67 : decode cX11_to 67 = .ok (.iadd, 1) := by decide +kernel
theorem dX11_to_68 : decode cX11_to 68 = .ok (.goto 4, 3) := by decide +kernel
theorem dX11_to_71 : decode cX11_to 71 = .ok (.iconst (-1), 1) := by decide +kernel
theorem dX11_to_72 : decode cX11_to 72 = .ok (.ireturn, 1) := by decide +kernel
theorem dX11_to_73 : decode cX11_to 73 = .ok (.iload_n 1, 1) := by decide +kernel
theorem dX11_to_74 : decode cX11_to 74 = .ok (.aload_n 0, 1) := by decide +kernel
theorem dX11_to_75 : decode cX11_to 75 = .ok (.getfield 41, 3) := by decide +kernel
theorem dX11_to_78 : decode cX11_to 78 = .ok (.iadd, 1) := by decide +kernel
theorem dX11_to_79 : decode cX11_to 79 = .ok (.aload_n 0, 1) := by decide +kernel
theorem dX11_to_80 : decode cX11_to 80 = .ok (.invokevirtual 47, 3) := by decide +kernel
theorem dX11_to_83 : decode cX11_to 83 = .ok (.if_icmp .ge 12, 3) := by decide +kernel
theorem dX11_to_86 : decode cX11_to 86 = .ok (.iload_n 1, 1) := by decide +kernel
theorem dX11_to_87 : decode cX11_to 87 = .ok (.aload_n 0, 1) := by decide +kernel
theorem dX11_to_88 : decode cX11_to 88 = .ok (.getfield 41, 3) := by decide +kernel
theorem dX11_to_91 : decode cX11_to 91 = .ok (.iadd, 1) := by decide +kernel
theorem dX11_to_92 : decode cX11_to 92 = .ok (.goto 4, 3) := by decide +kernel
theorem dX11_to_95 : decode cX11_to 95 = .ok (.iconst (-1), 1) := by decide +kernel
theorem dX11_to_96 : decode cX11_to 96 = .ok (.ireturn, 1) := by decide +kernel
theorem dX11_to_97 : decode cX11_to 97 = .ok (.iload_n 3, 1) := by decide +kernel
theorem dX11_to_98 : decode cX11_to 98 = .ok (.ifCond .le 9, 3) := by decide +kernel
theorem dX11_to_101 : decode cX11_to 101 = .ok (.iload_n 1, 1) := by decide +kernel
theorem dX11_to_102 : decode cX11_to 102 = .ok (.iconst 1, 1) := by decide +kernel
theorem dX11_to_103 : decode cX11_to 103 = .ok (.isub, 1) := by decide +kernel
theorem dX11_to_104 : decode cX11_to 104 = .ok (.goto 4, 3) := by decide +kernel
theorem dX11_to_107 : decode cX11_to 107 = .ok (.iconst (-1), 1) := by decide +kernel
theorem dX11_to_108 : decode cX11_to 108 = .ok (.ireturn, 1) := by decide +kernel
theorem dX11_isStart_0 : decode cX11_isStart 0 = .ok (.iconst 0, 1) := by decide +kernel
theorem dX11_isStart_1 : decode cX11_isStart 1 = .ok (.istore_n 2, 1) := by decide +kernel
theorem dX11_isStart_2 : decode cX11_isStart 2 = .ok (.iload_n 2, 1) := by decide +kernel
theorem dX11_isStart_3 : decode cX11_isStart 3 = .ok (.aload_n 0, 1) := by decide +kernel
theorem dX11_isStart_4 : decode cX11_isStart 4 = .ok (.getfield 51, 3) := by decide +kernel
theorem dX11_isStart_7 : decode cX11_isStart 7 = .ok (.if_icmp .ge 21, 3) := by decide +kernel
theorem dX11_isStart_10 : decode cX11_isStart 10 = .ok (.aload_n 0, 1) := by decide +kernel
theorem dX11_isStart_11 : decode cX11_isStart 11 = .ok (.getfield 28, 3) := by decide +kernel
theorem dX11_isStart_14 : decode cX11_isStart 14 = .ok (.iload_n 2, 1) := by decide +kernel
theorem dX11_isStart_15 : decode cX11_isStart 15 = .ok (.iaload, 1) := by decide +kernel
theorem dX11_isStart_16 : decode cX11_isStart 16 = .ok (.iload_n 1, 1) := by decide +kernel
theorem dX11_isStart_17 : decode cX11_isStart 17 = .ok (.if_icmp .ne 5, 3) := by decide +kernel
theorem dX11_isStart_20 : decode cX11_isStart 20 = .ok (.iconst 1, 1) := by decide +kernel
theorem dX11_isStart_21 : decode cX11_isStart 21 = .ok (.ireturn, 1) := by decide +kernel
theorem dX11_isStart_22 : decode cX11_isStart 22 = .ok (.iinc 2 1, 3) := by decide +kernel
theorem dX11_isStart_25 : decode cX11_isStart 25 = .ok (.goto (-23), 3) := by decide +kernel
theorem dX11_isStart_28 : decode cX11_isStart 28 = .ok (.iconst 0, 1) := by decide +kernel
theorem dX11_isStart_29 : decode cX11_isStart 29 = .ok (.ireturn, 1) := by decide +kernel
theorem dX12_init_0 : decode cX12_init 0 = .ok (.aload_n 0, 1) := by decide +kernel
theorem dX12_init_1 : decode cX12_init 1 = .ok (.invokespecial 3, 3) := by decide +kernel
theorem dX12_init_4 : decode cX12_init 4 = .ok (.aload_n 0, 1) := by decide +kernel
theorem dX12_init_5 : decode cX12_init 5 = .ok (.iconst (-1), 1) := by decide +kernel
theorem dX12_init_6 : decode cX12_init 6 = .ok (.putfield 9, 3) := by decide +kernel
theorem dX12_init_9 : decode cX12_init 9 = .ok (.aload_n 0, 1) := by decide +kernel
theorem dX12_init_10 : decode cX12_init 10 = .ok (.sipush 900, 3) := by decide +kernel
theorem dX12_init_13 : decode cX12_init 13 = .ok (.newarray .byte, 2) := by decide +kernel
theorem dX12_init_15 : decode cX12_init 15 = .ok (.putfield 13, 3) := by decide +kernel
theorem dX12_init_18 : decode cX12_init 18 = .ok (.aload_n 0, 1) := by decide +kernel
theorem dX12_init_19 : decode cX12_init 19 = .ok (.bipush 8, 2) := by decide +kernel
theorem dX12_init_21 : decode cX12_init 21 = .ok (.newarray .int, 2) := by decide +kernel
theorem dX12_init_23 : decode cX12_init 23 = .ok (.putfield 17, 3) := by decide +kernel
theorem dX12_init_26 : decode cX12_init 26 = .ok (.aload_n 0, 1) := by decide +kernel
theorem dX12_init_27 : decode cX12_init 27 = .ok (.bipush 48, 2) := by decide +kernel
theorem dX12_init_29 : decode cX12_init 29 = .ok (.newarray .int, 2) := by decide +kernel
theorem dX12_init_31 : decode cX12_init 31 = .ok (.putfield 21, 3) := by decide +kernel
theorem dX12_init_34 : decode cX12_init 34 = .ok (.aload_n 0, 1) := by decide +kernel
theorem dX12_init_35 : decode cX12_init 35 = .ok (.bipush 48, 2) := by decide +kernel
theorem dX12_init_37 : decode cX12_init 37 = .ok (.newarray .int, 2) := by decide +kernel
theorem dX12_init_39 : decode cX12_init 39 = .ok (.putfield 24, 3) := by decide +kernel
theorem dX12_init_42 : decode cX12_init 42 = .ok (.aload_n 0, 1) := by decide +kernel
theorem dX12_init_43 : decode cX12_init 43 = .ok (.bipush 48, 2) := by decide +kernel
theorem dX12_init_45 : decode cX12_init 45 = .ok (.newarray .int, 2) := by decide +kernel
theorem dX12_init_47 : decode cX12_init 47 = .ok (.putfield 27, 3) := by decide +kernel
theorem dX12_init_50 : decode cX12_init 50 = .ok (.aload_n 0, 1) := by decide +kernel
theorem dX12_init_51 : decode cX12_init 51 = .ok (.bipush 48, 2) := by decide +kernel
theorem dX12_init_53 : decode cX12_init 53 = .ok (.newarray .int, 2) := by decide +kernel
theorem dX12_init_55 : decode cX12_init 55 = .ok (.putfield 30, 3) := by decide +kernel
theorem dX12_init_58 : decode cX12_init 58 = .ok (.aload_n 0, 1) := by decide +kernel
theorem dX12_init_59 : decode cX12_init 59 = .ok (.sipush 201, 3) := by decide +kernel
theorem dX12_init_62 : decode cX12_init 62 = .ok (.newarray .int, 2) := by decide +kernel
theorem dX12_init_64 : decode cX12_init 64 = .ok (.putfield 33, 3) := by decide +kernel
theorem dX12_init_67 : decode cX12_init 67 = .ok (.aload_n 0, 1) := by decide +kernel
theorem dX12_init_68 : decode cX12_init 68 = .ok (.sipush 201, 3) := by decide +kernel
theorem dX12_init_71 : decode cX12_init 71 = .ok (.newarray .int, 2) := by decide +kernel
theorem dX12_init_73 : decode cX12_init 73 = .ok (.putfield 36, 3) := by decide +kernel
theorem dX12_init_76 : decode cX12_init 76 = .ok (.aload_n 0, 1) := by decide +kernel
theorem dX12_init_77 : decode cX12_init 77 = .ok (.sipush 192, 3) := by decide +kernel
theorem dX12_init_80 : decode cX12_init 80 = .ok (.newarray .int, 2) := by decide +kernel
theorem dX12_init_82 : decode cX12_init 82 = .ok (.putfield 39, 3) := by decide +kernel
theorem dX12_init_85 : decode cX12_init 85 = .ok (.aload_n 0, 1) := by decide +kernel
theorem dX12_init_86 : decode cX12_init 86 = .ok (.ldc 42, 2) := by decide +kernel
theorem dX12_init_88 : decode cX12_init 88 = .ok (.newarray .int, 2) := by decide +kernel
theorem dX12_init_90 : decode cX12_init 90 = .ok (.putfield 43, 3) := by decide +kernel
theorem dX12_init_93 : decode cX12_init 93 = .ok (.aload_n 0, 1) := by decide +kernel
theorem dX12_init_94 : decode cX12_init 94 = .ok (.bipush 12, 2) := by decide +kernel
theorem dX12_init_96 : decode cX12_init 96 = .ok (.newarray .int, 2) := by decide +kernel
theorem dX12_init_98 : decode cX12_init 98 = .ok (.putfield 46, 3) := by decide +kernel
theorem dX12_init_101 : decode cX12_init 101 = .ok (.aload_n 0, 1) := by decide +kernel
theorem dX12_init_102 : decode cX12_init 102 = .ok (.bipush 20, 2) := by decide +kernel
theorem dX12_init_104 : decode cX12_init 104 = .ok (.newarray .long, 2) := by decide +kernel
theorem dX12_init_106 : decode cX12_init 106 = .ok (.putfield 49, 3) := by decide +kernel
theorem dX12_init_109 : decode cX12_init 109 = .ok (.aload_n 0, 1) := by decide +kernel
theorem dX12_init_110 : decode cX12_init 110 = .ok (.iconst 3, 1) := by decide +kernel
theorem dX12_init_111 : decode cX12_init 111 = .ok (.newarray .long, 2) := by decide +kernel
theorem dX12_init_113 : decode cX12_init 113 = .ok (.putfield 53, 3) := by decide +kernel
theorem dX12_init_116 : decode cX12_init 116 = .ok (.aload_n 0, 1) := by decide +kernel
theorem dX12_init_117 : decode cX12_init 117 = .ok (.bipush 20, 2) := by decide +kernel
theorem dX12_init_119 : decode cX12_init 119 = .ok (.newarray .int, 2) := by decide +kernel
theorem dX12_init_121 : decode cX12_init 121 = .ok (.putfield 56, 3) := by decide +kernel
theorem dX12_init_124 : decode cX12_init 124 = .ok (.aload_n 0, 1) := by decide +kernel
theorem dX12_init_125 : decode cX12_init 125 = .ok (.iconst 3, 1) := by decide +kernel
theorem dX12_init_126 : decode cX12_init 126 = .ok (.newarray .int, 2) := by decide +kernel
theorem dX12_init_128 : decode cX12_init 128 = .ok (.putfield 59, 3) := by decide +kernel
theorem dX12_init_131 : decode cX12_init 131 = .ok (.return_, 1) := by decide +kernel
theorem dX12_thrown_0 : decode cX12_thrown 0 = .ok (.aload_n 0, 1) := by decide +kernel
theorem dX12_thrown_1 : decode cX12_thrown 1 = .ok (.getfield 62, 3) := by decide +kernel
theorem dX12_thrown_4 : decode cX12_thrown 4 = .ok (.ireturn, 1) := by decide +kernel
theorem dX12_refused_0 : decode cX12_refused 0 = .ok (.aload_n 0, 1) := by decide +kernel
theorem dX12_refused_1 : decode cX12_refused 1 = .ok (.iload_n 1, 1) := by decide +kernel
theorem dX12_refused_2 : decode cX12_refused 2 = .ok (.putfield 65, 3) := by decide +kernel
theorem dX12_refused_5 : decode cX12_refused 5 = .ok (.aload_n 0, 1) := by decide +kernel
theorem dX12_refused_6 : decode cX12_refused 6 = .ok (.iconst (-1), 1) := by decide +kernel
theorem dX12_refused_7 : decode cX12_refused 7 = .ok (.putfield 9, 3) := by decide +kernel
theorem dX12_refused_10 : decode cX12_refused 10 = .ok (.iconst (-1), 1) := by decide +kernel
theorem dX12_refused_11 : decode cX12_refused 11 = .ok (.ireturn, 1) := by decide +kernel
theorem dX12_denied_0 : decode cX12_denied 0 = .ok (.aload_n 0, 1) := by decide +kernel
theorem dX12_denied_1 : decode cX12_denied 1 = .ok (.iload_n 1, 1) := by decide +kernel
theorem dX12_denied_2 : decode cX12_denied 2 = .ok (.invokevirtual 68, 3) := by decide +kernel
theorem dX12_denied_5 : decode cX12_denied 5 = .ok (.pop, 1) := by decide +kernel
theorem dX12_denied_6 : decode cX12_denied 6 = .ok (.iconst 0, 1) := by decide +kernel
theorem dX12_denied_7 : decode cX12_denied 7 = .ok (.ireturn, 1) := by decide +kernel
theorem dX12_good_0 : decode cX12_good 0 = .ok (.aload_n 0, 1) := by decide +kernel
theorem dX12_good_1 : decode cX12_good 1 = .ok (.iconst 0, 1) := by decide +kernel
theorem dX12_good_2 : decode cX12_good 2 = .ok (.putfield 65, 3) := by decide +kernel
theorem dX12_good_5 : decode cX12_good 5 = .ok (.aload_n 0, 1) := by decide +kernel
theorem dX12_good_6 : decode cX12_good 6 = .ok (.iconst (-1), 1) := by decide +kernel
theorem dX12_good_7 : decode cX12_good 7 = .ok (.putfield 9, 3) := by decide +kernel
theorem dX12_good_10 : decode cX12_good 10 = .ok (.iload_n 1, 1) := by decide +kernel
theorem dX12_good_11 : decode cX12_good 11 = .ok (.ireturn, 1) := by decide +kernel
theorem dX12_granted_0 : decode cX12_granted 0 = .ok (.aload_n 0, 1) := by decide +kernel
theorem dX12_granted_1 : decode cX12_granted 1 = .ok (.iconst 0, 1) := by decide +kernel
theorem dX12_granted_2 : decode cX12_granted 2 = .ok (.invokevirtual 72, 3) := by decide +kernel
theorem dX12_granted_5 : decode cX12_granted 5 = .ok (.pop, 1) := by decide +kernel
theorem dX12_granted_6 : decode cX12_granted 6 = .ok (.iconst 1, 1) := by decide +kernel
theorem dX12_granted_7 : decode cX12_granted 7 = .ok (.ireturn, 1) := by decide +kernel
theorem dX12_in_0 : decode cX12_in 0 = .ok (.iload_n 0, 1) := by decide +kernel
theorem dX12_in_1 : decode cX12_in 1 = .ok (.iload_n 1, 1) := by decide +kernel
theorem dX12_in_2 : decode cX12_in 2 = .ok (.if_icmp .lt 12, 3) := by decide +kernel
theorem dX12_in_5 : decode cX12_in 5 = .ok (.iload_n 0, 1) := by decide +kernel
theorem dX12_in_6 : decode cX12_in 6 = .ok (.iload_n 2, 1) := by decide +kernel
theorem dX12_in_7 : decode cX12_in 7 = .ok (.if_icmp .gt 7, 3) := by decide +kernel
theorem dX12_in_10 : decode cX12_in 10 = .ok (.iconst 1, 1) := by decide +kernel
theorem dX12_in_11 : decode cX12_in 11 = .ok (.goto 4, 3) := by decide +kernel
theorem dX12_in_14 : decode cX12_in 14 = .ok (.iconst 0, 1) := by decide +kernel
theorem dX12_in_15 : decode cX12_in 15 = .ok (.ireturn, 1) := by decide +kernel
theorem dX12_has_0 : decode cX12_has 0 = .ok (.lload_n 0, 1) := by decide +kernel
theorem dX12_has_1 : decode cX12_has 1 = .ok (.iload_n 2, 1) := by decide +kernel
theorem dX12_has_2 : decode cX12_has 2 = .ok (.lshr, 1) := by decide +kernel
theorem dX12_has_3 : decode cX12_has 3 = .ok (.lconst 1, 1) := by decide +kernel
theorem dX12_has_4 : decode cX12_has 4 = .ok (.land, 1) := by decide +kernel
theorem dX12_has_5 : decode cX12_has 5 = .ok (.lconst 1, 1) := by decide +kernel
theorem dX12_has_6 : decode cX12_has 6 = .ok (.lcmp, 1) := by decide +kernel
theorem dX12_has_7 : decode cX12_has 7 = .ok (.ifCond .ne 7, 3) := by decide +kernel
theorem dX12_has_10 : decode cX12_has 10 = .ok (.iconst 1, 1) := by decide +kernel
theorem dX12_has_11 : decode cX12_has 11 = .ok (.goto 4, 3) := by decide +kernel
theorem dX12_has_14 : decode cX12_has 14 = .ok (.iconst 0, 1) := by decide +kernel
theorem dX12_has_15 : decode cX12_has 15 = .ok (.ireturn, 1) := by decide +kernel
theorem dX12_bits_0 : decode cX12_bits 0 = .ok (.iconst 0, 1) := by decide +kernel
theorem dX12_bits_1 : decode cX12_bits 1 = .ok (.istore_n 2, 1) := by decide +kernel
theorem dX12_bits_2 : decode cX12_bits 2 = .ok (.lload_n 0, 1) := by decide +kernel
theorem dX12_bits_3 : decode cX12_bits 3 = .ok (.lstore_n 3, 1) := by decide +kernel
theorem dX12_bits_4 : decode cX12_bits 4 = .ok (.lload_n 3, 1) := by decide +kernel
theorem dX12_bits_5 : decode cX12_bits 5 = .ok (.lconst 0, 1) := by decide +kernel
theorem dX12_bits_6 : decode cX12_bits 6 = .ok (.lcmp, 1) := by decide +kernel
theorem dX12_bits_7 : decode cX12_bits 7 = .ok (.ifCond .eq 15, 3) := by decide +kernel
theorem dX12_bits_10 : decode cX12_bits 10 = .ok (.iinc 2 1, 3) := by decide +kernel
theorem dX12_bits_13 : decode cX12_bits 13 = .ok (.lload_n 3, 1) := by decide +kernel
theorem dX12_bits_14 : decode cX12_bits 14 = .ok (.lload_n 3, 1) := by decide +kernel
theorem dX12_bits_15 : decode cX12_bits 15 = .ok (.lconst 1, 1) := by decide +kernel
theorem dX12_bits_16 : decode cX12_bits 16 = .ok (.lsub, 1) := by decide +kernel
theorem dX12_bits_17 : decode cX12_bits 17 = .ok (.land, 1) := by decide +kernel
theorem dX12_bits_18 : decode cX12_bits 18 = .ok (.lstore_n 3, 1) := by decide +kernel
theorem dX12_bits_19 : decode cX12_bits 19 = .ok (.goto (-15), 3) := by decide +kernel
theorem dX12_bits_22 : decode cX12_bits 22 = .ok (.iload_n 2, 1) := by decide +kernel
theorem dX12_bits_23 : decode cX12_bits 23 = .ok (.ireturn, 1) := by decide +kernel
theorem dX12_first_0 : decode cX12_first 0 = .ok (.iconst 0, 1) := by decide +kernel
theorem dX12_first_1 : decode cX12_first 1 = .ok (.istore_n 2, 1) := by decide +kernel
theorem dX12_first_2 : decode cX12_first 2 = .ok (.lload_n 0, 1) := by decide +kernel
theorem dX12_first_3 : decode cX12_first 3 = .ok (.iload_n 2, 1) := by decide +kernel
theorem dX12_first_4 : decode cX12_first 4 = .ok (.invokestatic 75, 3) := by decide +kernel
theorem dX12_first_7 : decode cX12_first 7 = .ok (.ifCond .ne 9, 3) := by decide +kernel
theorem dX12_first_10 : decode cX12_first 10 = .ok (.iinc 2 1, 3) := by decide +kernel
theorem dX12_first_13 : decode cX12_first 13 = .ok (.goto (-11), 3) := by decide +kernel
theorem dX12_first_16 : decode cX12_first 16 = .ok (.iload_n 2, 1) := by decide +kernel
theorem dX12_first_17 : decode cX12_first 17 = .ok (.ireturn, 1) := by decide +kernel
theorem dX12_byteAt_0 : decode cX12_byteAt 0 = .ok (.iload_n 1, 1) := by decide +kernel
theorem dX12_byteAt_1 : decode cX12_byteAt 1 = .ok (.aload_n 0, 1) := by decide +kernel
theorem dX12_byteAt_2 : decode cX12_byteAt 2 = .ok (.getfield 79, 3) := by decide +kernel
theorem dX12_byteAt_5 : decode cX12_byteAt 5 = .ok (.if_icmp .ge 16, 3) := by decide +kernel
theorem dX12_byteAt_8 : decode cX12_byteAt 8 = .ok (.aload_n 0, 1) := by decide +kernel
theorem dX12_byteAt_9 : decode cX12_byteAt 9 = .ok (.getfield 13, 3) := by decide +kernel
theorem dX12_byteAt_12 : decode cX12_byteAt 12 = .ok (.iload_n 1, 1) := by decide +kernel
theorem dX12_byteAt_13 : decode cX12_byteAt 13 = .ok (.baload, 1) := by decide +kernel
theorem dX12_byteAt_14 : decode cX12_byteAt 14 = .ok (.sipush 255, 3) := by decide +kernel
theorem dX12_byteAt_17 : decode cX12_byteAt 17 = .ok (.iand, 1) := by decide +kernel
theorem dX12_byteAt_18 : decode cX12_byteAt 18 = .ok (.goto 4, 3) := by decide +kernel
theorem dX12_byteAt_21 : decode cX12_byteAt 21 = .ok (.iconst (-1), 1) := by decide +kernel
theorem dX12_byteAt_22 : decode cX12_byteAt 22 = .ok (.ireturn, 1) := by decide +kernel
theorem dX12_isLetter_0 : decode cX12_isLetter 0 = .ok (.iload_n 0, 1) := by decide +kernel
theorem dX12_isLetter_1 : decode cX12_isLetter 1 = .ok (.bipush 97, 2) := by decide +kernel
theorem dX12_isLetter_3 : decode cX12_isLetter 3 = .ok (.if_icmp .lt 13, 3) := by decide +kernel
theorem dX12_isLetter_6 : decode cX12_isLetter 6 = .ok (.iload_n 0, 1) := by decide +kernel
theorem dX12_isLetter_7 : decode cX12_isLetter 7 = .ok (.bipush 122, 2) := by decide +kernel
theorem dX12_isLetter_9 : decode cX12_isLetter 9 = .ok (.if_icmp .gt 7, 3) := by decide +kernel
theorem dX12_isLetter_12 : decode cX12_isLetter 12 = .ok (.iconst 1, 1) := by decide +kernel
theorem dX12_isLetter_13 : decode cX12_isLetter 13 = .ok (.goto 4, 3) := by decide +kernel
theorem dX12_isLetter_16 : decode cX12_isLetter 16 = .ok (.iconst 0, 1) := by decide +kernel
theorem dX12_isLetter_17 : decode cX12_isLetter 17 = .ok (.ireturn, 1) := by decide +kernel
theorem dX12_isDigit_0 : decode cX12_isDigit 0 = .ok (.iload_n 0, 1) := by decide +kernel
theorem dX12_isDigit_1 : decode cX12_isDigit 1 = .ok (.bipush 48, 2) := by decide +kernel
theorem dX12_isDigit_3 : decode cX12_isDigit 3 = .ok (.if_icmp .lt 13, 3) := by decide +kernel
theorem dX12_isDigit_6 : decode cX12_isDigit 6 = .ok (.iload_n 0, 1) := by decide +kernel
theorem dX12_isDigit_7 : decode cX12_isDigit 7 = .ok (.bipush 57, 2) := by decide +kernel
theorem dX12_isDigit_9 : decode cX12_isDigit 9 = .ok (.if_icmp .gt 7, 3) := by decide +kernel
theorem dX12_isDigit_12 : decode cX12_isDigit 12 = .ok (.iconst 1, 1) := by decide +kernel
theorem dX12_isDigit_13 : decode cX12_isDigit 13 = .ok (.goto 4, 3) := by decide +kernel
theorem dX12_isDigit_16 : decode cX12_isDigit 16 = .ok (.iconst 0, 1) := by decide +kernel
theorem dX12_isDigit_17 : decode cX12_isDigit 17 = .ok (.ireturn, 1) := by decide +kernel
theorem dX12_wordOf_0 : decode cX12_wordOf 0 = .ok (.lconst 0, 1) := by decide +kernel
theorem dX12_wordOf_1 : decode cX12_wordOf 1 = .ok (.lstore_n 1, 1) := by decide +kernel
theorem dX12_wordOf_2 : decode cX12_wordOf 2 = .ok (.iconst 0, 1) := by decide +kernel
theorem dX12_wordOf_3 : decode cX12_wordOf 3 = .ok (.istore_n 3, 1) := by decide +kernel
theorem dX12_wordOf_4 : decode cX12_wordOf 4 = .ok (.iload_n 3, 1) := by decide +kernel
theorem dX12_wordOf_5 : decode cX12_wordOf 5 = .ok (.aload_n 0, 1) := by decide +kernel
theorem dX12_wordOf_6 : decode cX12_wordOf 6 = .ok (.invokevirtual 82, 3) := by decide +kernel
theorem dX12_wordOf_9 : decode cX12_wordOf 9 = .ok (.if_icmp .ge 27, 3) := by decide +kernel
theorem dX12_wordOf_12 : decode cX12_wordOf 12 = .ok (.ldc2_w 88, 3) := by decide +kernel
theorem dX12_wordOf_15 : decode cX12_wordOf 15 = .ok (.lload_n 1, 1) := by decide +kernel
theorem dX12_wordOf_16 : decode cX12_wordOf 16 = .ok (.lmul, 1) := by decide +kernel
theorem dX12_wordOf_17 : decode cX12_wordOf 17 = .ok (.aload_n 0, 1) := by decide +kernel
theorem dX12_wordOf_18 : decode cX12_wordOf 18 = .ok (.iload_n 3, 1) := by decide +kernel
theorem dX12_wordOf_19 : decode cX12_wordOf 19 = .ok (.invokevirtual 90, 3) := by decide +kernel
theorem dX12_wordOf_22 : decode cX12_wordOf 22 = .ok (.bipush 97, 2) := by decide +kernel
theorem dX12_wordOf_24 : decode cX12_wordOf 24 = .ok (.isub, 1) := by decide +kernel
theorem dX12_wordOf_25 : decode cX12_wordOf 25 = .ok (.iconst 1, 1) := by decide +kernel
theorem dX12_wordOf_26 : decode cX12_wordOf 26 = .ok (.iadd, 1) := by decide +kernel
theorem dX12_wordOf_27 : decode cX12_wordOf 27 = .ok (.i2l, 1) := by decide +kernel
theorem dX12_wordOf_28 : decode cX12_wordOf 28 = .ok (.ladd, 1) := by decide +kernel
theorem dX12_wordOf_29 : decode cX12_wordOf 29 = .ok (.lstore_n 1, 1) := by decide +kernel
theorem dX12_wordOf_30 : decode cX12_wordOf 30 = .ok (.iinc 3 1, 3) := by decide +kernel
theorem dX12_wordOf_33 : decode cX12_wordOf 33 = .ok (.goto (-29), 3) := by decide +kernel
theorem dX12_wordOf_36 : decode cX12_wordOf 36 = .ok (.lload_n 1, 1) := by decide +kernel
theorem dX12_wordOf_37 : decode cX12_wordOf 37 = .ok (.lreturn, 1) := by decide +kernel
theorem dX12_goesOn_0 : decode cX12_goesOn 0 = .ok (.aload_n 0, 1) := by decide +kernel
theorem dX12_goesOn_1 : decode cX12_goesOn 1 = .ok (.getfield 94, 3) := by decide +kernel
theorem dX12_goesOn_4 : decode cX12_goesOn 4 = .ok (.iconst 5, 1) := by decide +kernel
theorem dX12_goesOn_5 : decode cX12_goesOn 5 = .ok (.if_icmp .ne 4, 3) := by decide +kernel
theorem dX12_goesOn_8 : decode cX12_goesOn 8 = .ok (.return_, 1) := by decide +kernel
theorem dX12_goesOn_9 : decode cX12_goesOn 9 = .ok (.aload_n 0, 1) := by decide +kernel
theorem dX12_goesOn_10 : decode cX12_goesOn 10 = .ok (.aload_n 0, 1) := by decide +kernel
theorem dX12_goesOn_11 : decode cX12_goesOn 11 = .ok (.getfield 97, 3) := by decide +kernel
theorem dX12_goesOn_14 : decode cX12_goesOn 14 = .ok (.invokevirtual 100, 3) := by decide +kernel
theorem dX12_goesOn_17 : decode cX12_goesOn 17 = .ok (.bipush 32, 2) := by decide +kernel
theorem dX12_goesOn_19 : decode cX12_goesOn 19 = .ok (.if_icmp .ne 16, 3) := by decide +kernel
theorem dX12_goesOn_22 : decode cX12_goesOn 22 = .ok (.aload_n 0, 1) := by decide +kernel
theorem dX12_goesOn_23 : decode cX12_goesOn 23 = .ok (.dup, 1) := by decide +kernel
theorem dX12_goesOn_24 : decode cX12_goesOn 24 = .ok (.getfield 97, 3) := by decide +kernel
theorem dX12_goesOn_27 : decode cX12_goesOn 27 = .ok (.iconst 1, 1) := by decide +kernel
theorem dX12_goesOn_28 : decode cX12_goesOn 28 = .ok (.iadd, 1) := by decide +kernel
theorem dX12_goesOn_29 : decode cX12_goesOn 29 = .ok (.putfield 97, 3) := by decide +kernel
theorem dX12_goesOn_32 : decode cX12_goesOn 32 = .ok (.goto (-23), 3) := by decide +kernel
theorem dX12_goesOn_35 : decode cX12_goesOn 35 = .ok (.aload_n 0, 1) := by decide +kernel
theorem dX12_goesOn_36 : decode cX12_goesOn 36 = .ok (.aload_n 0, 1) := by decide +kernel
theorem dX12_goesOn_37 : decode cX12_goesOn 37 = .ok (.getfield 97, 3) := by decide +kernel
theorem dX12_goesOn_40 : decode cX12_goesOn 40 = .ok (.putfield 103, 3) := by decide +kernel
theorem dX12_goesOn_43 : decode cX12_goesOn 43 = .ok (.aload_n 0, 1) := by decide +kernel
theorem dX12_goesOn_44 : decode cX12_goesOn 44 = .ok (.iconst 0, 1) := by decide +kernel
theorem dX12_goesOn_45 : decode cX12_goesOn 45 = .ok (.putfield 94, 3) := by decide +kernel
theorem dX12_goesOn_48 : decode cX12_goesOn 48 = .ok (.aload_n 0, 1) := by decide +kernel
theorem dX12_goesOn_49 : decode cX12_goesOn 49 = .ok (.iconst 0, 1) := by decide +kernel
theorem dX12_goesOn_50 : decode cX12_goesOn 50 = .ok (.putfield 106, 3) := by decide +kernel
theorem dX12_goesOn_53 : decode cX12_goesOn 53 = .ok (.aload_n 0, 1) := by decide +kernel
theorem dX12_goesOn_54 : decode cX12_goesOn 54 = .ok (.aload_n 0, 1) := by decide +kernel
theorem dX12_goesOn_55 : decode cX12_goesOn 55 = .ok (.getfield 97, 3) := by decide +kernel
theorem dX12_goesOn_58 : decode cX12_goesOn 58 = .ok (.invokevirtual 100, 3) := by decide +kernel
theorem dX12_goesOn_61 : decode cX12_goesOn 61 = .ok (.istore_n 1, 1) := by decide +kernel
theorem dX12_goesOn_62 : decode cX12_goesOn 62 = .ok (.iconst 0, 1) := by decide +kernel
theorem dX12_goesOn_63 : decode cX12_goesOn 63 = .ok (.istore_n 2, 1) := by decide +kernel
theorem dX12_goesOn_64 : decode cX12_goesOn 64 = .ok (.iload_n 1, 1) := by decide +kernel
theorem dX12_goesOn_65 : decode cX12_goesOn 65 = .ok (.iconst (-1), 1) := by decide +kernel
theorem dX12_goesOn_66 : decode cX12_goesOn 66 = .ok (.if_icmp .ne 11, 3) := by decide +kernel
theorem dX12_goesOn_69 : decode cX12_goesOn 69 = .ok (.aload_n 0, 1) := by decide +kernel
theorem dX12_goesOn_70 : decode cX12_goesOn 70 = .ok (.iconst 1, 1) := by decide +kernel
theorem dX12_goesOn_71 : decode cX12_goesOn 71 = .ok (.putfield 94, 3) := by decide +kernel
theorem dX12_goesOn_74 : decode cX12_goesOn 74 = .ok (.goto 224, 3) := by decide +kernel
theorem dX12_goesOn_77 : decode cX12_goesOn 77 = .ok (.iload_n 1, 1) := by decide +kernel
theorem dX12_goesOn_78 : decode cX12_goesOn 78 = .ok (.invokestatic 109, 3) := by decide +kernel
theorem dX12_goesOn_81 : decode cX12_goesOn 81 = .ok (.ifCond .eq 102, 3) := by decide +kernel
theorem dX12_goesOn_84 : decode cX12_goesOn 84 = .ok (.aload_n 0, 1) := by decide +kernel
theorem dX12_goesOn_85 : decode cX12_goesOn 85 = .ok (.lconst 0, 1) := by decide +kernel
theorem dX12_goesOn_86 : decode cX12_goesOn 86 = .ok (.putfield 113, 3) := by decide +kernel
theorem dX12_goesOn_89 : decode cX12_goesOn 89 = .ok (.aload_n 0, 1) := by decide +kernel
theorem dX12_goesOn_90 : decode cX12_goesOn 90 = .ok (.aload_n 0, 1) := by decide +kernel
theorem dX12_goesOn_91 : decode cX12_goesOn 91 = .ok (.getfield 97, 3) := by decide +kernel
theorem dX12_goesOn_94 : decode cX12_goesOn 94 = .ok (.invokevirtual 100, 3) := by decide +kernel
theorem dX12_goesOn_97 : decode cX12_goesOn 97 = .ok (.invokestatic 109, 3) := by decide +kernel
theorem dX12_goesOn_100 : decode cX12_goesOn 100 = .ok (.ifCond .eq 64, 3) := by decide +kernel
theorem dX12_goesOn_103 : decode cX12_goesOn 103 = .ok (.iload_n 2, 1) := by decide +kernel
theorem dX12_goesOn_104 : decode cX12_goesOn 104 = .ok (.bipush 8, 2) := by decide +kernel
theorem dX12_goesOn_106 : decode cX12_goesOn 106 = .ok (.if_icmp .ge 42, 3) := by decide +kernel
theorem dX12_goesOn_109 : decode cX12_goesOn 109 = .ok (.aload_n 0, 1) := by decide +kernel
theorem dX12_goesOn_110 : decode cX12_goesOn 110 = .ok (.getfield 17, 3) := by decide +kernel
theorem dX12_goesOn_113 : decode cX12_goesOn 113 = .ok (.iload_n 2, 1) := by decide +kernel
theorem dX12_goesOn_114 : decode cX12_goesOn 114 = .ok (.aload_n 0, 1) := by decide +kernel
theorem dX12_goesOn_115 : decode cX12_goesOn 115 = .ok (.aload_n 0, 1) := by decide +kernel
theorem dX12_goesOn_116 : decode cX12_goesOn 116 = .ok (.getfield 97, 3) := by decide +kernel
theorem dX12_goesOn_119 : decode cX12_goesOn 119 = .ok (.invokevirtual 100, 3) := by decide +kernel
theorem dX12_goesOn_122 : decode cX12_goesOn 122 = .ok (.iastore, 1) := by decide +kernel
theorem dX12_goesOn_123 : decode cX12_goesOn 123 = .ok (.aload_n 0, 1) := by decide +kernel
theorem dX12_goesOn_124 : decode cX12_goesOn 124 = .ok (.ldc2_w 88, 3) := by decide +kernel
theorem dX12_goesOn_127 : decode cX12_goesOn 127 = .ok (.aload_n 0, 1) := by decide +kernel
theorem dX12_goesOn_128 : decode cX12_goesOn 128 = .ok (.getfield 113, 3) := by decide +kernel
theorem dX12_goesOn_131 : decode cX12_goesOn 131 = .ok (.lmul, 1) := by decide +kernel
theorem dX12_goesOn_132 : decode cX12_goesOn 132 = .ok (.aload_n 0, 1) := by decide +kernel
theorem dX12_goesOn_133 : decode cX12_goesOn 133 = .ok (.getfield 17, 3) := by decide +kernel
theorem dX12_goesOn_136 : decode cX12_goesOn 136 = .ok (.iload_n 2, 1) := by decide +kernel
theorem dX12_goesOn_137 : decode cX12_goesOn 137 = .ok (.iaload, 1) := by decide +kernel
theorem dX12_goesOn_138 : decode cX12_goesOn 138 = .ok (.bipush 97, 2) := by decide +kernel
theorem dX12_goesOn_140 : decode cX12_goesOn 140 = .ok (.isub, 1) := by decide +kernel
theorem dX12_goesOn_141 : decode cX12_goesOn 141 = .ok (.iconst 1, 1) := by decide +kernel
theorem dX12_goesOn_142 : decode cX12_goesOn 142 = .ok (.iadd, 1) := by decide +kernel
theorem dX12_goesOn_143 : decode cX12_goesOn 143 = .ok (.i2l, 1) := by decide +kernel
theorem dX12_goesOn_144 : decode cX12_goesOn 144 = .ok (.ladd, 1) := by decide +kernel
theorem dX12_goesOn_145 : decode cX12_goesOn 145 = .ok (.putfield 113, 3) := by decide +kernel
theorem dX12_goesOn_148 : decode cX12_goesOn 148 = .ok (.iinc 2 1, 3) := by decide +kernel
theorem dX12_goesOn_151 : decode cX12_goesOn 151 = .ok (.aload_n 0, 1) := by decide +kernel
theorem dX12_goesOn_152 : decode cX12_goesOn 152 = .ok (.dup, 1) := by decide +kernel
theorem dX12_goesOn_153 : decode cX12_goesOn 153 = .ok (.getfield 97, 3) := by decide +kernel
theorem dX12_goesOn_156 : decode cX12_goesOn 156 = .ok (.iconst 1, 1) := by decide +kernel
theorem dX12_goesOn_157 : decode cX12_goesOn 157 = .ok (.iadd, 1) := by decide +kernel
theorem dX12_goesOn_158 : decode cX12_goesOn 158 = .ok (.putfield 97, 3) := by decide +kernel
theorem dX12_goesOn_161 : decode cX12_goesOn 161 = .ok (.goto (-72), 3) := by decide +kernel
theorem dX12_goesOn_164 : decode cX12_goesOn 164 = .ok (.aload_n 0, 1) := by decide +kernel
theorem dX12_goesOn_165 : decode cX12_goesOn 165 = .ok (.iload_n 2, 1) := by decide +kernel
theorem dX12_goesOn_166 : decode cX12_goesOn 166 = .ok (.putfield 117, 3) := by decide +kernel
theorem dX12_goesOn_169 : decode cX12_goesOn 169 = .ok (.iload_n 2, 1) := by decide +kernel
theorem dX12_goesOn_170 : decode cX12_goesOn 170 = .ok (.bipush 8, 2) := by decide +kernel
theorem dX12_goesOn_172 : decode cX12_goesOn 172 = .ok (.if_icmp .gt 126, 3) := by decide +kernel
theorem dX12_goesOn_175 : decode cX12_goesOn 175 = .ok (.aload_n 0, 1) := by decide +kernel
theorem dX12_goesOn_176 : decode cX12_goesOn 176 = .ok (.iconst 2, 1) := by decide +kernel
theorem dX12_goesOn_177 : decode cX12_goesOn 177 = .ok (.putfield 94, 3) := by decide +kernel
theorem dX12_goesOn_180 : decode cX12_goesOn 180 = .ok (.goto 118, 3) := by decide +kernel
theorem dX12_goesOn_183 : decode cX12_goesOn 183 = .ok (.iload_n 1, 1) := by decide +kernel
theorem dX12_goesOn_184 : decode cX12_goesOn 184 = .ok (.invokestatic 120, 3) := by decide +kernel
theorem dX12_goesOn_187 : decode cX12_goesOn 187 = .ok (.ifCond .eq 79, 3) := by decide +kernel
theorem dX12_goesOn_190 : decode cX12_goesOn 190 = .ok (.aload_n 0, 1) := by decide +kernel
theorem dX12_goesOn_191 : decode cX12_goesOn 191 = .ok (.iconst 0, 1) := by decide +kernel
theorem dX12_goesOn_192 : decode cX12_goesOn 192 = .ok (.putfield 123, 3) := by decide +kernel
theorem dX12_goesOn_195 : decode cX12_goesOn 195 = .ok (.aload_n 0, 1) := by decide +kernel
theorem dX12_goesOn_196 : decode cX12_goesOn 196 = .ok (.aload_n 0, 1) := by decide +kernel
theorem dX12_goesOn_197 : decode cX12_goesOn 197 = .ok (.getfield 97, 3) := by decide +kernel
theorem dX12_goesOn_200 : decode cX12_goesOn 200 = .ok (.invokevirtual 100, 3) := by decide +kernel
theorem dX12_goesOn_203 : decode cX12_goesOn 203 = .ok (.invokestatic 120, 3) := by decide +kernel
theorem dX12_goesOn_206 : decode cX12_goesOn 206 = .ok (.ifCond .eq 47, 3) := by decide +kernel
theorem dX12_goesOn_209 : decode cX12_goesOn 209 = .ok (.iload_n 2, 1) := by decide +kernel
theorem dX12_goesOn_210 : decode cX12_goesOn 210 = .ok (.iconst 3, 1) := by decide +kernel
theorem dX12_goesOn_211 : decode cX12_goesOn 211 = .ok (.if_icmp .ge 26, 3) := by decide +kernel
theorem dX12_goesOn_214 : decode cX12_goesOn 214 = .ok (.aload_n 0, 1) := by decide +kernel
theorem dX12_goesOn_215 : decode cX12_goesOn 215 = .ok (.bipush 10, 2) := by decide +kernel
theorem dX12_goesOn_217 : decode cX12_goesOn 217 = .ok (.aload_n 0, 1) := by decide +kernel
theorem dX12_goesOn_218 : decode cX12_goesOn 218 = .ok (.getfield 123, 3) := by decide +kernel
theorem dX12_goesOn_221 : decode cX12_goesOn 221 = .ok (.imul, 1) := by decide +kernel
theorem dX12_goesOn_222 : decode cX12_goesOn 222 = .ok (.aload_n 0, 1) := by decide +kernel
theorem dX12_goesOn_223 : decode cX12_goesOn 223 = .ok (.aload_n 0, 1) := by decide +kernel
theorem dX12_goesOn_224 : decode cX12_goesOn 224 = .ok (.getfield 97, 3) := by decide +kernel
theorem dX12_goesOn_227 : decode cX12_goesOn 227 = .ok (.invokevirtual 100, 3) := by decide +kernel
theorem dX12_goesOn_230 : decode cX12_goesOn 230 = .ok (.iadd, 1) := by decide +kernel
theorem dX12_goesOn_231 : decode cX12_goesOn 231 = .ok (.bipush 48, 2) := by decide +kernel
theorem dX12_goesOn_233 : decode cX12_goesOn 233 = .ok (.isub, 1) := by decide +kernel
theorem dX12_goesOn_234 : decode cX12_goesOn 234 = .ok (.putfield 123, 3) := by decide +kernel
theorem dX12_goesOn_237 : decode cX12_goesOn 237 = .ok (.iinc 2 1, 3) := by decide +kernel
theorem dX12_goesOn_240 : decode cX12_goesOn 240 = .ok (.aload_n 0, 1) := by decide +kernel
theorem dX12_goesOn_241 : decode cX12_goesOn 241 = .ok (.dup, 1) := by decide +kernel
theorem dX12_goesOn_242 : decode cX12_goesOn 242 = .ok (.getfield 97, 3) := by decide +kernel
theorem dX12_goesOn_245 : decode cX12_goesOn 245 = .ok (.iconst 1, 1) := by decide +kernel
theorem dX12_goesOn_246 : decode cX12_goesOn 246 = .ok (.iadd, 1) := by decide +kernel
theorem dX12_goesOn_247 : decode cX12_goesOn 247 = .ok (.putfield 97, 3) := by decide +kernel
theorem dX12_goesOn_250 : decode cX12_goesOn 250 = .ok (.goto (-55), 3) := by decide +kernel
theorem dX12_goesOn_253 : decode cX12_goesOn 253 = .ok (.iload_n 2, 1) := by decide +kernel
theorem dX12_goesOn_254 : decode cX12_goesOn 254 = .ok (.iconst 3, 1) := by decide +kernel
theorem dX12_goesOn_255 : decode cX12_goesOn 255 = .ok (.if_icmp .gt 43, 3) := by decide +kernel
theorem dX12_goesOn_258 : decode cX12_goesOn 258 = .ok (.aload_n 0, 1) := by decide +kernel
theorem dX12_goesOn_259 : decode cX12_goesOn 259 = .ok (.iconst 3, 1) := by decide +kernel
theorem dX12_goesOn_260 : decode cX12_goesOn 260 = .ok (.putfield 94, 3) := by decide +kernel
theorem dX12_goesOn_263 : decode cX12_goesOn 263 = .ok (.goto 35, 3) := by decide +kernel
theorem dX12_goesOn_266 : decode cX12_goesOn 266 = .ok (.iload_n 1, 1) := by decide +kernel
theorem dX12_goesOn_267 : decode cX12_goesOn 267 = .ok (.bipush 59, 2) := by decide +kernel
theorem dX12_goesOn_269 : decode cX12_goesOn 269 = .ok (.if_icmp .eq 9, 3) := by decide +kernel
theorem dX12_goesOn_272 : decode cX12_goesOn 272 = .ok (.iload_n 1, 1) := by decide +kernel
theorem dX12_goesOn_273 : decode cX12_goesOn 273 = .ok (.bipush 44, 2) := by decide +kernel
theorem dX12_goesOn_275 : decode cX12_goesOn 275 = .ok (.if_icmp .ne 23, 3) := by decide +kernel
theorem dX12_goesOn_278 : decode cX12_goesOn 278 = .ok (.aload_n 0, 1) := by decide +kernel
theorem dX12_goesOn_279 : decode cX12_goesOn 279 = .ok (.iconst 4, 1) := by decide +kernel
theorem dX12_goesOn_280 : decode cX12_goesOn 280 = .ok (.putfield 94, 3) := by decide +kernel
theorem dX12_goesOn_283 : decode cX12_goesOn 283 = .ok (.aload_n 0, 1) := by decide +kernel
theorem dX12_goesOn_284 : decode cX12_goesOn 284 = .ok (.iload_n 1, 1) := by decide +kernel
theorem dX12_goesOn_285 : decode cX12_goesOn 285 = .ok (.putfield 106, 3) := by decide +kernel
theorem dX12_goesOn_288 : decode cX12_goesOn 288 = .ok (.aload_n 0, 1) := by decide +kernel
theorem dX12_goesOn_289 : decode cX12_goesOn 289 = .ok (.dup, 1) := by decide +kernel
theorem dX12_goesOn_290 : decode cX12_goesOn 290 = .ok (.getfield 97, 3) := by decide +kernel
theorem dX12_goesOn_293 : decode cX12_goesOn 293 = .ok (.iconst 1, 1) := by decide +kernel
theorem dX12_goesOn_294 : decode cX12_goesOn 294 = .ok (.iadd, 1) := by decide +kernel
theorem dX12_goesOn_295 : decode cX12_goesOn 295 = .ok (.putfield 97, 3) := by decide +kernel
theorem dX12_goesOn_298 : decode cX12_goesOn 298 = .ok (.return_, 1) := by decide +kernel
theorem dX12_flaw_0 : decode cX12_flaw 0 = .ok (.aload_n 0, 1) := by decide +kernel
theorem dX12_flaw_1 : decode cX12_flaw 1 = .ok (.getfield 94, 3) := by decide +kernel
theorem dX12_flaw_4 : decode cX12_flaw 4 = .ok (.iconst 5, 1) := by decide +kernel
theorem dX12_flaw_5 : decode cX12_flaw 5 = .ok (.if_icmp .ne 4, 3) := by decide +kernel
theorem dX12_flaw_8 : decode cX12_flaw 8 = .ok (.return_, 1) := by decide +kernel
theorem dX12_flaw_9 : decode cX12_flaw 9 = .ok (.aload_n 0, 1) := by decide +kernel
theorem dX12_flaw_10 : decode cX12_flaw 10 = .ok (.iload_n 1, 1) := by decide +kernel
theorem dX12_flaw_11 : decode cX12_flaw 11 = .ok (.putfield 126, 3) := by decide +kernel
theorem dX12_flaw_14 : decode cX12_flaw 14 = .ok (.aload_n 0, 1) := by decide +kernel
theorem dX12_flaw_15 : decode cX12_flaw 15 = .ok (.aload_n 0, 1) := by decide +kernel
theorem dX12_flaw_16 : decode cX12_flaw 16 = .ok (.getfield 103, 3) := by decide +kernel
theorem dX12_flaw_19 : decode cX12_flaw 19 = .ok (.putfield 129, 3) := by decide +kernel
theorem dX12_flaw_22 : decode cX12_flaw 22 = .ok (.aload_n 0, 1) := by decide +kernel
theorem dX12_flaw_23 : decode cX12_flaw 23 = .ok (.iconst 5, 1) := by decide +kernel
theorem dX12_flaw_24 : decode cX12_flaw 24 = .ok (.putfield 94, 3) := by decide +kernel
theorem dX12_flaw_27 : decode cX12_flaw 27 = .ok (.return_, 1) := by decide +kernel
theorem dX12_isWord_0 : decode cX12_isWord 0 = .ok (.aload_n 0, 1) := by decide +kernel
theorem dX12_isWord_1 : decode cX12_isWord 1 = .ok (.getfield 94, 3) := by decide +kernel
theorem dX12_isWord_4 : decode cX12_isWord 4 = .ok (.iconst 2, 1) := by decide +kernel
theorem dX12_isWord_5 : decode cX12_isWord 5 = .ok (.if_icmp .ne 19, 3) := by decide +kernel
theorem dX12_isWord_8 : decode cX12_isWord 8 = .ok (.aload_n 0, 1) := by decide +kernel
theorem dX12_isWord_9 : decode cX12_isWord 9 = .ok (.getfield 113, 3) := by decide +kernel
theorem dX12_isWord_12 : decode cX12_isWord 12 = .ok (.aload_n 1, 1) := by decide +kernel
theorem dX12_isWord_13 : decode cX12_isWord 13 = .ok (.invokestatic 132, 3) := by decide +kernel
theorem dX12_isWord_16 : decode cX12_isWord 16 = .ok (.lcmp, 1) := by decide +kernel
theorem dX12_isWord_17 : decode cX12_isWord 17 = .ok (.ifCond .ne 7, 3) := by decide +kernel
theorem dX12_isWord_20 : decode cX12_isWord 20 = .ok (.iconst 1, 1) := by decide +kernel
theorem dX12_isWord_21 : decode cX12_isWord 21 = .ok (.goto 4, 3) := by decide +kernel
theorem dX12_isWord_24 : decode cX12_isWord 24 = .ok (.iconst 0, 1) := by decide +kernel
theorem dX12_isWord_25 : decode cX12_isWord 25 = .ok (.ireturn, 1) := by decide +kernel
theorem dX12_eatsWord_0 : decode cX12_eatsWord 0 = .ok (.aload_n 0, 1) := by decide +kernel
theorem dX12_eatsWord_1 : decode cX12_eatsWord 1 = .ok (.aload_n 1, 1) := by decide +kernel
theorem dX12_eatsWord_2 : decode cX12_eatsWord 2 = .ok (.invokevirtual 136, 3) := by decide +kernel
theorem dX12_eatsWord_5 : decode cX12_eatsWord 5 = .ok (.istore_n 2, 1) := by decide +kernel
theorem dX12_eatsWord_6 : decode cX12_eatsWord 6 = .ok (.iload_n 2, 1) := by decide +kernel
theorem dX12_eatsWord_7 : decode cX12_eatsWord 7 = .ok (.ifCond .eq 7, 3) := by decide +kernel
theorem dX12_eatsWord_10 : decode cX12_eatsWord 10 = .ok (.aload_n 0, 1) := by decide +kernel
theorem dX12_eatsWord_11 : decode cX12_eatsWord 11 = .ok (.invokevirtual 140, 3) := by decide +kernel
theorem dX12_eatsWord_14 : decode cX12_eatsWord 14 = .ok (.iload_n 2, 1) := by decide +kernel
theorem dX12_eatsWord_15 : decode cX12_eatsWord 15 = .ok (.ireturn, 1) := by decide +kernel
theorem dX12_eatsSign_0 : decode cX12_eatsSign 0 = .ok (.aload_n 0, 1) := by decide +kernel
theorem dX12_eatsSign_1 : decode cX12_eatsSign 1 = .ok (.getfield 94, 3) := by decide +kernel
theorem dX12_eatsSign_4 : decode cX12_eatsSign 4 = .ok (.iconst 4, 1) := by decide +kernel
theorem dX12_eatsSign_5 : decode cX12_eatsSign 5 = .ok (.if_icmp .ne 15, 3) := by decide +kernel
theorem dX12_eatsSign_8 : decode cX12_eatsSign 8 = .ok (.aload_n 0, 1) := by decide +kernel
theorem dX12_eatsSign_9 : decode cX12_eatsSign 9 = .ok (.getfield 106, 3) := by decide +kernel
theorem dX12_eatsSign_12 : decode cX12_eatsSign 12 = .ok (.iload_n 1, 1) := by decide +kernel
theorem dX12_eatsSign_13 : decode cX12_eatsSign 13 = .ok (.if_icmp .ne 7, 3) := by decide +kernel
theorem dX12_eatsSign_16 : decode cX12_eatsSign 16 = .ok (.iconst 1, 1) := by decide +kernel
theorem dX12_eatsSign_17 : decode cX12_eatsSign 17 = .ok (.goto 4, 3) := by decide +kernel
theorem dX12_eatsSign_20 : decode cX12_eatsSign 20 = .ok (.iconst 0, 1) := by decide +kernel
theorem dX12_eatsSign_21 : decode cX12_eatsSign 21 = .ok (.istore_n 2, 1) := by decide +kernel
theorem dX12_eatsSign_22 : decode cX12_eatsSign 22 = .ok (.iload_n 2, 1) := by decide +kernel
theorem dX12_eatsSign_23 : decode cX12_eatsSign 23 = .ok (.ifCond .eq 7, 3) := by decide +kernel
theorem dX12_eatsSign_26 : decode cX12_eatsSign 26 = .ok (.aload_n 0, 1) := by decide +kernel
theorem dX12_eatsSign_27 : decode cX12_eatsSign 27 = .ok (.invokevirtual 140, 3) := by decide +kernel
theorem dX12_eatsSign_30 : decode cX12_eatsSign 30 = .ok (.iload_n 2, 1) := by decide +kernel
theorem dX12_eatsSign_31 : decode cX12_eatsSign 31 = .ok (.ireturn, 1) := by decide +kernel
theorem dX12_needs_0 : decode cX12_needs 0 = .ok (.aload_n 0, 1) := by decide +kernel
theorem dX12_needs_1 : decode cX12_needs 1 = .ok (.aload_n 1, 1) := by decide +kernel
theorem dX12_needs_2 : decode cX12_needs 2 = .ok (.invokevirtual 136, 3) := by decide +kernel
theorem dX12_needs_5 : decode cX12_needs 5 = .ok (.ifCond .ne 8, 3) := by decide +kernel
theorem dX12_needs_8 : decode cX12_needs 8 = .ok (.aload_n 0, 1) := by decide +kernel
theorem dX12_needs_9 : decode cX12_needs 9 = .ok (.iconst 1, 1) := by decide +kernel
theorem dX12_needs_10 : decode cX12_needs 10 = .ok (.invokevirtual 143, 3) := by decide +kernel
theorem dX12_needs_13 : decode cX12_needs 13 = .ok (.aload_n 0, 1) := by decide +kernel
theorem dX12_needs_14 : decode cX12_needs 14 = .ok (.invokevirtual 140, 3) := by decide +kernel
theorem dX12_needs_17 : decode cX12_needs 17 = .ok (.return_, 1) := by decide +kernel
theorem dX12_needsSign_0 : decode cX12_needsSign 0 = .ok (.aload_n 0, 1) := by decide +kernel
theorem dX12_needsSign_1 : decode cX12_needsSign 1 = .ok (.getfield 94, 3) := by decide +kernel
theorem dX12_needsSign_4 : decode cX12_needsSign 4 = .ok (.iconst 4, 1) := by decide +kernel
theorem dX12_needsSign_5 : decode cX12_needsSign 5 = .ok (.if_icmp .ne 11, 3) := by decide +kernel
theorem dX12_needsSign_8 : decode cX12_needsSign 8 = .ok (.aload_n 0, 1) := by decide +kernel
theorem dX12_needsSign_9 : decode cX12_needsSign 9 = .ok (.getfield 106, 3) := by decide +kernel
theorem dX12_needsSign_12 : decode cX12_needsSign 12 = .ok (.iload_n 1, 1) := by decide +kernel
theorem dX12_needsSign_13 : decode cX12_needsSign 13 = .ok (.if_icmp .eq 8, 3) := by decide +kernel
theorem dX12_needsSign_16 : decode cX12_needsSign 16 = .ok (.aload_n 0, 1) := by decide +kernel
theorem dX12_needsSign_17 : decode cX12_needsSign 17 = .ok (.iconst 1, 1) := by decide +kernel
theorem dX12_needsSign_18 : decode cX12_needsSign 18 = .ok (.invokevirtual 143, 3) := by decide +kernel
theorem dX12_needsSign_21 : decode cX12_needsSign 21 = .ok (.aload_n 0, 1) := by decide +kernel
theorem dX12_needsSign_22 : decode cX12_needsSign 22 = .ok (.invokevirtual 140, 3) := by decide +kernel
theorem dX12_needsSign_25 : decode cX12_needsSign 25 = .ok (.return_, 1) := by decide +kernel
theorem dX12_bounded_0 : decode cX12_bounded 0 = .ok (.aload_n 0, 1) := by decide +kernel
theorem dX12_bounded_1 : decode cX12_bounded 1 = .ok (.getfield 94, 3) := by decide +kernel
theorem dX12_bounded_4 : decode cX12_bounded 4 = .ok (.iconst 3, 1) := by decide +kernel
theorem dX12_bounded_5 : decode cX12_bounded 5 = .ok (.if_icmp .eq 11, 3) := by decide +kernel
theorem dX12_bounded_8 : decode cX12_bounded 8 = .ok (.aload_n 0, 1) := by decide +kernel
theorem dX12_bounded_9 : decode cX12_bounded 9 = .ok (.iconst 1, 1) := by decide +kernel
theorem dX12_bounded_10 : decode cX12_bounded 10 = .ok (.invokevirtual 143, 3) := by decide +kernel
theorem dX12_bounded_13 : decode cX12_bounded 13 = .ok (.goto 20, 3) := by decide +kernel
theorem dX12_bounded_16 : decode cX12_bounded 16 = .ok (.aload_n 0, 1) := by decide +kernel
theorem dX12_bounded_17 : decode cX12_bounded 17 = .ok (.getfield 123, 3) := by decide +kernel
theorem dX12_bounded_20 : decode cX12_bounded 20 = .ok (.iload_n 1, 1) := by decide +kernel
theorem dX12_bounded_21 : decode cX12_bounded 21 = .ok (.iload_n 2, 1) := by decide +kernel
theorem dX12_bounded_22 : decode cX12_bounded 22 = .ok (.invokestatic 147, 3) := by decide +kernel
theorem dX12_bounded_25 : decode cX12_bounded 25 = .ok (.ifCond .ne 8, 3) := by decide +kernel
theorem dX12_bounded_28 : decode cX12_bounded 28 = .ok (.aload_n 0, 1) := by decide +kernel
theorem dX12_bounded_29 : decode cX12_bounded 29 = .ok (.iconst 4, 1) := by decide +kernel
theorem dX12_bounded_30 : decode cX12_bounded 30 = .ok (.invokevirtual 143, 3) := by decide +kernel
theorem dX12_bounded_33 : decode cX12_bounded 33 = .ok (.aload_n 0, 1) := by decide +kernel
theorem dX12_bounded_34 : decode cX12_bounded 34 = .ok (.getfield 94, 3) := by decide +kernel
theorem dX12_bounded_37 : decode cX12_bounded 37 = .ok (.iconst 5, 1) := by decide +kernel
theorem dX12_bounded_38 : decode cX12_bounded 38 = .ok (.if_icmp .ne 7, 3) := by decide +kernel
theorem dX12_bounded_41 : decode cX12_bounded 41 = .ok (.iload_n 1, 1) := by decide +kernel
theorem dX12_bounded_42 : decode cX12_bounded 42 = .ok (.goto 7, 3) := by decide +kernel
theorem dX12_bounded_45 : decode cX12_bounded 45 = .ok (.aload_n 0, 1) := by decide +kernel
theorem dX12_bounded_46 : decode cX12_bounded 46 = .ok (.getfield 123, 3) := by decide +kernel
theorem dX12_bounded_49 : decode cX12_bounded 49 = .ok (.ireturn, 1) := by decide +kernel
theorem dX12_readWhole_0 : decode cX12_readWhole 0 = .ok (.aload_n 0, 1) := by decide +kernel
theorem dX12_readWhole_1 : decode cX12_readWhole 1 = .ok (.iload_n 1, 1) := by decide +kernel
theorem dX12_readWhole_2 : decode cX12_readWhole 2 = .ok (.iload_n 2, 1) := by decide +kernel
theorem dX12_readWhole_3 : decode cX12_readWhole 3 = .ok (.invokevirtual 151, 3) := by decide +kernel
theorem dX12_readWhole_6 : decode cX12_readWhole 6 = .ok (.istore_n 3, 1) := by decide +kernel
theorem dX12_readWhole_7 : decode cX12_readWhole 7 = .ok (.aload_n 0, 1) := by decide +kernel
theorem dX12_readWhole_8 : decode cX12_readWhole 8 = .ok (.invokevirtual 140, 3) := by decide +kernel
theorem dX12_readWhole_11 : decode cX12_readWhole 11 = .ok (.iload_n 3, 1) := by decide +kernel
theorem dX12_readWhole_12 : decode cX12_readWhole 12 = .ok (.ireturn, 1) := by decide +kernel
theorem dX12_readPart_0 : decode cX12_readPart 0 = .ok (.aload_n 0, 1) := by decide +kernel
theorem dX12_readPart_1 : decode cX12_readPart 1 = .ok (.aload_n 1, 1) := by decide +kernel
theorem dX12_readPart_2 : decode cX12_readPart 2 = .ok (.invokevirtual 155, 3) := by decide +kernel
theorem dX12_readPart_5 : decode cX12_readPart 5 = .ok (.aload_n 0, 1) := by decide +kernel
theorem dX12_readPart_6 : decode cX12_readPart 6 = .ok (.iload_n 2, 1) := by decide +kernel
theorem dX12_readPart_7 : decode cX12_readPart 7 = .ok (.iload_n 3, 1) := by decide +kernel
theorem dX12_readPart_8 : decode cX12_readPart 8 = .ok (.invokevirtual 159, 3) := by decide +kernel
theorem dX12_readPart_11 : decode cX12_readPart 11 = .ok (.ireturn, 1) := by decide +kernel
theorem dX12_begins_0 : decode cX12_begins 0 = .ok (.iload_n 1, 1) := by decide +kernel
theorem dX12_begins_1 : decode cX12_begins 1 = .ok (.iload_n 2, 1) := by decide +kernel
theorem dX12_begins_2 : decode cX12_begins 2 = .ok (.if_icmp .ne 8, 3) := by decide +kernel
theorem dX12_begins_5 : decode cX12_begins 5 = .ok (.aload_n 0, 1) := by decide +kernel
theorem dX12_begins_6 : decode cX12_begins 6 = .ok (.iconst 5, 1) := by decide +kernel
theorem dX12_begins_7 : decode cX12_begins 7 = .ok (.invokevirtual 143, 3) := by decide +kernel
theorem dX12_begins_10 : decode cX12_begins 10 = .ok (.aload_n 0, 1) := by decide +kernel
theorem dX12_begins_11 : decode cX12_begins 11 = .ok (.getfield 162, 3) := by decide +kernel
theorem dX12_begins_14 : decode cX12_begins 14 = .ok (.getfield 166, 3) := by decide +kernel
theorem dX12_begins_17 : decode cX12_begins 17 = .ok (.ifCond .ne 9, 3) := by decide +kernel
theorem dX12_begins_20 : decode cX12_begins 20 = .ok (.aload_n 0, 1) := by decide +kernel
theorem dX12_begins_21 : decode cX12_begins 21 = .ok (.bipush 6, 2) := by decide +kernel
theorem dX12_begins_23 : decode cX12_begins 23 = .ok (.invokevirtual 143, 3) := by decide +kernel
theorem dX12_begins_26 : decode cX12_begins 26 = .ok (.aload_n 0, 1) := by decide +kernel
theorem dX12_begins_27 : decode cX12_begins 27 = .ok (.invokevirtual 140, 3) := by decide +kernel
theorem dX12_begins_30 : decode cX12_begins 30 = .ok (.return_, 1) := by decide +kernel
theorem dX12_readCell_0 : decode cX12_readCell 0 = .ok (.aload_n 0, 1) := by decide +kernel
theorem dX12_readCell_1 : decode cX12_readCell 1 = .ok (.iconst 0, 1) := by decide +kernel
theorem dX12_readCell_2 : decode cX12_readCell 2 = .ok (.aload_n 0, 1) := by decide +kernel
theorem dX12_readCell_3 : decode cX12_readCell 3 = .ok (.getfield 162, 3) := by decide +kernel
theorem dX12_readCell_6 : decode cX12_readCell 6 = .ok (.getfield 166, 3) := by decide +kernel
theorem dX12_readCell_9 : decode cX12_readCell 9 = .ok (.iconst 1, 1) := by decide +kernel
theorem dX12_readCell_10 : decode cX12_readCell 10 = .ok (.isub, 1) := by decide +kernel
theorem dX12_readCell_11 : decode cX12_readCell 11 = .ok (.invokevirtual 159, 3) := by decide +kernel
theorem dX12_readCell_14 : decode cX12_readCell 14 = .ok (.istore_n 1, 1) := by decide +kernel
theorem dX12_readCell_15 : decode cX12_readCell 15 = .ok (.aload_n 0, 1) := by decide +kernel
theorem dX12_readCell_16 : decode cX12_readCell 16 = .ok (.bipush 44, 2) := by decide +kernel
theorem dX12_readCell_18 : decode cX12_readCell 18 = .ok (.invokevirtual 171, 3) := by decide +kernel
theorem dX12_readCell_21 : decode cX12_readCell 21 = .ok (.aload_n 0, 1) := by decide +kernel
theorem dX12_readCell_22 : decode cX12_readCell 22 = .ok (.iconst 0, 1) := by decide +kernel
theorem dX12_readCell_23 : decode cX12_readCell 23 = .ok (.aload_n 0, 1) := by decide +kernel
theorem dX12_readCell_24 : decode cX12_readCell 24 = .ok (.getfield 162, 3) := by decide +kernel
theorem dX12_readCell_27 : decode cX12_readCell 27 = .ok (.getfield 174, 3) := by decide +kernel
theorem dX12_readCell_30 : decode cX12_readCell 30 = .ok (.iconst 1, 1) := by decide +kernel
theorem dX12_readCell_31 : decode cX12_readCell 31 = .ok (.isub, 1) := by decide +kernel
theorem dX12_readCell_32 : decode cX12_readCell 32 = .ok (.invokevirtual 159, 3) := by decide +kernel
theorem dX12_readCell_35 : decode cX12_readCell 35 = .ok (.istore_n 2, 1) := by decide +kernel
theorem dX12_readCell_36 : decode cX12_readCell 36 = .ok (.aload_n 0, 1) := by decide +kernel
theorem dX12_readCell_37 : decode cX12_readCell 37 = .ok (.getfield 162, 3) := by decide +kernel
theorem dX12_readCell_40 : decode cX12_readCell 40 = .ok (.getfield 166, 3) := by decide +kernel
theorem dX12_readCell_43 : decode cX12_readCell 43 = .ok (.iload_n 2, 1) := by decide +kernel
theorem dX12_readCell_44 : decode cX12_readCell 44 = .ok (.imul, 1) := by decide +kernel
theorem dX12_readCell_45 : decode cX12_readCell 45 = .ok (.iload_n 1, 1) := by decide +kernel
theorem dX12_readCell_46 : decode cX12_readCell 46 = .ok (.iadd, 1) := by decide +kernel
theorem dX12_readCell_47 : decode cX12_readCell 47 = .ok (.ireturn, 1) := by decide +kernel
theorem dX12_readAll_0 : decode cX12_readAll 0 = .ok (.iconst 1, 1) := by decide +kernel
theorem dX12_readAll_1 : decode cX12_readAll 1 = .ok (.istore_n 1, 1) := by decide +kernel
theorem dX12_readAll_2 : decode cX12_readAll 2 = .ok (.iload_n 1, 1) := by decide +kernel
theorem dX12_readAll_3 : decode cX12_readAll 3 = .ok (.ifCond .eq 17, 3) := by decide +kernel
theorem dX12_readAll_6 : decode cX12_readAll 6 = .ok (.aload_n 0, 1) := by decide +kernel
theorem dX12_readAll_7 : decode cX12_readAll 7 = .ok (.invokevirtual 177, 3) := by decide +kernel
theorem dX12_readAll_10 : decode cX12_readAll 10 = .ok (.aload_n 0, 1) := by decide +kernel
theorem dX12_readAll_11 : decode cX12_readAll 11 = .ok (.bipush 59, 2) := by decide +kernel
theorem dX12_readAll_13 : decode cX12_readAll 13 = .ok (.invokevirtual 180, 3) := by decide +kernel
theorem dX12_readAll_16 : decode cX12_readAll 16 = .ok (.istore_n 1, 1) := by decide +kernel
theorem dX12_readAll_17 : decode cX12_readAll 17 = .ok (.goto (-15), 3) := by decide +kernel
theorem dX12_readAll_20 : decode cX12_readAll 20 = .ok (.aload_n 0, 1) := by decide +kernel
theorem dX12_readAll_21 : decode cX12_readAll 21 = .ok (.getfield 94, 3) := by decide +kernel
theorem dX12_readAll_24 : decode cX12_readAll 24 = .ok (.iconst 1, 1) := by decide +kernel
theorem dX12_readAll_25 : decode cX12_readAll 25 = .ok (.if_icmp .eq 8, 3) := by decide +kernel
theorem dX12_readAll_28 : decode cX12_readAll 28 = .ok (.aload_n 0, 1) := by decide +kernel
theorem dX12_readAll_29 : decode cX12_readAll 29 = .ok (.iconst 1, 1) := by decide +kernel
theorem dX12_readAll_30 : decode cX12_readAll 30 = .ok (.invokevirtual 143, 3) := by decide +kernel
theorem dX12_readAll_33 : decode cX12_readAll 33 = .ok (.aload_n 0, 1) := by decide +kernel
theorem dX12_readAll_34 : decode cX12_readAll 34 = .ok (.getfield 162, 3) := by decide +kernel
theorem dX12_readAll_37 : decode cX12_readAll 37 = .ok (.getfield 166, 3) := by decide +kernel
theorem dX12_readAll_40 : decode cX12_readAll 40 = .ok (.ifCond .eq 20, 3) := by decide +kernel
theorem dX12_readAll_43 : decode cX12_readAll 43 = .ok (.aload_n 0, 1) := by decide +kernel
theorem dX12_readAll_44 : decode cX12_readAll 44 = .ok (.getfield 162, 3) := by decide +kernel
theorem dX12_readAll_47 : decode cX12_readAll 47 = .ok (.getfield 183, 3) := by decide +kernel
theorem dX12_readAll_50 : decode cX12_readAll 50 = .ok (.aload_n 0, 1) := by decide +kernel
theorem dX12_readAll_51 : decode cX12_readAll 51 = .ok (.getfield 162, 3) := by decide +kernel
theorem dX12_readAll_54 : decode cX12_readAll 54 = .ok (.getfield 174, 3) := by decide +kernel
theorem dX12_readAll_57 : decode cX12_readAll 57 = .ok (.if_icmp .ge 9, 3) := by decide +kernel
theorem dX12_readAll_60 : decode cX12_readAll 60 = .ok (.aload_n 0, 1) := by decide +kernel
theorem dX12_readAll_61 : decode cX12_readAll 61 = .ok (.bipush 6, 2) := by decide +kernel
theorem dX12_readAll_63 : decode cX12_readAll 63 = .ok (.invokevirtual 143, 3) := by decide +kernel
theorem dX12_readAll_66 : decode cX12_readAll 66 = .ok (.return_, 1) := by decide +kernel
theorem dX12_readLine_0 : decode cX12_readLine 0 = .ok (.aload_n 0, 1) := by decide +kernel
theorem dX12_readLine_1 : decode cX12_readLine 1 = .ok (.ldc 186, 2) := by decide +kernel
theorem dX12_readLine_3 : decode cX12_readLine 3 = .ok (.invokevirtual 136, 3) := by decide +kernel
theorem dX12_readLine_6 : decode cX12_readLine 6 = .ok (.ifCond .eq 10, 3) := by decide +kernel
theorem dX12_readLine_9 : decode cX12_readLine 9 = .ok (.aload_n 0, 1) := by decide +kernel
theorem dX12_readLine_10 : decode cX12_readLine 10 = .ok (.invokevirtual 188, 3) := by decide +kernel
theorem dX12_readLine_13 : decode cX12_readLine 13 = .ok (.goto 120, 3) := by decide +kernel
theorem dX12_readLine_16 : decode cX12_readLine 16 = .ok (.aload_n 0, 1) := by decide +kernel
theorem dX12_readLine_17 : decode cX12_readLine 17 = .ok (.ldc 191, 2) := by decide +kernel
theorem dX12_readLine_19 : decode cX12_readLine 19 = .ok (.invokevirtual 136, 3) := by decide +kernel
theorem dX12_readLine_22 : decode cX12_readLine 22 = .ok (.ifCond .eq 10, 3) := by decide +kernel
theorem dX12_readLine_25 : decode cX12_readLine 25 = .ok (.aload_n 0, 1) := by decide +kernel
theorem dX12_readLine_26 : decode cX12_readLine 26 = .ok (.invokevirtual 192, 3) := by decide +kernel
theorem dX12_readLine_29 : decode cX12_readLine 29 = .ok (.goto 104, 3) := by decide +kernel
theorem dX12_readLine_32 : decode cX12_readLine 32 = .ok (.aload_n 0, 1) := by decide +kernel
theorem dX12_readLine_33 : decode cX12_readLine 33 = .ok (.ldc 195, 2) := by decide +kernel
theorem dX12_readLine_35 : decode cX12_readLine 35 = .ok (.invokevirtual 136, 3) := by decide +kernel
theorem dX12_readLine_38 : decode cX12_readLine 38 = .ok (.ifCond .eq 10, 3) := by decide +kernel
theorem dX12_readLine_41 : decode cX12_readLine 41 = .ok (.aload_n 0, 1) := by decide +kernel
theorem dX12_readLine_42 : decode cX12_readLine 42 = .ok (.invokevirtual 197, 3) := by decide +kernel
theorem dX12_readLine_45 : decode cX12_readLine 45 = .ok (.goto 88, 3) := by decide +kernel
theorem dX12_readLine_48 : decode cX12_readLine 48 = .ok (.aload_n 0, 1) := by decide +kernel
theorem dX12_readLine_49 : decode cX12_readLine 49 = .ok (.ldc 200, 2) := by decide +kernel
theorem dX12_readLine_51 : decode cX12_readLine 51 = .ok (.invokevirtual 136, 3) := by decide +kernel
theorem dX12_readLine_54 : decode cX12_readLine 54 = .ok (.ifCond .eq 10, 3) := by decide +kernel
theorem dX12_readLine_57 : decode cX12_readLine 57 = .ok (.aload_n 0, 1) := by decide +kernel
theorem dX12_readLine_58 : decode cX12_readLine 58 = .ok (.invokevirtual 202, 3) := by decide +kernel
theorem dX12_readLine_61 : decode cX12_readLine 61 = .ok (.goto 72, 3) := by decide +kernel
theorem dX12_readLine_64 : decode cX12_readLine 64 = .ok (.aload_n 0, 1) := by decide +kernel
theorem dX12_readLine_65 : decode cX12_readLine 65 = .ok (.ldc 205, 2) := by decide +kernel
theorem dX12_readLine_67 : decode cX12_readLine 67 = .ok (.invokevirtual 136, 3) := by decide +kernel
theorem dX12_readLine_70 : decode cX12_readLine 70 = .ok (.ifCond .eq 10, 3) := by decide +kernel
theorem dX12_readLine_73 : decode cX12_readLine 73 = .ok (.aload_n 0, 1) := by decide +kernel
theorem dX12_readLine_74 : decode cX12_readLine 74 = .ok (.invokevirtual 207, 3) := by decide +kernel
theorem dX12_readLine_77 : decode cX12_readLine 77 = .ok (.goto 56, 3) := by decide +kernel
theorem dX12_readLine_80 : decode cX12_readLine 80 = .ok (.aload_n 0, 1) := by decide +kernel
theorem dX12_readLine_81 : decode cX12_readLine 81 = .ok (.ldc 210, 2) := by decide +kernel
theorem dX12_readLine_83 : decode cX12_readLine 83 = .ok (.invokevirtual 136, 3) := by decide +kernel
theorem dX12_readLine_86 : decode cX12_readLine 86 = .ok (.ifCond .eq 10, 3) := by decide +kernel
theorem dX12_readLine_89 : decode cX12_readLine 89 = .ok (.aload_n 0, 1) := by decide +kernel
theorem dX12_readLine_90 : decode cX12_readLine 90 = .ok (.invokevirtual 212, 3) := by decide +kernel
theorem dX12_readLine_93 : decode cX12_readLine 93 = .ok (.goto 40, 3) := by decide +kernel
theorem dX12_readLine_96 : decode cX12_readLine 96 = .ok (.aload_n 0, 1) := by decide +kernel
theorem dX12_readLine_97 : decode cX12_readLine 97 = .ok (.ldc 215, 2) := by decide +kernel
theorem dX12_readLine_99 : decode cX12_readLine 99 = .ok (.invokevirtual 136, 3) := by decide +kernel
theorem dX12_readLine_102 : decode cX12_readLine 102 = .ok (.ifCond .eq 10, 3) := by decide +kernel
theorem dX12_readLine_105 : decode cX12_readLine 105 = .ok (.aload_n 0, 1) := by decide +kernel
theorem dX12_readLine_106 : decode cX12_readLine 106 = .ok (.invokevirtual 217, 3) := by decide +kernel
theorem dX12_readLine_109 : decode cX12_readLine 109 = .ok (.goto 24, 3) := by decide +kernel
theorem dX12_readLine_112 : decode cX12_readLine 112 = .ok (.aload_n 0, 1) := by decide +kernel
theorem dX12_readLine_113 : decode cX12_readLine 113 = .ok (.ldc 220, 2) := by decide +kernel
theorem dX12_readLine_115 : decode cX12_readLine 115 = .ok (.invokevirtual 136, 3) := by decide +kernel
theorem dX12_readLine_118 : decode cX12_readLine 118 = .ok (.ifCond .eq 10, 3) := by decide +kernel
theorem dX12_readLine_121 : decode cX12_readLine 121 = .ok (.aload_n 0, 1) := by decide +kernel
theorem dX12_readLine_122 : decode cX12_readLine 122 = .ok (.invokevirtual 222, 3) := by decide +kernel
theorem dX12_readLine_125 : decode cX12_readLine 125 = .ok (.goto 8, 3) := by decide +kernel
theorem dX12_readLine_128 : decode cX12_readLine 128 = .ok (.aload_n 0, 1) := by decide +kernel
theorem dX12_readLine_129 : decode cX12_readLine 129 = .ok (.iconst 1, 1) := by decide +kernel
theorem dX12_readLine_130 : decode cX12_readLine 130 = .ok (.invokevirtual 143, 3) := by decide +kernel
theorem dX12_readLine_133 : decode cX12_readLine 133 = .ok (.return_, 1) := by decide +kernel
theorem dX12_readMeadow_0 : decode cX12_readMeadow 0 = .ok (.aload_n 0, 1) := by decide +kernel
theorem dX12_readMeadow_1 : decode cX12_readMeadow 1 = .ok (.getfield 162, 3) := by decide +kernel
theorem dX12_readMeadow_4 : decode cX12_readMeadow 4 = .ok (.getfield 166, 3) := by decide +kernel
theorem dX12_readMeadow_7 : decode cX12_readMeadow 7 = .ok (.ifCond .le 8, 3) := by decide +kernel
theorem dX12_readMeadow_10 : decode cX12_readMeadow 10 = .ok (.aload_n 0, 1) := by decide +kernel
theorem dX12_readMeadow_11 : decode cX12_readMeadow 11 = .ok (.iconst 3, 1) := by decide +kernel
theorem dX12_readMeadow_12 : decode cX12_readMeadow 12 = .ok (.invokevirtual 143, 3) := by decide +kernel
theorem dX12_readMeadow_15 : decode cX12_readMeadow 15 = .ok (.aload_n 0, 1) := by decide +kernel
theorem dX12_readMeadow_16 : decode cX12_readMeadow 16 = .ok (.invokevirtual 140, 3) := by decide +kernel
theorem dX12_readMeadow_19 : decode cX12_readMeadow 19 = .ok (.aload_n 0, 1) := by decide +kernel
theorem dX12_readMeadow_20 : decode cX12_readMeadow 20 = .ok (.ldc 225, 2) := by decide +kernel
theorem dX12_readMeadow_22 : decode cX12_readMeadow 22 = .ok (.iconst 2, 1) := by decide +kernel
theorem dX12_readMeadow_23 : decode cX12_readMeadow 23 = .ok (.bipush 8, 2) := by decide +kernel
theorem dX12_readMeadow_25 : decode cX12_readMeadow 25 = .ok (.invokevirtual 226, 3) := by decide +kernel
theorem dX12_readMeadow_28 : decode cX12_readMeadow 28 = .ok (.istore_n 1, 1) := by decide +kernel
theorem dX12_readMeadow_29 : decode cX12_readMeadow 29 = .ok (.aload_n 0, 1) := by decide +kernel
theorem dX12_readMeadow_30 : decode cX12_readMeadow 30 = .ok (.ldc 230, 2) := by decide +kernel
theorem dX12_readMeadow_32 : decode cX12_readMeadow 32 = .ok (.iconst 2, 1) := by decide +kernel
theorem dX12_readMeadow_33 : decode cX12_readMeadow 33 = .ok (.bipush 6, 2) := by decide +kernel
theorem dX12_readMeadow_35 : decode cX12_readMeadow 35 = .ok (.invokevirtual 226, 3) := by decide +kernel
theorem dX12_readMeadow_38 : decode cX12_readMeadow 38 = .ok (.istore_n 2, 1) := by decide +kernel
theorem dX12_readMeadow_39 : decode cX12_readMeadow 39 = .ok (.aload_n 0, 1) := by decide +kernel
theorem dX12_readMeadow_40 : decode cX12_readMeadow 40 = .ok (.ldc 231, 2) := by decide +kernel
theorem dX12_readMeadow_42 : decode cX12_readMeadow 42 = .ok (.iconst 1, 1) := by decide +kernel
theorem dX12_readMeadow_43 : decode cX12_readMeadow 43 = .ok (.sipush 200, 3) := by decide +kernel
theorem dX12_readMeadow_46 : decode cX12_readMeadow 46 = .ok (.invokevirtual 226, 3) := by decide +kernel
theorem dX12_readMeadow_49 : decode cX12_readMeadow 49 = .ok (.istore_n 3, 1) := by decide +kernel
theorem dX12_readMeadow_50 : decode cX12_readMeadow 50 = .ok (.aload_n 0, 1) := by decide +kernel
theorem dX12_readMeadow_51 : decode cX12_readMeadow 51 = .ok (.ldc 233, 2) := by decide +kernel
theorem dX12_readMeadow_53 : decode cX12_readMeadow 53 = .ok (.iconst 0, 1) := by decide +kernel
theorem dX12_readMeadow_54 : decode cX12_readMeadow 54 = .ok (.bipush 99, 2) := by decide +kernel
theorem dX12_readMeadow_56 : decode cX12_readMeadow 56 = .ok (.invokevirtual 226, 3) := by decide +kernel
theorem dX12_readMeadow_59 : decode cX12_readMeadow 59 = .ok (.istore 4, 2) := by decide +kernel
theorem dX12_readMeadow_61 : decode cX12_readMeadow 61 = .ok (.aload_n 0, 1) := by decide +kernel
theorem dX12_readMeadow_62 : decode cX12_readMeadow 62 = .ok (.ldc 235, 2) := by decide +kernel
theorem dX12_readMeadow_64 : decode cX12_readMeadow 64 = .ok (.iconst 1, 1) := by decide +kernel
theorem dX12_readMeadow_65 : decode cX12_readMeadow 65 = .ok (.iconst 4, 1) := by decide +kernel
theorem dX12_readMeadow_66 : decode cX12_readMeadow 66 = .ok (.invokevirtual 226, 3) := by decide +kernel
theorem dX12_readMeadow_69 : decode cX12_readMeadow 69 = .ok (.istore 5, 2) := by decide +kernel
theorem dX12_readMeadow_71 : decode cX12_readMeadow 71 = .ok (.aload_n 0, 1) := by decide +kernel
theorem dX12_readMeadow_72 : decode cX12_readMeadow 72 = .ok (.getfield 94, 3) := by decide +kernel
theorem dX12_readMeadow_75 : decode cX12_readMeadow 75 = .ok (.iconst 5, 1) := by decide +kernel
theorem dX12_readMeadow_76 : decode cX12_readMeadow 76 = .ok (.if_icmp .ne 4, 3) := by decide +kernel
theorem dX12_readMeadow_79 : decode cX12_readMeadow 79 = .ok (.return_, 1) := by decide +kernel
theorem dX12_readMeadow_80 : decode cX12_readMeadow 80 = .ok (.aload_n 0, 1) := by decide +kernel
theorem dX12_readMeadow_81 : decode cX12_readMeadow 81 = .ok (.getfield 162, 3) := by decide +kernel
theorem dX12_readMeadow_84 : decode cX12_readMeadow 84 = .ok (.iload_n 1, 1) := by decide +kernel
theorem dX12_readMeadow_85 : decode cX12_readMeadow 85 = .ok (.putfield 166, 3) := by decide +kernel
theorem dX12_readMeadow_88 : decode cX12_readMeadow 88 = .ok (.aload_n 0, 1) := by decide +kernel
theorem dX12_readMeadow_89 : decode cX12_readMeadow 89 = .ok (.getfield 162, 3) := by decide +kernel
theorem dX12_readMeadow_92 : decode cX12_readMeadow 92 = .ok (.iload_n 2, 1) := by decide +kernel
theorem dX12_readMeadow_93 : decode cX12_readMeadow 93 = .ok (.putfield 174, 3) := by decide +kernel
theorem dX12_readMeadow_96 : decode cX12_readMeadow 96 = .ok (.aload_n 0, 1) := by decide +kernel
theorem dX12_readMeadow_97 : decode cX12_readMeadow 97 = .ok (.getfield 162, 3) := by decide +kernel
theorem dX12_readMeadow_100 : decode cX12_readMeadow 100 = .ok (.iload_n 3, 1) := by decide +kernel
theorem dX12_readMeadow_101 : decode cX12_readMeadow 101 = .ok (.putfield 237, 3) := by decide +kernel
theorem dX12_readMeadow_104 : decode cX12_readMeadow 104 = .ok (.aload_n 0, 1) := by decide +kernel
theorem dX12_readMeadow_105 : decode cX12_readMeadow 105 = .ok (.getfield 162, 3) := by decide +kernel
theorem dX12_readMeadow_108 : decode cX12_readMeadow 108 = .ok (.iload 4, 2) := by decide +kernel
theorem dX12_readMeadow_110 : decode cX12_readMeadow 110 = .ok (.putfield 239, 3) := by decide +kernel
theorem dX12_readMeadow_113 : decode cX12_readMeadow 113 = .ok (.aload_n 0, 1) := by decide +kernel
theorem dX12_readMeadow_114 : decode cX12_readMeadow 114 = .ok (.getfield 162, 3) := by decide +kernel
theorem dX12_readMeadow_117 : decode cX12_readMeadow 117 = .ok (.iload 5, 2) := by decide +kernel
theorem dX12_readMeadow_119 : decode cX12_readMeadow 119 = .ok (.putfield 241, 3) := by decide +kernel
theorem dX12_readMeadow_122 : decode cX12_readMeadow 122 = .ok (.return_, 1) := by decide +kernel
theorem dX12_readCells_0 : decode cX12_readCells 0 = .ok (.aload_n 0, 1) := by decide +kernel
theorem dX12_readCells_1 : decode cX12_readCells 1 = .ok (.lconst 0, 1) := by decide +kernel
theorem dX12_readCells_2 : decode cX12_readCells 2 = .ok (.putfield 243, 3) := by decide +kernel
theorem dX12_readCells_5 : decode cX12_readCells 5 = .ok (.aload_n 0, 1) := by decide +kernel
theorem dX12_readCells_6 : decode cX12_readCells 6 = .ok (.lconst 0, 1) := by decide +kernel
theorem dX12_readCells_7 : decode cX12_readCells 7 = .ok (.putfield 246, 3) := by decide +kernel
theorem dX12_readCells_10 : decode cX12_readCells 10 = .ok (.aload_n 0, 1) := by decide +kernel
theorem dX12_readCells_11 : decode cX12_readCells 11 = .ok (.getfield 94, 3) := by decide +kernel
theorem dX12_readCells_14 : decode cX12_readCells 14 = .ok (.iconst 2, 1) := by decide +kernel
theorem dX12_readCells_15 : decode cX12_readCells 15 = .ok (.if_icmp .eq 8, 3) := by decide +kernel
theorem dX12_readCells_18 : decode cX12_readCells 18 = .ok (.aload_n 0, 1) := by decide +kernel
theorem dX12_readCells_19 : decode cX12_readCells 19 = .ok (.iconst 1, 1) := by decide +kernel
theorem dX12_readCells_20 : decode cX12_readCells 20 = .ok (.invokevirtual 143, 3) := by decide +kernel
theorem dX12_readCells_23 : decode cX12_readCells 23 = .ok (.aload_n 0, 1) := by decide +kernel
theorem dX12_readCells_24 : decode cX12_readCells 24 = .ok (.getfield 94, 3) := by decide +kernel
theorem dX12_readCells_27 : decode cX12_readCells 27 = .ok (.iconst 5, 1) := by decide +kernel
theorem dX12_readCells_28 : decode cX12_readCells 28 = .ok (.if_icmp .ne 4, 3) := by decide +kernel
theorem dX12_readCells_31 : decode cX12_readCells 31 = .ok (.return_, 1) := by decide +kernel
theorem dX12_readCells_32 : decode cX12_readCells 32 = .ok (.aload_n 0, 1) := by decide +kernel
theorem dX12_readCells_33 : decode cX12_readCells 33 = .ok (.getfield 117, 3) := by decide +kernel
theorem dX12_readCells_36 : decode cX12_readCells 36 = .ok (.aload_n 0, 1) := by decide +kernel
theorem dX12_readCells_37 : decode cX12_readCells 37 = .ok (.getfield 162, 3) := by decide +kernel
theorem dX12_readCells_40 : decode cX12_readCells 40 = .ok (.getfield 166, 3) := by decide +kernel
theorem dX12_readCells_43 : decode cX12_readCells 43 = .ok (.if_icmp .eq 9, 3) := by decide +kernel
theorem dX12_readCells_46 : decode cX12_readCells 46 = .ok (.aload_n 0, 1) := by decide +kernel
theorem dX12_readCells_47 : decode cX12_readCells 47 = .ok (.bipush 7, 2) := by decide +kernel
theorem dX12_readCells_49 : decode cX12_readCells 49 = .ok (.invokevirtual 143, 3) := by decide +kernel
theorem dX12_readCells_52 : decode cX12_readCells 52 = .ok (.iconst 0, 1) := by decide +kernel
theorem dX12_readCells_53 : decode cX12_readCells 53 = .ok (.istore_n 3, 1) := by decide +kernel
theorem dX12_readCells_54 : decode cX12_readCells 54 = .ok (.iload_n 3, 1) := by decide +kernel
theorem dX12_readCells_55 : decode cX12_readCells 55 = .ok (.aload_n 0, 1) := by decide +kernel
theorem dX12_readCells_56 : decode cX12_readCells 56 = .ok (.getfield 162, 3) := by decide +kernel
theorem dX12_readCells_59 : decode cX12_readCells 59 = .ok (.getfield 166, 3) := by decide +kernel
theorem dX12_readCells_62 : decode cX12_readCells 62 = .ok (.if_icmp .ge 103, 3) := by decide +kernel
theorem dX12_readCells_65 : decode cX12_readCells 65 = .ok (.aload_n 0, 1) := by decide +kernel
theorem dX12_readCells_66 : decode cX12_readCells 66 = .ok (.getfield 94, 3) := by decide +kernel
theorem dX12_readCells_69 : decode cX12_readCells 69 = .ok (.iconst 5, 1) := by decide +kernel
theorem dX12_readCells_70 : decode cX12_readCells 70 = .ok (.if_icmp .eq 95, 3) := by decide +kernel
theorem dX12_readCells_73 : decode cX12_readCells 73 = .ok (.lconst 1, 1) := by decide +kernel
theorem dX12_readCells_74 : decode cX12_readCells 74 = .ok (.aload_n 0, 1) := by decide +kernel
theorem dX12_readCells_75 : decode cX12_readCells 75 = .ok (.getfield 162, 3) := by decide +kernel
theorem dX12_readCells_78 : decode cX12_readCells 78 = .ok (.getfield 166, 3) := by decide +kernel
theorem dX12_readCells_81 : decode cX12_readCells 81 = .ok (.iload_n 1, 1) := by decide +kernel
theorem dX12_readCells_82 : decode cX12_readCells 82 = .ok (.imul, 1) := by decide +kernel
theorem dX12_readCells_83 : decode cX12_readCells 83 = .ok (.iload_n 3, 1) := by decide +kernel
theorem dX12_readCells_84 : decode cX12_readCells 84 = .ok (.iadd, 1) := by decide +kernel
theorem dX12_readCells_85 : decode cX12_readCells 85 = .ok (.lshl, 1) := by decide +kernel
theorem dX12_readCells_86 : decode cX12_readCells 86 = .ok (.lstore 4, 2) := by decide +kernel
theorem dX12_readCells_88 : decode cX12_readCells 88 = .ok (.aload_n 0, 1) := by decide +kernel
theorem dX12_readCells_89 : decode cX12_readCells 89 = .ok (.getfield 17, 3) := by decide +kernel
theorem dX12_readCells_92 : decode cX12_readCells 92 = .ok (.iload_n 3, 1) := by decide +kernel
theorem dX12_readCells_93 : decode cX12_readCells 93 = .ok (.iaload, 1) := by decide +kernel
theorem dX12_readCells_94 : decode cX12_readCells 94 = .ok (.bipush 109, 2) := by decide +kernel
theorem dX12_readCells_96 : decode cX12_readCells 96 = .ok (.if_icmp .ne 17, 3) := by decide +kernel
theorem dX12_readCells_99 : decode cX12_readCells 99 = .ok (.aload_n 0, 1) := by decide +kernel
theorem dX12_readCells_100 : decode cX12_readCells 100 = .ok (.dup, 1) := by decide +kernel
theorem dX12_readCells_101 : decode cX12_readCells 101 = .ok (.getfield 243, 3) := by decide +kernel
theorem dX12_readCells_104 : decode cX12_readCells 104 = .ok (.lload 4, 2) := by decide +kernel
theorem dX12_readCells_106 : decode cX12_readCells 106 = .ok (.lor, 1) := by decide +kernel
theorem dX12_readCells_107 : decode cX12_readCells 107 = .ok (.putfield 243, 3) := by decide +kernel
theorem dX12_readCells_110 : decode cX12_readCells 110 = .ok (.goto 49, 3) := by decide +kernel
theorem dX12_readCells_113 : decode cX12_readCells 113 = .ok (.aload_n 0, 1) := by decide +kernel
theorem dX12_readCells_114 : decode cX12_readCells 114 = .ok (.getfield 17, 3) := by decide +kernel
theorem dX12_readCells_117 : decode cX12_readCells 117 = .ok (.iload_n 3, 1) := by decide +kernel
theorem dX12_readCells_118 : decode cX12_readCells 118 = .ok (.iaload, 1) := by decide +kernel
theorem dX12_readCells_119 : decode cX12_readCells 119 = .ok (.bipush 115, 2) := by decide +kernel
theorem dX12_readCells_121 : decode cX12_readCells 121 = .ok (.if_icmp .ne 17, 3) := by decide +kernel
theorem dX12_readCells_124 : decode cX12_readCells 124 = .ok (.aload_n 0, 1) := by decide +kernel
theorem dX12_readCells_125 : decode cX12_readCells 125 = .ok (.dup, 1) := by decide +kernel
theorem dX12_readCells_126 : decode cX12_readCells 126 = .ok (.getfield 246, 3) := by decide +kernel
theorem dX12_readCells_129 : decode cX12_readCells 129 = .ok (.lload 4, 2) := by decide +kernel
theorem dX12_readCells_131 : decode cX12_readCells 131 = .ok (.lor, 1) := by decide +kernel
theorem dX12_readCells_132 : decode cX12_readCells 132 = .ok (.putfield 246, 3) := by decide +kernel
theorem dX12_readCells_135 : decode cX12_readCells 135 = .ok (.goto 24, 3) := by decide +kernel
theorem dX12_readCells_138 : decode cX12_readCells 138 = .ok (.iload_n 2, 1) := by decide +kernel
theorem dX12_readCells_139 : decode cX12_readCells 139 = .ok (.ifCond .eq 14, 3) := by decide +kernel
theorem dX12_readCells_142 : decode cX12_readCells 142 = .ok (.aload_n 0, 1) := by decide +kernel
theorem dX12_readCells_143 : decode cX12_readCells 143 = .ok (.getfield 17, 3) := by decide +kernel
theorem dX12_readCells_146 : decode cX12_readCells 146 = .ok (.iload_n 3, 1) := by decide +kernel
theorem dX12_readCells_147 : decode cX12_readCells 147 = .ok (.iaload, 1) := by decide +kernel
theorem dX12_readCells_148 : decode cX12_readCells 148 = .ok (.bipush 97, 2) := by decide +kernel
theorem dX12_readCells_150 : decode cX12_readCells 150 = .ok (.if_icmp .eq 9, 3) := by decide +kernel
theorem dX12_readCells_153 : decode cX12_readCells 153 = .ok (.aload_n 0, 1) := by decide +kernel
theorem dX12_readCells_154 : decode cX12_readCells 154 = .ok (.bipush 7, 2) := by decide +kernel
theorem dX12_readCells_156 : decode cX12_readCells 156 = .ok (.invokevirtual 143, 3) := by decide +kernel
theorem dX12_readCells_159 : decode cX12_readCells 159 = .ok (.iinc 3 1, 3) := by decide +kernel
theorem dX12_readCells_162 : decode cX12_readCells 162 = .ok (.goto (-108), 3) := by decide +kernel
theorem dX12_readCells_165 : decode cX12_readCells 165 = .ok (.aload_n 0, 1) := by decide +kernel
theorem dX12_readCells_166 : decode cX12_readCells 166 = .ok (.invokevirtual 140, 3) := by decide +kernel
theorem dX12_readCells_169 : decode cX12_readCells 169 = .ok (.return_, 1) := by decide +kernel
theorem dX12_readRow_0 : decode cX12_readRow 0 = .ok (.aload_n 0, 1) := by decide +kernel
theorem dX12_readRow_1 : decode cX12_readRow 1 = .ok (.aload_n 0, 1) := by decide +kernel
theorem dX12_readRow_2 : decode cX12_readRow 2 = .ok (.getfield 162, 3) := by decide +kernel
theorem dX12_readRow_5 : decode cX12_readRow 5 = .ok (.getfield 183, 3) := by decide +kernel
theorem dX12_readRow_8 : decode cX12_readRow 8 = .ok (.aload_n 0, 1) := by decide +kernel
theorem dX12_readRow_9 : decode cX12_readRow 9 = .ok (.getfield 162, 3) := by decide +kernel
theorem dX12_readRow_12 : decode cX12_readRow 12 = .ok (.getfield 166, 3) := by decide +kernel
theorem dX12_readRow_15 : decode cX12_readRow 15 = .ok (.ifCond .ne 7, 3) := by decide +kernel
theorem dX12_readRow_18 : decode cX12_readRow 18 = .ok (.iconst (-1), 1) := by decide +kernel
theorem dX12_readRow_19 : decode cX12_readRow 19 = .ok (.goto 10, 3) := by decide +kernel
theorem dX12_readRow_22 : decode cX12_readRow 22 = .ok (.aload_n 0, 1) := by decide +kernel
theorem dX12_readRow_23 : decode cX12_readRow 23 = .ok (.getfield 162, 3) := by decide +kernel
theorem dX12_readRow_26 : decode cX12_readRow 26 = .ok (.getfield 174, 3) := by decide +kernel
theorem dX12_readRow_29 : decode cX12_readRow 29 = .ok (.invokevirtual 249, 3) := by decide +kernel
theorem dX12_readRow_32 : decode cX12_readRow 32 = .ok (.aload_n 0, 1) := by decide +kernel
theorem dX12_readRow_33 : decode cX12_readRow 33 = .ok (.aload_n 0, 1) := by decide +kernel
theorem dX12_readRow_34 : decode cX12_readRow 34 = .ok (.getfield 162, 3) := by decide +kernel
theorem dX12_readRow_37 : decode cX12_readRow 37 = .ok (.getfield 183, 3) := by decide +kernel
theorem dX12_readRow_40 : decode cX12_readRow 40 = .ok (.iconst 0, 1) := by decide +kernel
theorem dX12_readRow_41 : decode cX12_readRow 41 = .ok (.invokevirtual 253, 3) := by decide +kernel
theorem dX12_readRow_44 : decode cX12_readRow 44 = .ok (.aload_n 0, 1) := by decide +kernel
theorem dX12_readRow_45 : decode cX12_readRow 45 = .ok (.getfield 94, 3) := by decide +kernel
theorem dX12_readRow_48 : decode cX12_readRow 48 = .ok (.iconst 5, 1) := by decide +kernel
theorem dX12_readRow_49 : decode cX12_readRow 49 = .ok (.if_icmp .ne 4, 3) := by decide +kernel
theorem dX12_readRow_52 : decode cX12_readRow 52 = .ok (.return_, 1) := by decide +kernel
theorem dX12_readRow_53 : decode cX12_readRow 53 = .ok (.aload_n 0, 1) := by decide +kernel
theorem dX12_readRow_54 : decode cX12_readRow 54 = .ok (.getfield 162, 3) := by decide +kernel
theorem dX12_readRow_57 : decode cX12_readRow 57 = .ok (.dup, 1) := by decide +kernel
theorem dX12_readRow_58 : decode cX12_readRow 58 = .ok (.getfield 257, 3) := by decide +kernel
theorem dX12_readRow_61 : decode cX12_readRow 61 = .ok (.aload_n 0, 1) := by decide +kernel
theorem dX12_readRow_62 : decode cX12_readRow 62 = .ok (.getfield 243, 3) := by decide +kernel
theorem dX12_readRow_65 : decode cX12_readRow 65 = .ok (.lor, 1) := by decide +kernel
theorem dX12_readRow_66 : decode cX12_readRow 66 = .ok (.putfield 257, 3) := by decide +kernel
theorem dX12_readRow_69 : decode cX12_readRow 69 = .ok (.aload_n 0, 1) := by decide +kernel
theorem dX12_readRow_70 : decode cX12_readRow 70 = .ok (.getfield 162, 3) := by decide +kernel
theorem dX12_readRow_73 : decode cX12_readRow 73 = .ok (.dup, 1) := by decide +kernel
theorem dX12_readRow_74 : decode cX12_readRow 74 = .ok (.getfield 183, 3) := by decide +kernel
theorem dX12_readRow_77 : decode cX12_readRow 77 = .ok (.iconst 1, 1) := by decide +kernel
theorem dX12_readRow_78 : decode cX12_readRow 78 = .ok (.iadd, 1) := by decide +kernel
theorem dX12_readRow_79 : decode cX12_readRow 79 = .ok (.putfield 183, 3) := by decide +kernel
theorem dX12_readRow_82 : decode cX12_readRow 82 = .ok (.return_, 1) := by decide +kernel
theorem dX12_readWant_0 : decode cX12_readWant 0 = .ok (.aload_n 0, 1) := by decide +kernel
theorem dX12_readWant_1 : decode cX12_readWant 1 = .ok (.aload_n 0, 1) := by decide +kernel
theorem dX12_readWant_2 : decode cX12_readWant 2 = .ok (.getfield 162, 3) := by decide +kernel
theorem dX12_readWant_5 : decode cX12_readWant 5 = .ok (.getfield 260, 3) := by decide +kernel
theorem dX12_readWant_8 : decode cX12_readWant 8 = .ok (.aload_n 0, 1) := by decide +kernel
theorem dX12_readWant_9 : decode cX12_readWant 9 = .ok (.getfield 162, 3) := by decide +kernel
theorem dX12_readWant_12 : decode cX12_readWant 12 = .ok (.getfield 166, 3) := by decide +kernel
theorem dX12_readWant_15 : decode cX12_readWant 15 = .ok (.ifCond .ne 7, 3) := by decide +kernel
theorem dX12_readWant_18 : decode cX12_readWant 18 = .ok (.iconst (-1), 1) := by decide +kernel
theorem dX12_readWant_19 : decode cX12_readWant 19 = .ok (.goto 10, 3) := by decide +kernel
theorem dX12_readWant_22 : decode cX12_readWant 22 = .ok (.aload_n 0, 1) := by decide +kernel
theorem dX12_readWant_23 : decode cX12_readWant 23 = .ok (.getfield 162, 3) := by decide +kernel
theorem dX12_readWant_26 : decode cX12_readWant 26 = .ok (.getfield 174, 3) := by decide +kernel
theorem dX12_readWant_29 : decode cX12_readWant 29 = .ok (.invokevirtual 249, 3) := by decide +kernel
theorem dX12_readWant_32 : decode cX12_readWant 32 = .ok (.aload_n 0, 1) := by decide +kernel
theorem dX12_readWant_33 : decode cX12_readWant 33 = .ok (.aload_n 0, 1) := by decide +kernel
theorem dX12_readWant_34 : decode cX12_readWant 34 = .ok (.getfield 162, 3) := by decide +kernel
theorem dX12_readWant_37 : decode cX12_readWant 37 = .ok (.getfield 260, 3) := by decide +kernel
theorem dX12_readWant_40 : decode cX12_readWant 40 = .ok (.iconst 1, 1) := by decide +kernel
theorem dX12_readWant_41 : decode cX12_readWant 41 = .ok (.invokevirtual 253, 3) := by decide +kernel
theorem dX12_readWant_44 : decode cX12_readWant 44 = .ok (.aload_n 0, 1) := by decide +kernel
theorem dX12_readWant_45 : decode cX12_readWant 45 = .ok (.getfield 94, 3) := by decide +kernel
theorem dX12_readWant_48 : decode cX12_readWant 48 = .ok (.iconst 5, 1) := by decide +kernel
theorem dX12_readWant_49 : decode cX12_readWant 49 = .ok (.if_icmp .ne 4, 3) := by decide +kernel
theorem dX12_readWant_52 : decode cX12_readWant 52 = .ok (.return_, 1) := by decide +kernel
theorem dX12_readWant_53 : decode cX12_readWant 53 = .ok (.aload_n 0, 1) := by decide +kernel
theorem dX12_readWant_54 : decode cX12_readWant 54 = .ok (.getfield 162, 3) := by decide +kernel
theorem dX12_readWant_57 : decode cX12_readWant 57 = .ok (.dup, 1) := by decide +kernel
theorem dX12_readWant_58 : decode cX12_readWant 58 = .ok (.getfield 263, 3) := by decide +kernel
theorem dX12_readWant_61 : decode cX12_readWant 61 = .ok (.aload_n 0, 1) := by decide +kernel
theorem dX12_readWant_62 : decode cX12_readWant 62 = .ok (.getfield 243, 3) := by decide +kernel
theorem dX12_readWant_65 : decode cX12_readWant 65 = .ok (.lor, 1) := by decide +kernel
theorem dX12_readWant_66 : decode cX12_readWant 66 = .ok (.putfield 263, 3) := by decide +kernel
theorem dX12_readWant_69 : decode cX12_readWant 69 = .ok (.aload_n 0, 1) := by decide +kernel
theorem dX12_readWant_70 : decode cX12_readWant 70 = .ok (.getfield 162, 3) := by decide +kernel
theorem dX12_readWant_73 : decode cX12_readWant 73 = .ok (.dup, 1) := by decide +kernel
theorem dX12_readWant_74 : decode cX12_readWant 74 = .ok (.getfield 266, 3) := by decide +kernel
theorem dX12_readWant_77 : decode cX12_readWant 77 = .ok (.aload_n 0, 1) := by decide +kernel
theorem dX12_readWant_78 : decode cX12_readWant 78 = .ok (.getfield 246, 3) := by decide +kernel
theorem dX12_readWant_81 : decode cX12_readWant 81 = .ok (.lor, 1) := by decide +kernel
theorem dX12_readWant_82 : decode cX12_readWant 82 = .ok (.putfield 266, 3) := by decide +kernel
theorem dX12_readWant_85 : decode cX12_readWant 85 = .ok (.aload_n 0, 1) := by decide +kernel
theorem dX12_readWant_86 : decode cX12_readWant 86 = .ok (.getfield 162, 3) := by decide +kernel
theorem dX12_readWant_89 : decode cX12_readWant 89 = .ok (.dup, 1) := by decide +kernel
theorem dX12_readWant_90 : decode cX12_readWant 90 = .ok (.getfield 260, 3) := by decide +kernel
theorem dX12_readWant_93 : decode cX12_readWant 93 = .ok (.iconst 1, 1) := by decide +kernel
theorem dX12_readWant_94 : decode cX12_readWant 94 = .ok (.iadd, 1) := by decide +kernel
theorem dX12_readWant_95 : decode cX12_readWant 95 = .ok (.putfield 260, 3) := by decide +kernel
theorem dX12_readWant_98 : decode cX12_readWant 98 = .ok (.return_, 1) := by decide +kernel
theorem dX12_readMoon_0 : decode cX12_readMoon 0 = .ok (.aload_n 0, 1) := by decide +kernel
theorem dX12_readMoon_1 : decode cX12_readMoon 1 = .ok (.aload_n 0, 1) := by decide +kernel
theorem dX12_readMoon_2 : decode cX12_readMoon 2 = .ok (.getfield 162, 3) := by decide +kernel
theorem dX12_readMoon_5 : decode cX12_readMoon 5 = .ok (.getfield 269, 3) := by decide +kernel
theorem dX12_readMoon_8 : decode cX12_readMoon 8 = .ok (.aload_n 0, 1) := by decide +kernel
theorem dX12_readMoon_9 : decode cX12_readMoon 9 = .ok (.getfield 162, 3) := by decide +kernel
theorem dX12_readMoon_12 : decode cX12_readMoon 12 = .ok (.getfield 166, 3) := by decide +kernel
theorem dX12_readMoon_15 : decode cX12_readMoon 15 = .ok (.ifCond .ne 7, 3) := by decide +kernel
theorem dX12_readMoon_18 : decode cX12_readMoon 18 = .ok (.iconst (-1), 1) := by decide +kernel
theorem dX12_readMoon_19 : decode cX12_readMoon 19 = .ok (.goto 10, 3) := by decide +kernel
theorem dX12_readMoon_22 : decode cX12_readMoon 22 = .ok (.aload_n 0, 1) := by decide +kernel
theorem dX12_readMoon_23 : decode cX12_readMoon 23 = .ok (.getfield 162, 3) := by decide +kernel
theorem dX12_readMoon_26 : decode cX12_readMoon 26 = .ok (.getfield 174, 3) := by decide +kernel
theorem dX12_readMoon_29 : decode cX12_readMoon 29 = .ok (.invokevirtual 249, 3) := by decide +kernel
theorem dX12_readMoon_32 : decode cX12_readMoon 32 = .ok (.aload_n 0, 1) := by decide +kernel
theorem dX12_readMoon_33 : decode cX12_readMoon 33 = .ok (.aload_n 0, 1) := by decide +kernel
theorem dX12_readMoon_34 : decode cX12_readMoon 34 = .ok (.getfield 162, 3) := by decide +kernel
theorem dX12_readMoon_37 : decode cX12_readMoon 37 = .ok (.getfield 269, 3) := by decide +kernel
theorem dX12_readMoon_40 : decode cX12_readMoon 40 = .ok (.iconst 1, 1) := by decide +kernel
theorem dX12_readMoon_41 : decode cX12_readMoon 41 = .ok (.invokevirtual 253, 3) := by decide +kernel
theorem dX12_readMoon_44 : decode cX12_readMoon 44 = .ok (.aload_n 0, 1) := by decide +kernel
theorem dX12_readMoon_45 : decode cX12_readMoon 45 = .ok (.getfield 94, 3) := by decide +kernel
theorem dX12_readMoon_48 : decode cX12_readMoon 48 = .ok (.iconst 5, 1) := by decide +kernel
theorem dX12_readMoon_49 : decode cX12_readMoon 49 = .ok (.if_icmp .ne 4, 3) := by decide +kernel
theorem dX12_readMoon_52 : decode cX12_readMoon 52 = .ok (.return_, 1) := by decide +kernel
theorem dX12_readMoon_53 : decode cX12_readMoon 53 = .ok (.aload_n 0, 1) := by decide +kernel
theorem dX12_readMoon_54 : decode cX12_readMoon 54 = .ok (.getfield 162, 3) := by decide +kernel
theorem dX12_readMoon_57 : decode cX12_readMoon 57 = .ok (.dup, 1) := by decide +kernel
theorem dX12_readMoon_58 : decode cX12_readMoon 58 = .ok (.getfield 272, 3) := by decide +kernel
theorem dX12_readMoon_61 : decode cX12_readMoon 61 = .ok (.aload_n 0, 1) := by decide +kernel
theorem dX12_readMoon_62 : decode cX12_readMoon 62 = .ok (.getfield 243, 3) := by decide +kernel
theorem dX12_readMoon_65 : decode cX12_readMoon 65 = .ok (.lor, 1) := by decide +kernel
theorem dX12_readMoon_66 : decode cX12_readMoon 66 = .ok (.putfield 272, 3) := by decide +kernel
theorem dX12_readMoon_69 : decode cX12_readMoon 69 = .ok (.aload_n 0, 1) := by decide +kernel
theorem dX12_readMoon_70 : decode cX12_readMoon 70 = .ok (.getfield 162, 3) := by decide +kernel
theorem dX12_readMoon_73 : decode cX12_readMoon 73 = .ok (.dup, 1) := by decide +kernel
theorem dX12_readMoon_74 : decode cX12_readMoon 74 = .ok (.getfield 275, 3) := by decide +kernel
theorem dX12_readMoon_77 : decode cX12_readMoon 77 = .ok (.aload_n 0, 1) := by decide +kernel
theorem dX12_readMoon_78 : decode cX12_readMoon 78 = .ok (.getfield 246, 3) := by decide +kernel
theorem dX12_readMoon_81 : decode cX12_readMoon 81 = .ok (.lor, 1) := by decide +kernel
theorem dX12_readMoon_82 : decode cX12_readMoon 82 = .ok (.putfield 275, 3) := by decide +kernel
theorem dX12_readMoon_85 : decode cX12_readMoon 85 = .ok (.aload_n 0, 1) := by decide +kernel
theorem dX12_readMoon_86 : decode cX12_readMoon 86 = .ok (.getfield 162, 3) := by decide +kernel
theorem dX12_readMoon_89 : decode cX12_readMoon 89 = .ok (.dup, 1) := by decide +kernel
theorem dX12_readMoon_90 : decode cX12_readMoon 90 = .ok (.getfield 269, 3) := by decide +kernel
theorem dX12_readMoon_93 : decode cX12_readMoon 93 = .ok (.iconst 1, 1) := by decide +kernel
theorem dX12_readMoon_94 : decode cX12_readMoon 94 = .ok (.iadd, 1) := by decide +kernel
theorem dX12_readMoon_95 : decode cX12_readMoon 95 = .ok (.putfield 269, 3) := by decide +kernel
theorem dX12_readMoon_98 : decode cX12_readMoon 98 = .ok (.return_, 1) := by decide +kernel
theorem dX12_readGate_0 : decode cX12_readGate 0 = .ok (.aload_n 0, 1) := by decide +kernel
theorem dX12_readGate_1 : decode cX12_readGate 1 = .ok (.aload_n 0, 1) := by decide +kernel
theorem dX12_readGate_2 : decode cX12_readGate 2 = .ok (.getfield 162, 3) := by decide +kernel
theorem dX12_readGate_5 : decode cX12_readGate 5 = .ok (.getfield 278, 3) := by decide +kernel
theorem dX12_readGate_8 : decode cX12_readGate 8 = .ok (.iconst 4, 1) := by decide +kernel
theorem dX12_readGate_9 : decode cX12_readGate 9 = .ok (.invokevirtual 249, 3) := by decide +kernel
theorem dX12_readGate_12 : decode cX12_readGate 12 = .ok (.aload_n 0, 1) := by decide +kernel
theorem dX12_readGate_13 : decode cX12_readGate 13 = .ok (.iconst 0, 1) := by decide +kernel
theorem dX12_readGate_14 : decode cX12_readGate 14 = .ok (.aload_n 0, 1) := by decide +kernel
theorem dX12_readGate_15 : decode cX12_readGate 15 = .ok (.getfield 162, 3) := by decide +kernel
theorem dX12_readGate_18 : decode cX12_readGate 18 = .ok (.getfield 166, 3) := by decide +kernel
theorem dX12_readGate_21 : decode cX12_readGate 21 = .ok (.iconst 1, 1) := by decide +kernel
theorem dX12_readGate_22 : decode cX12_readGate 22 = .ok (.isub, 1) := by decide +kernel
theorem dX12_readGate_23 : decode cX12_readGate 23 = .ok (.invokevirtual 159, 3) := by decide +kernel
theorem dX12_readGate_26 : decode cX12_readGate 26 = .ok (.istore_n 1, 1) := by decide +kernel
theorem dX12_readGate_27 : decode cX12_readGate 27 = .ok (.aload_n 0, 1) := by decide +kernel
theorem dX12_readGate_28 : decode cX12_readGate 28 = .ok (.bipush 44, 2) := by decide +kernel
theorem dX12_readGate_30 : decode cX12_readGate 30 = .ok (.invokevirtual 171, 3) := by decide +kernel
theorem dX12_readGate_33 : decode cX12_readGate 33 = .ok (.aload_n 0, 1) := by decide +kernel
theorem dX12_readGate_34 : decode cX12_readGate 34 = .ok (.getfield 162, 3) := by decide +kernel
theorem dX12_readGate_37 : decode cX12_readGate 37 = .ok (.getfield 166, 3) := by decide +kernel
theorem dX12_readGate_40 : decode cX12_readGate 40 = .ok (.aload_n 0, 1) := by decide +kernel
theorem dX12_readGate_41 : decode cX12_readGate 41 = .ok (.iconst 0, 1) := by decide +kernel
theorem dX12_readGate_42 : decode cX12_readGate 42 = .ok (.aload_n 0, 1) := by decide +kernel
theorem dX12_readGate_43 : decode cX12_readGate 43 = .ok (.getfield 162, 3) := by decide +kernel
theorem dX12_readGate_46 : decode cX12_readGate 46 = .ok (.getfield 174, 3) := by decide +kernel
theorem dX12_readGate_49 : decode cX12_readGate 49 = .ok (.iconst 1, 1) := by decide +kernel
theorem dX12_readGate_50 : decode cX12_readGate 50 = .ok (.isub, 1) := by decide +kernel
theorem dX12_readGate_51 : decode cX12_readGate 51 = .ok (.invokevirtual 151, 3) := by decide +kernel
theorem dX12_readGate_54 : decode cX12_readGate 54 = .ok (.imul, 1) := by decide +kernel
theorem dX12_readGate_55 : decode cX12_readGate 55 = .ok (.iload_n 1, 1) := by decide +kernel
theorem dX12_readGate_56 : decode cX12_readGate 56 = .ok (.iadd, 1) := by decide +kernel
theorem dX12_readGate_57 : decode cX12_readGate 57 = .ok (.istore_n 2, 1) := by decide +kernel
theorem dX12_readGate_58 : decode cX12_readGate 58 = .ok (.aload_n 0, 1) := by decide +kernel
theorem dX12_readGate_59 : decode cX12_readGate 59 = .ok (.getfield 94, 3) := by decide +kernel
theorem dX12_readGate_62 : decode cX12_readGate 62 = .ok (.iconst 5, 1) := by decide +kernel
theorem dX12_readGate_63 : decode cX12_readGate 63 = .ok (.if_icmp .eq 22, 3) := by decide +kernel
theorem dX12_readGate_66 : decode cX12_readGate 66 = .ok (.aload_n 0, 1) := by decide +kernel
theorem dX12_readGate_67 : decode cX12_readGate 67 = .ok (.getfield 162, 3) := by decide +kernel
theorem dX12_readGate_70 : decode cX12_readGate 70 = .ok (.getfield 281, 3) := by decide +kernel
theorem dX12_readGate_73 : decode cX12_readGate 73 = .ok (.iload_n 2, 1) := by decide +kernel
theorem dX12_readGate_74 : decode cX12_readGate 74 = .ok (.invokestatic 75, 3) := by decide +kernel
theorem dX12_readGate_77 : decode cX12_readGate 77 = .ok (.ifCond .eq 8, 3) := by decide +kernel
theorem dX12_readGate_80 : decode cX12_readGate 80 = .ok (.aload_n 0, 1) := by decide +kernel
theorem dX12_readGate_81 : decode cX12_readGate 81 = .ok (.iconst 3, 1) := by decide +kernel
theorem dX12_readGate_82 : decode cX12_readGate 82 = .ok (.invokevirtual 143, 3) := by decide +kernel
theorem dX12_readGate_85 : decode cX12_readGate 85 = .ok (.aload_n 0, 1) := by decide +kernel
theorem dX12_readGate_86 : decode cX12_readGate 86 = .ok (.invokevirtual 140, 3) := by decide +kernel
theorem dX12_readGate_89 : decode cX12_readGate 89 = .ok (.aload_n 0, 1) := by decide +kernel
theorem dX12_readGate_90 : decode cX12_readGate 90 = .ok (.getfield 94, 3) := by decide +kernel
theorem dX12_readGate_93 : decode cX12_readGate 93 = .ok (.iconst 5, 1) := by decide +kernel
theorem dX12_readGate_94 : decode cX12_readGate 94 = .ok (.if_icmp .ne 4, 3) := by decide +kernel
theorem dX12_readGate_97 : decode cX12_readGate 97 = .ok (.return_, 1) := by decide +kernel
theorem dX12_readGate_98 : decode cX12_readGate 98 = .ok (.aload_n 0, 1) := by decide +kernel
theorem dX12_readGate_99 : decode cX12_readGate 99 = .ok (.getfield 162, 3) := by decide +kernel
theorem dX12_readGate_102 : decode cX12_readGate 102 = .ok (.getfield 284, 3) := by decide +kernel
theorem dX12_readGate_105 : decode cX12_readGate 105 = .ok (.aload_n 0, 1) := by decide +kernel
theorem dX12_readGate_106 : decode cX12_readGate 106 = .ok (.getfield 162, 3) := by decide +kernel
theorem dX12_readGate_109 : decode cX12_readGate 109 = .ok (.getfield 278, 3) := by decide +kernel
theorem dX12_readGate_112 : decode cX12_readGate 112 = .ok (.iload_n 2, 1) := by decide +kernel
theorem dX12_readGate_113 : decode cX12_readGate 113 = .ok (.iastore, 1) := by decide +kernel
theorem dX12_readGate_114 : decode cX12_readGate 114 = .ok (.aload_n 0, 1) := by decide +kernel
theorem dX12_readGate_115 : decode cX12_readGate 115 = .ok (.getfield 162, 3) := by decide +kernel
theorem dX12_readGate_118 : decode cX12_readGate 118 = .ok (.dup, 1) := by decide +kernel
theorem dX12_readGate_119 : decode cX12_readGate 119 = .ok (.getfield 281, 3) := by decide +kernel
theorem dX12_readGate_122 : decode cX12_readGate 122 = .ok (.lconst 1, 1) := by decide +kernel
theorem dX12_readGate_123 : decode cX12_readGate 123 = .ok (.iload_n 2, 1) := by decide +kernel
theorem dX12_readGate_124 : decode cX12_readGate 124 = .ok (.lshl, 1) := by decide +kernel
theorem dX12_readGate_125 : decode cX12_readGate 125 = .ok (.lor, 1) := by decide +kernel
theorem dX12_readGate_126 : decode cX12_readGate 126 = .ok (.putfield 281, 3) := by decide +kernel
theorem dX12_readGate_129 : decode cX12_readGate 129 = .ok (.aload_n 0, 1) := by decide +kernel
theorem dX12_readGate_130 : decode cX12_readGate 130 = .ok (.getfield 162, 3) := by decide +kernel
theorem dX12_readGate_133 : decode cX12_readGate 133 = .ok (.dup, 1) := by decide +kernel
theorem dX12_readGate_134 : decode cX12_readGate 134 = .ok (.getfield 278, 3) := by decide +kernel
theorem dX12_readGate_137 : decode cX12_readGate 137 = .ok (.iconst 1, 1) := by decide +kernel
theorem dX12_readGate_138 : decode cX12_readGate 138 = .ok (.iadd, 1) := by decide +kernel
theorem dX12_readGate_139 : decode cX12_readGate 139 = .ok (.putfield 278, 3) := by decide +kernel
theorem dX12_readGate_142 : decode cX12_readGate 142 = .ok (.return_, 1) := by decide +kernel
theorem dX12_readNoise_0 : decode cX12_readNoise 0 = .ok (.aload_n 0, 1) := by decide +kernel
theorem dX12_readNoise_1 : decode cX12_readNoise 1 = .ok (.getfield 162, 3) := by decide +kernel
theorem dX12_readNoise_4 : decode cX12_readNoise 4 = .ok (.getfield 286, 3) := by decide +kernel
theorem dX12_readNoise_7 : decode cX12_readNoise 7 = .ok (.bipush (-2), 2) := by decide +kernel
theorem dX12_readNoise_9 : decode cX12_readNoise 9 = .ok (.if_icmp .eq 8, 3) := by decide +kernel
theorem dX12_readNoise_12 : decode cX12_readNoise 12 = .ok (.aload_n 0, 1) := by decide +kernel
theorem dX12_readNoise_13 : decode cX12_readNoise 13 = .ok (.iconst 3, 1) := by decide +kernel
theorem dX12_readNoise_14 : decode cX12_readNoise 14 = .ok (.invokevirtual 143, 3) := by decide +kernel
theorem dX12_readNoise_17 : decode cX12_readNoise 17 = .ok (.aload_n 0, 1) := by decide +kernel
theorem dX12_readNoise_18 : decode cX12_readNoise 18 = .ok (.iconst 0, 1) := by decide +kernel
theorem dX12_readNoise_19 : decode cX12_readNoise 19 = .ok (.iconst 1, 1) := by decide +kernel
theorem dX12_readNoise_20 : decode cX12_readNoise 20 = .ok (.invokevirtual 249, 3) := by decide +kernel
theorem dX12_readNoise_23 : decode cX12_readNoise 23 = .ok (.aload_n 0, 1) := by decide +kernel
theorem dX12_readNoise_24 : decode cX12_readNoise 24 = .ok (.invokevirtual 288, 3) := by decide +kernel
theorem dX12_readNoise_27 : decode cX12_readNoise 27 = .ok (.istore_n 1, 1) := by decide +kernel
theorem dX12_readNoise_28 : decode cX12_readNoise 28 = .ok (.aload_n 0, 1) := by decide +kernel
theorem dX12_readNoise_29 : decode cX12_readNoise 29 = .ok (.getfield 94, 3) := by decide +kernel
theorem dX12_readNoise_32 : decode cX12_readNoise 32 = .ok (.iconst 5, 1) := by decide +kernel
theorem dX12_readNoise_33 : decode cX12_readNoise 33 = .ok (.if_icmp .eq 11, 3) := by decide +kernel
theorem dX12_readNoise_36 : decode cX12_readNoise 36 = .ok (.aload_n 0, 1) := by decide +kernel
theorem dX12_readNoise_37 : decode cX12_readNoise 37 = .ok (.getfield 162, 3) := by decide +kernel
theorem dX12_readNoise_40 : decode cX12_readNoise 40 = .ok (.iload_n 1, 1) := by decide +kernel
theorem dX12_readNoise_41 : decode cX12_readNoise 41 = .ok (.putfield 286, 3) := by decide +kernel
theorem dX12_readNoise_44 : decode cX12_readNoise 44 = .ok (.return_, 1) := by decide +kernel
theorem dX12_readHeard_0 : decode cX12_readHeard 0 = .ok (.aload_n 0, 1) := by decide +kernel
theorem dX12_readHeard_1 : decode cX12_readHeard 1 = .ok (.aload_n 0, 1) := by decide +kernel
theorem dX12_readHeard_2 : decode cX12_readHeard 2 = .ok (.getfield 162, 3) := by decide +kernel
theorem dX12_readHeard_5 : decode cX12_readHeard 5 = .ok (.getfield 291, 3) := by decide +kernel
theorem dX12_readHeard_8 : decode cX12_readHeard 8 = .ok (.iconst 5, 1) := by decide +kernel
theorem dX12_readHeard_9 : decode cX12_readHeard 9 = .ok (.invokevirtual 249, 3) := by decide +kernel
theorem dX12_readHeard_12 : decode cX12_readHeard 12 = .ok (.aload_n 0, 1) := by decide +kernel
theorem dX12_readHeard_13 : decode cX12_readHeard 13 = .ok (.iconst 0, 1) := by decide +kernel
theorem dX12_readHeard_14 : decode cX12_readHeard 14 = .ok (.bipush 60, 2) := by decide +kernel
theorem dX12_readHeard_16 : decode cX12_readHeard 16 = .ok (.invokevirtual 159, 3) := by decide +kernel
theorem dX12_readHeard_19 : decode cX12_readHeard 19 = .ok (.istore_n 1, 1) := by decide +kernel
theorem dX12_readHeard_20 : decode cX12_readHeard 20 = .ok (.aload_n 0, 1) := by decide +kernel
theorem dX12_readHeard_21 : decode cX12_readHeard 21 = .ok (.ldc_w 294, 3) := by decide +kernel
theorem dX12_readHeard_24 : decode cX12_readHeard 24 = .ok (.invokevirtual 155, 3) := by decide +kernel
theorem dX12_readHeard_27 : decode cX12_readHeard 27 = .ok (.aload_n 0, 1) := by decide +kernel
theorem dX12_readHeard_28 : decode cX12_readHeard 28 = .ok (.invokevirtual 288, 3) := by decide +kernel
theorem dX12_readHeard_31 : decode cX12_readHeard 31 = .ok (.istore_n 2, 1) := by decide +kernel
theorem dX12_readHeard_32 : decode cX12_readHeard 32 = .ok (.aload_n 0, 1) := by decide +kernel
theorem dX12_readHeard_33 : decode cX12_readHeard 33 = .ok (.getfield 94, 3) := by decide +kernel
theorem dX12_readHeard_36 : decode cX12_readHeard 36 = .ok (.iconst 5, 1) := by decide +kernel
theorem dX12_readHeard_37 : decode cX12_readHeard 37 = .ok (.if_icmp .ne 4, 3) := by decide +kernel
theorem dX12_readHeard_40 : decode cX12_readHeard 40 = .ok (.return_, 1) := by decide +kernel
theorem dX12_readHeard_41 : decode cX12_readHeard 41 = .ok (.aload_n 0, 1) := by decide +kernel
theorem dX12_readHeard_42 : decode cX12_readHeard 42 = .ok (.getfield 162, 3) := by decide +kernel
theorem dX12_readHeard_45 : decode cX12_readHeard 45 = .ok (.getfield 296, 3) := by decide +kernel
theorem dX12_readHeard_48 : decode cX12_readHeard 48 = .ok (.aload_n 0, 1) := by decide +kernel
theorem dX12_readHeard_49 : decode cX12_readHeard 49 = .ok (.getfield 162, 3) := by decide +kernel
theorem dX12_readHeard_52 : decode cX12_readHeard 52 = .ok (.getfield 291, 3) := by decide +kernel
theorem dX12_readHeard_55 : decode cX12_readHeard 55 = .ok (.iload_n 1, 1) := by decide +kernel
theorem dX12_readHeard_56 : decode cX12_readHeard 56 = .ok (.iastore, 1) := by decide +kernel
theorem dX12_readHeard_57 : decode cX12_readHeard 57 = .ok (.aload_n 0, 1) := by decide +kernel
theorem dX12_readHeard_58 : decode cX12_readHeard 58 = .ok (.getfield 162, 3) := by decide +kernel
theorem dX12_readHeard_61 : decode cX12_readHeard 61 = .ok (.getfield 298, 3) := by decide +kernel
theorem dX12_readHeard_64 : decode cX12_readHeard 64 = .ok (.aload_n 0, 1) := by decide +kernel
theorem dX12_readHeard_65 : decode cX12_readHeard 65 = .ok (.getfield 162, 3) := by decide +kernel
theorem dX12_readHeard_68 : decode cX12_readHeard 68 = .ok (.getfield 291, 3) := by decide +kernel
theorem dX12_readHeard_71 : decode cX12_readHeard 71 = .ok (.iload_n 2, 1) := by decide +kernel
theorem dX12_readHeard_72 : decode cX12_readHeard 72 = .ok (.iastore, 1) := by decide +kernel
theorem dX12_readHeard_73 : decode cX12_readHeard 73 = .ok (.aload_n 0, 1) := by decide +kernel
theorem dX12_readHeard_74 : decode cX12_readHeard 74 = .ok (.getfield 162, 3) := by decide +kernel
theorem dX12_readHeard_77 : decode cX12_readHeard 77 = .ok (.dup, 1) := by decide +kernel
theorem dX12_readHeard_78 : decode cX12_readHeard 78 = .ok (.getfield 291, 3) := by decide +kernel
theorem dX12_readHeard_81 : decode cX12_readHeard 81 = .ok (.iconst 1, 1) := by decide +kernel
theorem dX12_readHeard_82 : decode cX12_readHeard 82 = .ok (.iadd, 1) := by decide +kernel
theorem dX12_readHeard_83 : decode cX12_readHeard 83 = .ok (.putfield 291, 3) := by decide +kernel
theorem dX12_readHeard_86 : decode cX12_readHeard 86 = .ok (.return_, 1) := by decide +kernel
theorem dX12_isName_0 : decode cX12_isName 0 = .ok (.aload_n 0, 1) := by decide +kernel
theorem dX12_isName_1 : decode cX12_isName 1 = .ok (.getfield 94, 3) := by decide +kernel
theorem dX12_isName_4 : decode cX12_isName 4 = .ok (.iconst 2, 1) := by decide +kernel
theorem dX12_isName_5 : decode cX12_isName 5 = .ok (.if_icmp .ne 39, 3) := by decide +kernel
theorem dX12_isName_8 : decode cX12_isName 8 = .ok (.aload_n 0, 1) := by decide +kernel
theorem dX12_isName_9 : decode cX12_isName 9 = .ok (.ldc 186, 2) := by decide +kernel
theorem dX12_isName_11 : decode cX12_isName 11 = .ok (.invokevirtual 136, 3) := by decide +kernel
theorem dX12_isName_14 : decode cX12_isName 14 = .ok (.ifCond .ne 30, 3) := by decide +kernel
theorem dX12_isName_17 : decode cX12_isName 17 = .ok (.aload_n 0, 1) := by decide +kernel
theorem dX12_isName_18 : decode cX12_isName 18 = .ok (.ldc 191, 2) := by decide +kernel
theorem dX12_isName_20 : decode cX12_isName 20 = .ok (.invokevirtual 136, 3) := by decide +kernel
theorem dX12_isName_23 : decode cX12_isName 23 = .ok (.ifCond .ne 21, 3) := by decide +kernel
theorem dX12_isName_26 : decode cX12_isName 26 = .ok (.aload_n 0, 1) := by decide +kernel
theorem dX12_isName_27 : decode cX12_isName 27 = .ok (.ldc 195, 2) := by decide +kernel
theorem dX12_isName_29 : decode cX12_isName 29 = .ok (.invokevirtual 136, 3) := by decide +kernel
theorem dX12_isName_32 : decode cX12_isName 32 = .ok (.ifCond .ne 12, 3) := by decide +kernel
theorem dX12_isName_35 : decode cX12_isName 35 = .ok (.aload_n 0, 1) := by decide +kernel
theorem dX12_isName_36 : decode cX12_isName 36 = .ok (.ldc 200, 2) := by decide +kernel
theorem dX12_isName_38 : decode cX12_isName 38 = .ok (.invokevirtual 136, 3) := by decide +kernel
theorem dX12_isName_41 : decode cX12_isName 41 = .ok (.ifCond .eq 5, 3) := by decide +kernel
theorem dX12_isName_44 : decode cX12_isName 44 = .ok (.iconst 0, 1) := by decide +kernel
theorem dX12_isName_45 : decode cX12_isName 45 = .ok (.ireturn, 1) := by decide +kernel
theorem dX12_isName_46 : decode cX12_isName 46 = .ok (.aload_n 0, 1) := by decide +kernel
theorem dX12_isName_47 : decode cX12_isName 47 = .ok (.ldc 205, 2) := by decide +kernel
theorem dX12_isName_49 : decode cX12_isName 49 = .ok (.invokevirtual 136, 3) := by decide +kernel
theorem dX12_isName_52 : decode cX12_isName 52 = .ok (.ifCond .ne 34, 3) := by decide +kernel
theorem dX12_isName_55 : decode cX12_isName 55 = .ok (.aload_n 0, 1) := by decide +kernel
theorem dX12_isName_56 : decode cX12_isName 56 = .ok (.ldc 210, 2) := by decide +kernel
theorem dX12_isName_58 : decode cX12_isName 58 = .ok (.invokevirtual 136, 3) := by decide +kernel
theorem dX12_isName_61 : decode cX12_isName 61 = .ok (.ifCond .ne 25, 3) := by decide +kernel
theorem dX12_isName_64 : decode cX12_isName 64 = .ok (.aload_n 0, 1) := by decide +kernel
theorem dX12_isName_65 : decode cX12_isName 65 = .ok (.ldc 215, 2) := by decide +kernel
theorem dX12_isName_67 : decode cX12_isName 67 = .ok (.invokevirtual 136, 3) := by decide +kernel
theorem dX12_isName_70 : decode cX12_isName 70 = .ok (.ifCond .ne 16, 3) := by decide +kernel
theorem dX12_isName_73 : decode cX12_isName 73 = .ok (.aload_n 0, 1) := by decide +kernel
theorem dX12_isName_74 : decode cX12_isName 74 = .ok (.ldc 220, 2) := by decide +kernel
theorem dX12_isName_76 : decode cX12_isName 76 = .ok (.invokevirtual 136, 3) := by decide +kernel
theorem dX12_isName_79 : decode cX12_isName 79 = .ok (.ifCond .ne 7, 3) := by decide +kernel
theorem dX12_isName_82 : decode cX12_isName 82 = .ok (.iconst 1, 1) := by decide +kernel
theorem dX12_isName_83 : decode cX12_isName 83 = .ok (.goto 4, 3) := by decide +kernel
theorem dX12_isName_86 : decode cX12_isName 86 = .ok (.iconst 0, 1) := by decide +kernel
theorem dX12_isName_87 : decode cX12_isName 87 = .ok (.ireturn, 1) := by decide +kernel
theorem dX12_readWalker_0 : decode cX12_readWalker 0 = .ok (.aload_n 0, 1) := by decide +kernel
theorem dX12_readWalker_1 : decode cX12_readWalker 1 = .ok (.aload_n 0, 1) := by decide +kernel
theorem dX12_readWalker_2 : decode cX12_readWalker 2 = .ok (.getfield 162, 3) := by decide +kernel
theorem dX12_readWalker_5 : decode cX12_readWalker 5 = .ok (.getfield 301, 3) := by decide +kernel
theorem dX12_readWalker_8 : decode cX12_readWalker 8 = .ok (.iconst 5, 1) := by decide +kernel
theorem dX12_readWalker_9 : decode cX12_readWalker 9 = .ok (.invokevirtual 249, 3) := by decide +kernel
theorem dX12_readWalker_12 : decode cX12_readWalker 12 = .ok (.aload_n 0, 1) := by decide +kernel
theorem dX12_readWalker_13 : decode cX12_readWalker 13 = .ok (.invokevirtual 304, 3) := by decide +kernel
theorem dX12_readWalker_16 : decode cX12_readWalker 16 = .ok (.ifCond .ne 8, 3) := by decide +kernel
theorem dX12_readWalker_19 : decode cX12_readWalker 19 = .ok (.aload_n 0, 1) := by decide +kernel
theorem dX12_readWalker_20 : decode cX12_readWalker 20 = .ok (.iconst 1, 1) := by decide +kernel
theorem dX12_readWalker_21 : decode cX12_readWalker 21 = .ok (.invokevirtual 143, 3) := by decide +kernel
theorem dX12_readWalker_24 : decode cX12_readWalker 24 = .ok (.iconst 0, 1) := by decide +kernel
theorem dX12_readWalker_25 : decode cX12_readWalker 25 = .ok (.istore_n 1, 1) := by decide +kernel
theorem dX12_readWalker_26 : decode cX12_readWalker 26 = .ok (.iload_n 1, 1) := by decide +kernel
theorem dX12_readWalker_27 : decode cX12_readWalker 27 = .ok (.aload_n 0, 1) := by decide +kernel
theorem dX12_readWalker_28 : decode cX12_readWalker 28 = .ok (.getfield 162, 3) := by decide +kernel
theorem dX12_readWalker_31 : decode cX12_readWalker 31 = .ok (.getfield 301, 3) := by decide +kernel
theorem dX12_readWalker_34 : decode cX12_readWalker 34 = .ok (.if_icmp .ge 39, 3) := by decide +kernel
theorem dX12_readWalker_37 : decode cX12_readWalker 37 = .ok (.aload_n 0, 1) := by decide +kernel
theorem dX12_readWalker_38 : decode cX12_readWalker 38 = .ok (.getfield 94, 3) := by decide +kernel
theorem dX12_readWalker_41 : decode cX12_readWalker 41 = .ok (.iconst 5, 1) := by decide +kernel
theorem dX12_readWalker_42 : decode cX12_readWalker 42 = .ok (.if_icmp .eq 25, 3) := by decide +kernel
theorem dX12_readWalker_45 : decode cX12_readWalker 45 = .ok (.aload_n 0, 1) := by decide +kernel
theorem dX12_readWalker_46 : decode cX12_readWalker 46 = .ok (.getfield 162, 3) := by decide +kernel
theorem dX12_readWalker_49 : decode cX12_readWalker 49 = .ok (.getfield 308, 3) := by decide +kernel
theorem dX12_readWalker_52 : decode cX12_readWalker 52 = .ok (.iload_n 1, 1) := by decide +kernel
theorem dX12_readWalker_53 : decode cX12_readWalker 53 = .ok (.laload, 1) := by decide +kernel
theorem dX12_readWalker_54 : decode cX12_readWalker 54 = .ok (.aload_n 0, 1) := by decide +kernel
theorem dX12_readWalker_55 : decode cX12_readWalker 55 = .ok (.getfield 113, 3) := by decide +kernel
theorem dX12_readWalker_58 : decode cX12_readWalker 58 = .ok (.lcmp, 1) := by decide +kernel
theorem dX12_readWalker_59 : decode cX12_readWalker 59 = .ok (.ifCond .ne 8, 3) := by decide +kernel
theorem dX12_readWalker_62 : decode cX12_readWalker 62 = .ok (.aload_n 0, 1) := by decide +kernel
theorem dX12_readWalker_63 : decode cX12_readWalker 63 = .ok (.iconst 3, 1) := by decide +kernel
theorem dX12_readWalker_64 : decode cX12_readWalker 64 = .ok (.invokevirtual 143, 3) := by decide +kernel
theorem dX12_readWalker_67 : decode cX12_readWalker 67 = .ok (.iinc 1 1, 3) := by decide +kernel
theorem dX12_readWalker_70 : decode cX12_readWalker 70 = .ok (.goto (-44), 3) := by decide +kernel
theorem dX12_readWalker_73 : decode cX12_readWalker 73 = .ok (.aload_n 0, 1) := by decide +kernel
theorem dX12_readWalker_74 : decode cX12_readWalker 74 = .ok (.getfield 113, 3) := by decide +kernel
theorem dX12_readWalker_77 : decode cX12_readWalker 77 = .ok (.lstore_n 1, 1) := by decide +kernel
theorem dX12_readWalker_78 : decode cX12_readWalker 78 = .ok (.aload_n 0, 1) := by decide +kernel
theorem dX12_readWalker_79 : decode cX12_readWalker 79 = .ok (.invokevirtual 140, 3) := by decide +kernel
theorem dX12_readWalker_82 : decode cX12_readWalker 82 = .ok (.aload_n 0, 1) := by decide +kernel
theorem dX12_readWalker_83 : decode cX12_readWalker 83 = .ok (.ldc_w 311, 3) := by decide +kernel
theorem dX12_readWalker_86 : decode cX12_readWalker 86 = .ok (.invokevirtual 313, 3) := by decide +kernel
theorem dX12_readWalker_89 : decode cX12_readWalker 89 = .ok (.ifCond .eq 7, 3) := by decide +kernel
theorem dX12_readWalker_92 : decode cX12_readWalker 92 = .ok (.iconst 0, 1) := by decide +kernel
theorem dX12_readWalker_93 : decode cX12_readWalker 93 = .ok (.goto 60, 3) := by decide +kernel
theorem dX12_readWalker_96 : decode cX12_readWalker 96 = .ok (.aload_n 0, 1) := by decide +kernel
theorem dX12_readWalker_97 : decode cX12_readWalker 97 = .ok (.ldc_w 316, 3) := by decide +kernel
theorem dX12_readWalker_100 : decode cX12_readWalker 100 = .ok (.invokevirtual 313, 3) := by decide +kernel
theorem dX12_readWalker_103 : decode cX12_readWalker 103 = .ok (.ifCond .eq 7, 3) := by decide +kernel
theorem dX12_readWalker_106 : decode cX12_readWalker 106 = .ok (.iconst 1, 1) := by decide +kernel
theorem dX12_readWalker_107 : decode cX12_readWalker 107 = .ok (.goto 46, 3) := by decide +kernel
theorem dX12_readWalker_110 : decode cX12_readWalker 110 = .ok (.aload_n 0, 1) := by decide +kernel
theorem dX12_readWalker_111 : decode cX12_readWalker 111 = .ok (.ldc_w 318, 3) := by decide +kernel
theorem dX12_readWalker_114 : decode cX12_readWalker 114 = .ok (.invokevirtual 313, 3) := by decide +kernel
theorem dX12_readWalker_117 : decode cX12_readWalker 117 = .ok (.ifCond .eq 7, 3) := by decide +kernel
theorem dX12_readWalker_120 : decode cX12_readWalker 120 = .ok (.iconst 2, 1) := by decide +kernel
theorem dX12_readWalker_121 : decode cX12_readWalker 121 = .ok (.goto 32, 3) := by decide +kernel
theorem dX12_readWalker_124 : decode cX12_readWalker 124 = .ok (.aload_n 0, 1) := by decide +kernel
theorem dX12_readWalker_125 : decode cX12_readWalker 125 = .ok (.ldc_w 320, 3) := by decide +kernel
theorem dX12_readWalker_128 : decode cX12_readWalker 128 = .ok (.invokevirtual 313, 3) := by decide +kernel
theorem dX12_readWalker_131 : decode cX12_readWalker 131 = .ok (.ifCond .eq 7, 3) := by decide +kernel
theorem dX12_readWalker_134 : decode cX12_readWalker 134 = .ok (.iconst 3, 1) := by decide +kernel
theorem dX12_readWalker_135 : decode cX12_readWalker 135 = .ok (.goto 18, 3) := by decide +kernel
theorem dX12_readWalker_138 : decode cX12_readWalker 138 = .ok (.aload_n 0, 1) := by decide +kernel
theorem dX12_readWalker_139 : decode cX12_readWalker 139 = .ok (.ldc_w 322, 3) := by decide +kernel
theorem dX12_readWalker_142 : decode cX12_readWalker 142 = .ok (.invokevirtual 313, 3) := by decide +kernel
theorem dX12_readWalker_145 : decode cX12_readWalker 145 = .ok (.ifCond .eq 7, 3) := by decide +kernel
theorem dX12_readWalker_148 : decode cX12_readWalker 148 = .ok (.iconst 4, 1) := by decide +kernel
theorem dX12_readWalker_149 : decode cX12_readWalker 149 = .ok (.goto 4, 3) := by decide +kernel
theorem dX12_readWalker_152 : decode cX12_readWalker 152 = .ok (.iconst (-1), 1) := by decide +kernel
theorem dX12_readWalker_153 : decode cX12_readWalker 153 = .ok (.istore_n 3, 1) := by decide +kernel
theorem dX12_readWalker_154 : decode cX12_readWalker 154 = .ok (.iload_n 3, 1) := by decide +kernel
theorem dX12_readWalker_155 : decode cX12_readWalker 155 = .ok (.iconst (-1), 1) := by decide +kernel
theorem dX12_readWalker_156 : decode cX12_readWalker 156 = .ok (.if_icmp .ne 8, 3) := by decide +kernel
theorem dX12_readWalker_159 : decode cX12_readWalker 159 = .ok (.aload_n 0, 1) := by decide +kernel
theorem dX12_readWalker_160 : decode cX12_readWalker 160 = .ok (.iconst 1, 1) := by decide +kernel
theorem dX12_readWalker_161 : decode cX12_readWalker 161 = .ok (.invokevirtual 143, 3) := by decide +kernel
theorem dX12_readWalker_164 : decode cX12_readWalker 164 = .ok (.aload_n 0, 1) := by decide +kernel
theorem dX12_readWalker_165 : decode cX12_readWalker 165 = .ok (.ldc_w 324, 3) := by decide +kernel
theorem dX12_readWalker_168 : decode cX12_readWalker 168 = .ok (.invokevirtual 155, 3) := by decide +kernel
theorem dX12_readWalker_171 : decode cX12_readWalker 171 = .ok (.aload_n 0, 1) := by decide +kernel
theorem dX12_readWalker_172 : decode cX12_readWalker 172 = .ok (.invokevirtual 288, 3) := by decide +kernel
theorem dX12_readWalker_175 : decode cX12_readWalker 175 = .ok (.istore 4, 2) := by decide +kernel
theorem dX12_readWalker_177 : decode cX12_readWalker 177 = .ok (.aload_n 0, 1) := by decide +kernel
theorem dX12_readWalker_178 : decode cX12_readWalker 178 = .ok (.ldc_w 326, 3) := by decide +kernel
theorem dX12_readWalker_181 : decode cX12_readWalker 181 = .ok (.invokevirtual 155, 3) := by decide +kernel
theorem dX12_readWalker_184 : decode cX12_readWalker 184 = .ok (.aload_n 0, 1) := by decide +kernel
theorem dX12_readWalker_185 : decode cX12_readWalker 185 = .ok (.ldc_w 328, 3) := by decide +kernel
theorem dX12_readWalker_188 : decode cX12_readWalker 188 = .ok (.invokevirtual 313, 3) := by decide +kernel
theorem dX12_readWalker_191 : decode cX12_readWalker 191 = .ok (.ifCond .eq 7, 3) := by decide +kernel
theorem dX12_readWalker_194 : decode cX12_readWalker 194 = .ok (.iconst 0, 1) := by decide +kernel
theorem dX12_readWalker_195 : decode cX12_readWalker 195 = .ok (.goto 46, 3) := by decide +kernel
theorem dX12_readWalker_198 : decode cX12_readWalker 198 = .ok (.aload_n 0, 1) := by decide +kernel
theorem dX12_readWalker_199 : decode cX12_readWalker 199 = .ok (.ldc_w 330, 3) := by decide +kernel
theorem dX12_readWalker_202 : decode cX12_readWalker 202 = .ok (.invokevirtual 313, 3) := by decide +kernel
theorem dX12_readWalker_205 : decode cX12_readWalker 205 = .ok (.ifCond .eq 7, 3) := by decide +kernel
theorem dX12_readWalker_208 : decode cX12_readWalker 208 = .ok (.iconst 1, 1) := by decide +kernel
theorem dX12_readWalker_209 : decode cX12_readWalker 209 = .ok (.goto 32, 3) := by decide +kernel
theorem dX12_readWalker_212 : decode cX12_readWalker 212 = .ok (.aload_n 0, 1) := by decide +kernel
theorem dX12_readWalker_213 : decode cX12_readWalker 213 = .ok (.ldc_w 332, 3) := by decide +kernel
theorem dX12_readWalker_216 : decode cX12_readWalker 216 = .ok (.invokevirtual 313, 3) := by decide +kernel
theorem dX12_readWalker_219 : decode cX12_readWalker 219 = .ok (.ifCond .eq 7, 3) := by decide +kernel
theorem dX12_readWalker_222 : decode cX12_readWalker 222 = .ok (.iconst 2, 1) := by decide +kernel
theorem dX12_readWalker_223 : decode cX12_readWalker 223 = .ok (.goto 18, 3) := by decide +kernel
theorem dX12_readWalker_226 : decode cX12_readWalker 226 = .ok (.aload_n 0, 1) := by decide +kernel
theorem dX12_readWalker_227 : decode cX12_readWalker 227 = .ok (.ldc_w 334, 3) := by decide +kernel
theorem dX12_readWalker_230 : decode cX12_readWalker 230 = .ok (.invokevirtual 313, 3) := by decide +kernel
theorem dX12_readWalker_233 : decode cX12_readWalker 233 = .ok (.ifCond .eq 7, 3) := by decide +kernel
theorem dX12_readWalker_236 : decode cX12_readWalker 236 = .ok (.iconst 3, 1) := by decide +kernel
theorem dX12_readWalker_237 : decode cX12_readWalker 237 = .ok (.goto 4, 3) := by decide +kernel
theorem dX12_readWalker_240 : decode cX12_readWalker 240 = .ok (.iconst (-1), 1) := by decide +kernel
theorem dX12_readWalker_241 : decode cX12_readWalker 241 = .ok (.istore 5, 2) := by decide +kernel
theorem dX12_readWalker_243 : decode cX12_readWalker 243 = .ok (.iload 5, 2) := by decide +kernel
theorem dX12_readWalker_245 : decode cX12_readWalker 245 = .ok (.iconst (-1), 1) := by decide +kernel
theorem dX12_readWalker_246 : decode cX12_readWalker 246 = .ok (.if_icmp .ne 8, 3) := by decide +kernel
theorem dX12_readWalker_249 : decode cX12_readWalker 249 = .ok (.aload_n 0, 1) := by decide +kernel
theorem dX12_readWalker_250 : decode cX12_readWalker 250 = .ok (.iconst 1, 1) := by decide +kernel
theorem dX12_readWalker_251 : decode cX12_readWalker 251 = .ok (.invokevirtual 143, 3) := by decide +kernel
theorem dX12_readWalker_254 : decode cX12_readWalker 254 = .ok (.aload_n 0, 1) := by decide +kernel
theorem dX12_readWalker_255 : decode cX12_readWalker 255 = .ok (.ldc_w 336, 3) := by decide +kernel
theorem dX12_readWalker_258 : decode cX12_readWalker 258 = .ok (.iconst 0, 1) := by decide +kernel
theorem dX12_readWalker_259 : decode cX12_readWalker 259 = .ok (.bipush 99, 2) := by decide +kernel
theorem dX12_readWalker_261 : decode cX12_readWalker 261 = .ok (.invokevirtual 226, 3) := by decide +kernel
theorem dX12_readWalker_264 : decode cX12_readWalker 264 = .ok (.istore 6, 2) := by decide +kernel
theorem dX12_readWalker_266 : decode cX12_readWalker 266 = .ok (.aload_n 0, 1) := by decide +kernel
theorem dX12_readWalker_267 : decode cX12_readWalker 267 = .ok (.getfield 94, 3) := by decide +kernel
theorem dX12_readWalker_270 : decode cX12_readWalker 270 = .ok (.iconst 5, 1) := by decide +kernel
theorem dX12_readWalker_271 : decode cX12_readWalker 271 = .ok (.if_icmp .ne 4, 3) := by decide +kernel
theorem dX12_readWalker_274 : decode cX12_readWalker 274 = .ok (.return_, 1) := by decide +kernel
theorem dX12_readWalker_275 : decode cX12_readWalker 275 = .ok (.aload_n 0, 1) := by decide +kernel
theorem dX12_readWalker_276 : decode cX12_readWalker 276 = .ok (.getfield 162, 3) := by decide +kernel
theorem dX12_readWalker_279 : decode cX12_readWalker 279 = .ok (.getfield 308, 3) := by decide +kernel
theorem dX12_readWalker_282 : decode cX12_readWalker 282 = .ok (.aload_n 0, 1) := by decide +kernel
theorem dX12_readWalker_283 : decode cX12_readWalker 283 = .ok (.getfield 162, 3) := by decide +kernel
theorem dX12_readWalker_286 : decode cX12_readWalker 286 = .ok (.getfield 301, 3) := by decide +kernel
theorem dX12_readWalker_289 : decode cX12_readWalker 289 = .ok (.lload_n 1, 1) := by decide +kernel
theorem dX12_readWalker_290 : decode cX12_readWalker 290 = .ok (.lastore, 1) := by decide +kernel
theorem dX12_readWalker_291 : decode cX12_readWalker 291 = .ok (.aload_n 0, 1) := by decide +kernel
theorem dX12_readWalker_292 : decode cX12_readWalker 292 = .ok (.getfield 162, 3) := by decide +kernel
theorem dX12_readWalker_295 : decode cX12_readWalker 295 = .ok (.getfield 338, 3) := by decide +kernel
theorem dX12_readWalker_298 : decode cX12_readWalker 298 = .ok (.aload_n 0, 1) := by decide +kernel
theorem dX12_readWalker_299 : decode cX12_readWalker 299 = .ok (.getfield 162, 3) := by decide +kernel
theorem dX12_readWalker_302 : decode cX12_readWalker 302 = .ok (.getfield 301, 3) := by decide +kernel
theorem dX12_readWalker_305 : decode cX12_readWalker 305 = .ok (.iload_n 3, 1) := by decide +kernel
theorem dX12_readWalker_306 : decode cX12_readWalker 306 = .ok (.iastore, 1) := by decide +kernel
theorem dX12_readWalker_307 : decode cX12_readWalker 307 = .ok (.aload_n 0, 1) := by decide +kernel
theorem dX12_readWalker_308 : decode cX12_readWalker 308 = .ok (.getfield 162, 3) := by decide +kernel
theorem dX12_readWalker_311 : decode cX12_readWalker 311 = .ok (.getfield 341, 3) := by decide +kernel
theorem dX12_readWalker_314 : decode cX12_readWalker 314 = .ok (.aload_n 0, 1) := by decide +kernel
theorem dX12_readWalker_315 : decode cX12_readWalker 315 = .ok (.getfield 162, 3) := by decide +kernel
theorem dX12_readWalker_318 : decode cX12_readWalker 318 = .ok (.getfield 301, 3) := by decide +kernel
theorem dX12_readWalker_321 : decode cX12_readWalker 321 = .ok (.iload 4, 2) := by decide +kernel
theorem dX12_readWalker_323 : decode cX12_readWalker 323 = .ok (.iastore, 1) := by decide +kernel
theorem dX12_readWalker_324 : decode cX12_readWalker 324 = .ok (.aload_n 0, 1) := by decide +kernel
theorem dX12_readWalker_325 : decode cX12_readWalker 325 = .ok (.getfield 162, 3) := by decide +kernel
theorem dX12_readWalker_328 : decode cX12_readWalker 328 = .ok (.getfield 344, 3) := by decide +kernel
theorem dX12_readWalker_331 : decode cX12_readWalker 331 = .ok (.aload_n 0, 1) := by decide +kernel
theorem dX12_readWalker_332 : decode cX12_readWalker 332 = .ok (.getfield 162, 3) := by decide +kernel
theorem dX12_readWalker_335 : decode cX12_readWalker 335 = .ok (.getfield 301, 3) := by decide +kernel
theorem dX12_readWalker_338 : decode cX12_readWalker 338 = .ok (.iload 5, 2) := by decide +kernel
theorem dX12_readWalker_340 : decode cX12_readWalker 340 = .ok (.iastore, 1) := by decide +kernel
theorem dX12_readWalker_341 : decode cX12_readWalker 341 = .ok (.aload_n 0, 1) := by decide +kernel
theorem dX12_readWalker_342 : decode cX12_readWalker 342 = .ok (.getfield 162, 3) := by decide +kernel
theorem dX12_readWalker_345 : decode cX12_readWalker 345 = .ok (.getfield 346, 3) := by decide +kernel
theorem dX12_readWalker_348 : decode cX12_readWalker 348 = .ok (.aload_n 0, 1) := by decide +kernel
theorem dX12_readWalker_349 : decode cX12_readWalker 349 = .ok (.getfield 162, 3) := by decide +kernel
theorem dX12_readWalker_352 : decode cX12_readWalker 352 = .ok (.getfield 301, 3) := by decide +kernel
theorem dX12_readWalker_355 : decode cX12_readWalker 355 = .ok (.iload 6, 2) := by decide +kernel
theorem dX12_readWalker_357 : decode cX12_readWalker 357 = .ok (.iastore, 1) := by decide +kernel
theorem dX12_readWalker_358 : decode cX12_readWalker 358 = .ok (.aload_n 0, 1) := by decide +kernel
theorem dX12_readWalker_359 : decode cX12_readWalker 359 = .ok (.getfield 162, 3) := by decide +kernel
theorem dX12_readWalker_362 : decode cX12_readWalker 362 = .ok (.dup, 1) := by decide +kernel
theorem dX12_readWalker_363 : decode cX12_readWalker 363 = .ok (.getfield 301, 3) := by decide +kernel
theorem dX12_readWalker_366 : decode cX12_readWalker 366 = .ok (.iconst 1, 1) := by decide +kernel
theorem dX12_readWalker_367 : decode cX12_readWalker 367 = .ok (.iadd, 1) := by decide +kernel
theorem dX12_readWalker_368 : decode cX12_readWalker 368 = .ok (.putfield 301, 3) := by decide +kernel
theorem dX12_readWalker_371 : decode cX12_readWalker 371 = .ok (.return_, 1) := by decide +kernel
theorem dX12_feed_0 : decode cX12_feed 0 = .ok (.aload_n 0, 1) := by decide +kernel
theorem dX12_feed_1 : decode cX12_feed 1 = .ok (.iconst 0, 1) := by decide +kernel
theorem dX12_feed_2 : decode cX12_feed 2 = .ok (.putfield 62, 3) := by decide +kernel
theorem dX12_feed_5 : decode cX12_feed 5 = .ok (.aload_n 0, 1) := by decide +kernel
theorem dX12_feed_6 : decode cX12_feed 6 = .ok (.getfield 348, 3) := by decide +kernel
theorem dX12_feed_9 : decode cX12_feed 9 = .ok (.bipush 20, 2) := by decide +kernel
theorem dX12_feed_11 : decode cX12_feed 11 = .ok (.iadd, 1) := by decide +kernel
theorem dX12_feed_12 : decode cX12_feed 12 = .ok (.sipush 900, 3) := by decide +kernel
theorem dX12_feed_15 : decode cX12_feed 15 = .ok (.if_icmp .le 5, 3) := by decide +kernel
theorem dX12_feed_18 : decode cX12_feed 18 = .ok (.iconst (-1), 1) := by decide +kernel
theorem dX12_feed_19 : decode cX12_feed 19 = .ok (.ireturn, 1) := by decide +kernel
theorem dX12_feed_20 : decode cX12_feed 20 = .ok (.iconst 0, 1) := by decide +kernel
theorem dX12_feed_21 : decode cX12_feed 21 = .ok (.istore 6, 2) := by decide +kernel
theorem dX12_feed_23 : decode cX12_feed 23 = .ok (.iload 6, 2) := by decide +kernel
theorem dX12_feed_25 : decode cX12_feed 25 = .ok (.bipush 20, 2) := by decide +kernel
theorem dX12_feed_27 : decode cX12_feed 27 = .ok (.if_icmp .ge 90, 3) := by decide +kernel
theorem dX12_feed_30 : decode cX12_feed 30 = .ok (.iload 6, 2) := by decide +kernel
theorem dX12_feed_32 : decode cX12_feed 32 = .ok (.iconst 4, 1) := by decide +kernel
theorem dX12_feed_33 : decode cX12_feed 33 = .ok (.if_icmp .ge 7, 3) := by decide +kernel
theorem dX12_feed_36 : decode cX12_feed 36 = .ok (.iload_n 1, 1) := by decide +kernel
theorem dX12_feed_37 : decode cX12_feed 37 = .ok (.goto 39, 3) := by decide +kernel
theorem dX12_feed_40 : decode cX12_feed 40 = .ok (.iload 6, 2) := by decide +kernel
theorem dX12_feed_42 : decode cX12_feed 42 = .ok (.bipush 8, 2) := by decide +kernel
theorem dX12_feed_44 : decode cX12_feed 44 = .ok (.if_icmp .ge 7, 3) := by decide +kernel
theorem dX12_feed_47 : decode cX12_feed 47 = .ok (.iload_n 2, 1) := by decide +kernel
theorem dX12_feed_48 : decode cX12_feed 48 = .ok (.goto 28, 3) := by decide +kernel
theorem dX12_feed_51 : decode cX12_feed 51 = .ok (.iload 6, 2) := by decide +kernel
theorem dX12_feed_53 : decode cX12_feed 53 = .ok (.bipush 12, 2) := by decide +kernel
theorem dX12_feed_55 : decode cX12_feed 55 = .ok (.if_icmp .ge 7, 3) := by decide +kernel
theorem dX12_feed_58 : decode cX12_feed 58 = .ok (.iload_n 3, 1) := by decide +kernel
theorem dX12_feed_59 : decode cX12_feed 59 = .ok (.goto 17, 3) := by decide +kernel
theorem dX12_feed_62 : decode cX12_feed 62 = .ok (.iload 6, 2) := by decide +kernel
theorem dX12_feed_64 : decode cX12_feed 64 = .ok (.bipush 16, 2) := by decide +kernel
theorem dX12_feed_66 : decode cX12_feed 66 = .ok (.if_icmp .ge 8, 3) := by decide +kernel
theorem dX12_feed_69 : decode cX12_feed 69 = .ok (.iload 4, 2) := by decide +kernel
theorem dX12_feed_71 : decode cX12_feed 71 = .ok (.goto 5, 3) := by decide +kernel
theorem dX12_feed_74 : decode cX12_feed 74 = .ok (.iload 5, 2) := by decide +kernel
theorem dX12_feed_76 : decode cX12_feed 76 = .ok (.istore 7, 2) := by decide +kernel
theorem dX12_feed_78 : decode cX12_feed 78 = .ok (.aload_n 0, 1) := by decide +kernel
theorem dX12_feed_79 : decode cX12_feed 79 = .ok (.getfield 13, 3) := by decide +kernel
theorem dX12_feed_82 : decode cX12_feed 82 = .ok (.aload_n 0, 1) := by decide +kernel
theorem dX12_feed_83 : decode cX12_feed 83 = .ok (.getfield 348, 3) := by decide +kernel
theorem dX12_feed_86 : decode cX12_feed 86 = .ok (.iload 7, 2) := by decide +kernel
theorem dX12_feed_88 : decode cX12_feed 88 = .ok (.bipush 24, 2) := by decide +kernel
theorem dX12_feed_90 : decode cX12_feed 90 = .ok (.bipush 8, 2) := by decide +kernel
theorem dX12_feed_92 : decode cX12_feed 92 = .ok (.iload 6, 2) := by decide +kernel
theorem dX12_feed_94 : decode cX12_feed 94 = .ok (.iconst 4, 1) := by decide +kernel
theorem dX12_feed_95 : decode cX12_feed 95 = .ok (.irem, 1) := by decide +kernel
theorem dX12_feed_96 : decode cX12_feed 96 = .ok (.imul, 1) := by decide +kernel
theorem dX12_feed_97 : decode cX12_feed 97 = .ok (.isub, 1) := by decide +kernel
theorem dX12_feed_98 : decode cX12_feed 98 = .ok (.ishr, 1) := by decide +kernel
theorem dX12_feed_99 : decode cX12_feed 99 = .ok (.i2b, 1) := by decide +kernel
theorem dX12_feed_100 : decode cX12_feed 100 = .ok (.bastore, 1) := by decide +kernel
theorem dX12_feed_101 : decode cX12_feed 101 = .ok (.aload_n 0, 1) := by decide +kernel
theorem dX12_feed_102 : decode cX12_feed 102 = .ok (.dup, 1) := by decide +kernel
theorem dX12_feed_103 : decode cX12_feed 103 = .ok (.getfield 348, 3) := by decide +kernel
theorem dX12_feed_106 : decode cX12_feed 106 = .ok (.iconst 1, 1) := by decide +kernel
theorem dX12_feed_107 : decode cX12_feed 107 = .ok (.iadd, 1) := by decide +kernel
theorem dX12_feed_108 : decode cX12_feed 108 = .ok (.putfield 348, 3) := by decide +kernel
theorem dX12_feed_111 : decode cX12_feed 111 = .ok (.iinc 6 1, 3) := by decide +kernel
theorem dX12_feed_114 : decode cX12_feed 114 = .ok (.goto (-91), 3) := by decide +kernel
theorem dX12_feed_117 : decode cX12_feed 117 = .ok (.aload_n 0, 1) := by decide +kernel
theorem dX12_feed_118 : decode cX12_feed 118 = .ok (.getfield 348, 3) := by decide +kernel
theorem dX12_feed_121 : decode cX12_feed 121 = .ok (.ireturn, 1) := by decide +kernel
theorem dX12_meadow_0 : decode cX12_meadow 0 = .ok (.aload_n 0, 1) := by decide +kernel
theorem dX12_meadow_1 : decode cX12_meadow 1 = .ok (.iconst 0, 1) := by decide +kernel
theorem dX12_meadow_2 : decode cX12_meadow 2 = .ok (.putfield 62, 3) := by decide +kernel
theorem dX12_meadow_5 : decode cX12_meadow 5 = .ok (.iload_n 1, 1) := by decide +kernel
theorem dX12_meadow_6 : decode cX12_meadow 6 = .ok (.ifCond .lt 11, 3) := by decide +kernel
theorem dX12_meadow_9 : decode cX12_meadow 9 = .ok (.iload_n 1, 1) := by decide +kernel
theorem dX12_meadow_10 : decode cX12_meadow 10 = .ok (.aload_n 0, 1) := by decide +kernel
theorem dX12_meadow_11 : decode cX12_meadow 11 = .ok (.getfield 348, 3) := by decide +kernel
theorem dX12_meadow_14 : decode cX12_meadow 14 = .ok (.if_icmp .le 9, 3) := by decide +kernel
theorem dX12_meadow_17 : decode cX12_meadow 17 = .ok (.aload_n 0, 1) := by decide +kernel
theorem dX12_meadow_18 : decode cX12_meadow 18 = .ok (.iconst 2, 1) := by decide +kernel
theorem dX12_meadow_19 : decode cX12_meadow 19 = .ok (.invokevirtual 68, 3) := by decide +kernel
theorem dX12_meadow_22 : decode cX12_meadow 22 = .ok (.ireturn, 1) := by decide +kernel
theorem dX12_meadow_23 : decode cX12_meadow 23 = .ok (.aload_n 0, 1) := by decide +kernel
theorem dX12_meadow_24 : decode cX12_meadow 24 = .ok (.iload_n 1, 1) := by decide +kernel
theorem dX12_meadow_25 : decode cX12_meadow 25 = .ok (.putfield 79, 3) := by decide +kernel
theorem dX12_meadow_28 : decode cX12_meadow 28 = .ok (.aload_n 0, 1) := by decide +kernel
theorem dX12_meadow_29 : decode cX12_meadow 29 = .ok (.iconst 0, 1) := by decide +kernel
theorem dX12_meadow_30 : decode cX12_meadow 30 = .ok (.putfield 348, 3) := by decide +kernel
theorem dX12_meadow_33 : decode cX12_meadow 33 = .ok (.aload_n 0, 1) := by decide +kernel
theorem dX12_meadow_34 : decode cX12_meadow 34 = .ok (.iconst 0, 1) := by decide +kernel
theorem dX12_meadow_35 : decode cX12_meadow 35 = .ok (.putfield 97, 3) := by decide +kernel
theorem dX12_meadow_38 : decode cX12_meadow 38 = .ok (.aload_n 0, 1) := by decide +kernel
theorem dX12_meadow_39 : decode cX12_meadow 39 = .ok (.iconst 0, 1) := by decide +kernel
theorem dX12_meadow_40 : decode cX12_meadow 40 = .ok (.putfield 126, 3) := by decide +kernel
theorem dX12_meadow_43 : decode cX12_meadow 43 = .ok (.aload_n 0, 1) := by decide +kernel
theorem dX12_meadow_44 : decode cX12_meadow 44 = .ok (.new 167, 3) := by decide +kernel
theorem dX12_meadow_47 : decode cX12_meadow 47 = .ok (.dup, 1) := by decide +kernel
theorem dX12_meadow_48 : decode cX12_meadow 48 = .ok (.invokespecial 351, 3) := by decide +kernel
theorem dX12_meadow_51 : decode cX12_meadow 51 = .ok (.putfield 162, 3) := by decide +kernel
theorem dX12_meadow_54 : decode cX12_meadow 54 = .ok (.aload_n 0, 1) := by decide +kernel
theorem dX12_meadow_55 : decode cX12_meadow 55 = .ok (.iconst 0, 1) := by decide +kernel
theorem dX12_meadow_56 : decode cX12_meadow 56 = .ok (.putfield 94, 3) := by decide +kernel
theorem dX12_meadow_59 : decode cX12_meadow 59 = .ok (.aload_n 0, 1) := by decide +kernel
theorem dX12_meadow_60 : decode cX12_meadow 60 = .ok (.invokevirtual 140, 3) := by decide +kernel
theorem dX12_meadow_63 : decode cX12_meadow 63 = .ok (.aload_n 0, 1) := by decide +kernel
theorem dX12_meadow_64 : decode cX12_meadow 64 = .ok (.invokevirtual 352, 3) := by decide +kernel
theorem dX12_meadow_67 : decode cX12_meadow 67 = .ok (.aload_n 0, 1) := by decide +kernel
theorem dX12_meadow_68 : decode cX12_meadow 68 = .ok (.getfield 126, 3) := by decide +kernel
theorem dX12_meadow_71 : decode cX12_meadow 71 = .ok (.ifCond .le 18, 3) := by decide +kernel
theorem dX12_meadow_74 : decode cX12_meadow 74 = .ok (.aload_n 0, 1) := by decide +kernel
theorem dX12_meadow_75 : decode cX12_meadow 75 = .ok (.iconst 4, 1) := by decide +kernel
theorem dX12_meadow_76 : decode cX12_meadow 76 = .ok (.putfield 65, 3) := by decide +kernel
theorem dX12_meadow_79 : decode cX12_meadow 79 = .ok (.aload_n 0, 1) := by decide +kernel
theorem dX12_meadow_80 : decode cX12_meadow 80 = .ok (.aload_n 0, 1) := by decide +kernel
theorem dX12_meadow_81 : decode cX12_meadow 81 = .ok (.getfield 129, 3) := by decide +kernel
theorem dX12_meadow_84 : decode cX12_meadow 84 = .ok (.putfield 9, 3) := by decide +kernel
theorem dX12_meadow_87 : decode cX12_meadow 87 = .ok (.iconst (-1), 1) := by decide +kernel
theorem dX12_meadow_88 : decode cX12_meadow 88 = .ok (.ireturn, 1) := by decide +kernel
theorem dX12_meadow_89 : decode cX12_meadow 89 = .ok (.aload_n 0, 1) := by decide +kernel
theorem dX12_meadow_90 : decode cX12_meadow 90 = .ok (.aload_n 0, 1) := by decide +kernel
theorem dX12_meadow_91 : decode cX12_meadow 91 = .ok (.getfield 162, 3) := by decide +kernel
theorem dX12_meadow_94 : decode cX12_meadow 94 = .ok (.putfield 355, 3) := by decide +kernel
theorem dX12_meadow_97 : decode cX12_meadow 97 = .ok (.aload_n 0, 1) := by decide +kernel
theorem dX12_meadow_98 : decode cX12_meadow 98 = .ok (.aload_n 0, 1) := by decide +kernel
theorem dX12_meadow_99 : decode cX12_meadow 99 = .ok (.getfield 355, 3) := by decide +kernel
theorem dX12_meadow_102 : decode cX12_meadow 102 = .ok (.getfield 257, 3) := by decide +kernel
theorem dX12_meadow_105 : decode cX12_meadow 105 = .ok (.putfield 357, 3) := by decide +kernel
theorem dX12_meadow_108 : decode cX12_meadow 108 = .ok (.aload_n 0, 1) := by decide +kernel
theorem dX12_meadow_109 : decode cX12_meadow 109 = .ok (.iconst 0, 1) := by decide +kernel
theorem dX12_meadow_110 : decode cX12_meadow 110 = .ok (.putfield 358, 3) := by decide +kernel
theorem dX12_meadow_113 : decode cX12_meadow 113 = .ok (.aload_n 0, 1) := by decide +kernel
theorem dX12_meadow_114 : decode cX12_meadow 114 = .ok (.iconst 0, 1) := by decide +kernel
theorem dX12_meadow_115 : decode cX12_meadow 115 = .ok (.putfield 361, 3) := by decide +kernel
theorem dX12_meadow_118 : decode cX12_meadow 118 = .ok (.aload_n 0, 1) := by decide +kernel
theorem dX12_meadow_119 : decode cX12_meadow 119 = .ok (.iconst 0, 1) := by decide +kernel
theorem dX12_meadow_120 : decode cX12_meadow 120 = .ok (.putfield 364, 3) := by decide +kernel
theorem dX12_meadow_123 : decode cX12_meadow 123 = .ok (.aload_n 0, 1) := by decide +kernel
theorem dX12_meadow_124 : decode cX12_meadow 124 = .ok (.aload_n 0, 1) := by decide +kernel
theorem dX12_meadow_125 : decode cX12_meadow 125 = .ok (.getfield 357, 3) := by decide +kernel
theorem dX12_meadow_128 : decode cX12_meadow 128 = .ok (.invokestatic 367, 3) := by decide +kernel
theorem dX12_meadow_131 : decode cX12_meadow 131 = .ok (.invokevirtual 72, 3) := by decide +kernel
theorem dX12_meadow_134 : decode cX12_meadow 134 = .ok (.ireturn, 1) := by decide +kernel
theorem dX12_fault_0 : decode cX12_fault 0 = .ok (.aload_n 0, 1) := by decide +kernel
theorem dX12_fault_1 : decode cX12_fault 1 = .ok (.iconst 0, 1) := by decide +kernel
theorem dX12_fault_2 : decode cX12_fault 2 = .ok (.putfield 62, 3) := by decide +kernel
theorem dX12_fault_5 : decode cX12_fault 5 = .ok (.aload_n 0, 1) := by decide +kernel
theorem dX12_fault_6 : decode cX12_fault 6 = .ok (.getfield 126, 3) := by decide +kernel
theorem dX12_fault_9 : decode cX12_fault 9 = .ok (.ireturn, 1) := by decide +kernel
theorem dX12_where_0 : decode cX12_where 0 = .ok (.aload_n 0, 1) := by decide +kernel
theorem dX12_where_1 : decode cX12_where 1 = .ok (.iconst 0, 1) := by decide +kernel
theorem dX12_where_2 : decode cX12_where 2 = .ok (.putfield 62, 3) := by decide +kernel
theorem dX12_where_5 : decode cX12_where 5 = .ok (.aload_n 0, 1) := by decide +kernel
theorem dX12_where_6 : decode cX12_where 6 = .ok (.getfield 9, 3) := by decide +kernel
theorem dX12_where_9 : decode cX12_where 9 = .ok (.ireturn, 1) := by decide +kernel
theorem dX12_besideOf_0 : decode cX12_besideOf 0 = .ok (.lconst 0, 1) := by decide +kernel
theorem dX12_besideOf_1 : decode cX12_besideOf 1 = .ok (.lstore 4, 2) := by decide +kernel
theorem dX12_besideOf_3 : decode cX12_besideOf 3 = .ok (.iconst 0, 1) := by decide +kernel
theorem dX12_besideOf_4 : decode cX12_besideOf 4 = .ok (.istore 6, 2) := by decide +kernel
theorem dX12_besideOf_6 : decode cX12_besideOf 6 = .ok (.iload 6, 2) := by decide +kernel
theorem dX12_besideOf_8 : decode cX12_besideOf 8 = .ok (.iconst 4, 1) := by decide +kernel
theorem dX12_besideOf_9 : decode cX12_besideOf 9 = .ok (.if_icmp .ge 45, 3) := by decide +kernel
theorem dX12_besideOf_12 : decode cX12_besideOf 12 = .ok (.aload_n 0, 1) := by decide +kernel
theorem dX12_besideOf_13 : decode cX12_besideOf 13 = .ok (.getfield 355, 3) := by decide +kernel
theorem dX12_besideOf_16 : decode cX12_besideOf 16 = .ok (.iload_n 3, 1) := by decide +kernel
theorem dX12_besideOf_17 : decode cX12_besideOf 17 = .ok (.iload 6, 2) := by decide +kernel
theorem dX12_besideOf_19 : decode cX12_besideOf 19 = .ok (.invokevirtual 371, 3) := by decide +kernel
theorem dX12_besideOf_22 : decode cX12_besideOf 22 = .ok (.istore 7, 2) := by decide +kernel
theorem dX12_besideOf_24 : decode cX12_besideOf 24 = .ok (.iload 7, 2) := by decide +kernel
theorem dX12_besideOf_26 : decode cX12_besideOf 26 = .ok (.iconst (-1), 1) := by decide +kernel
theorem dX12_besideOf_27 : decode cX12_besideOf 27 = .ok (.if_icmp .eq 21, 3) := by decide +kernel
theorem dX12_besideOf_30 : decode cX12_besideOf 30 = .ok (.lload_n 1, 1) := by decide +kernel
theorem dX12_besideOf_31 : decode cX12_besideOf 31 = .ok (.iload 7, 2) := by decide +kernel
theorem dX12_besideOf_33 : decode cX12_besideOf 33 = .ok (.invokestatic 75, 3) := by decide +kernel
theorem dX12_besideOf_36 : decode cX12_besideOf 36 = .ok (.ifCond .eq 12, 3) := by decide +kernel
theorem dX12_besideOf_39 : decode cX12_besideOf 39 = .ok (.lload 4, 2) := by decide +kernel
theorem dX12_besideOf_41 : decode cX12_besideOf 41 = .ok (.lconst 1, 1) := by decide +kernel
theorem dX12_besideOf_42 : decode cX12_besideOf 42 = .ok (.iload 7, 2) := by decide +kernel
theorem dX12_besideOf_44 : decode cX12_besideOf 44 = .ok (.lshl, 1) := by decide +kernel
theorem dX12_besideOf_45 : decode cX12_besideOf 45 = .ok (.lor, 1) := by decide +kernel
theorem dX12_besideOf_46 : decode cX12_besideOf 46 = .ok (.lstore 4, 2) := by decide +kernel
theorem dX12_besideOf_48 : decode cX12_besideOf 48 = .ok (.iinc 6 1, 3) := by decide +kernel
theorem dX12_besideOf_51 : decode cX12_besideOf 51 = .ok (.goto (-45), 3) := by decide +kernel
theorem dX12_besideOf_54 : decode cX12_besideOf 54 = .ok (.lload 4, 2) := by decide +kernel
theorem dX12_besideOf_56 : decode cX12_besideOf 56 = .ok (.lreturn, 1) := by decide +kernel
theorem dX12_laysFar_0 : decode cX12_laysFar 0 = .ok (.iconst 0, 1) := by decide +kernel
theorem dX12_laysFar_1 : decode cX12_laysFar 1 = .ok (.istore 4, 2) := by decide +kernel
theorem dX12_laysFar_3 : decode cX12_laysFar 3 = .ok (.iload 4, 2) := by decide +kernel
theorem dX12_laysFar_5 : decode cX12_laysFar 5 = .ok (.bipush 48, 2) := by decide +kernel
theorem dX12_laysFar_7 : decode cX12_laysFar 7 = .ok (.if_icmp .ge 18, 3) := by decide +kernel
theorem dX12_laysFar_10 : decode cX12_laysFar 10 = .ok (.aload_n 0, 1) := by decide +kernel
theorem dX12_laysFar_11 : decode cX12_laysFar 11 = .ok (.getfield 21, 3) := by decide +kernel
theorem dX12_laysFar_14 : decode cX12_laysFar 14 = .ok (.iload 4, 2) := by decide +kernel
theorem dX12_laysFar_16 : decode cX12_laysFar 16 = .ok (.bipush (-2), 2) := by decide +kernel
theorem dX12_laysFar_18 : decode cX12_laysFar 18 = .ok (.iastore, 1) := by decide +kernel
theorem dX12_laysFar_19 : decode cX12_laysFar 19 = .ok (.iinc 4 1, 3) := by decide +kernel
theorem dX12_laysFar_22 : decode cX12_laysFar 22 = .ok (.goto (-19), 3) := by decide +kernel
theorem dX12_laysFar_25 : decode cX12_laysFar 25 = .ok (.lload_n 1, 1) := by decide +kernel
theorem dX12_laysFar_26 : decode cX12_laysFar 26 = .ok (.iload_n 3, 1) := by decide +kernel
theorem dX12_laysFar_27 : decode cX12_laysFar 27 = .ok (.invokestatic 75, 3) := by decide +kernel
theorem dX12_laysFar_30 : decode cX12_laysFar 30 = .ok (.ifCond .ne 4, 3) := by decide +kernel
theorem dX12_laysFar_33 : decode cX12_laysFar 33 = .ok (.return_, 1) := by decide +kernel
theorem dX12_laysFar_34 : decode cX12_laysFar 34 = .ok (.aload_n 0, 1) := by decide +kernel
theorem dX12_laysFar_35 : decode cX12_laysFar 35 = .ok (.getfield 21, 3) := by decide +kernel
theorem dX12_laysFar_38 : decode cX12_laysFar 38 = .ok (.iload_n 3, 1) := by decide +kernel
theorem dX12_laysFar_39 : decode cX12_laysFar 39 = .ok (.iconst 0, 1) := by decide +kernel
theorem dX12_laysFar_40 : decode cX12_laysFar 40 = .ok (.iastore, 1) := by decide +kernel
theorem dX12_laysFar_41 : decode cX12_laysFar 41 = .ok (.aload_n 0, 1) := by decide +kernel
theorem dX12_laysFar_42 : decode cX12_laysFar 42 = .ok (.getfield 24, 3) := by decide +kernel
theorem dX12_laysFar_45 : decode cX12_laysFar 45 = .ok (.iconst 0, 1) := by decide +kernel
theorem dX12_laysFar_46 : decode cX12_laysFar 46 = .ok (.iload_n 3, 1) := by decide +kernel
theorem dX12_laysFar_47 : decode cX12_laysFar 47 = .ok (.iastore, 1) := by decide +kernel
theorem dX12_laysFar_48 : decode cX12_laysFar 48 = .ok (.iconst 1, 1) := by decide +kernel
theorem dX12_laysFar_49 : decode cX12_laysFar 49 = .ok (.istore 4, 2) := by decide +kernel
theorem dX12_laysFar_51 : decode cX12_laysFar 51 = .ok (.iconst 0, 1) := by decide +kernel
theorem dX12_laysFar_52 : decode cX12_laysFar 52 = .ok (.istore 5, 2) := by decide +kernel
theorem dX12_laysFar_54 : decode cX12_laysFar 54 = .ok (.iload 5, 2) := by decide +kernel
theorem dX12_laysFar_56 : decode cX12_laysFar 56 = .ok (.iload 4, 2) := by decide +kernel
theorem dX12_laysFar_58 : decode cX12_laysFar 58 = .ok (.if_icmp .ge 105, 3) := by decide +kernel
theorem dX12_laysFar_61 : decode cX12_laysFar 61 = .ok (.iconst 0, 1) := by decide +kernel
theorem dX12_laysFar_62 : decode cX12_laysFar 62 = .ok (.istore 6, 2) := by decide +kernel
theorem dX12_laysFar_64 : decode cX12_laysFar 64 = .ok (.iload 6, 2) := by decide +kernel
theorem dX12_laysFar_66 : decode cX12_laysFar 66 = .ok (.iconst 4, 1) := by decide +kernel
theorem dX12_laysFar_67 : decode cX12_laysFar 67 = .ok (.if_icmp .ge 90, 3) := by decide +kernel
theorem dX12_laysFar_70 : decode cX12_laysFar 70 = .ok (.aload_n 0, 1) := by decide +kernel
theorem dX12_laysFar_71 : decode cX12_laysFar 71 = .ok (.getfield 355, 3) := by decide +kernel
theorem dX12_laysFar_74 : decode cX12_laysFar 74 = .ok (.aload_n 0, 1) := by decide +kernel
theorem dX12_laysFar_75 : decode cX12_laysFar 75 = .ok (.getfield 24, 3) := by decide +kernel
theorem dX12_laysFar_78 : decode cX12_laysFar 78 = .ok (.iload 5, 2) := by decide +kernel
theorem dX12_laysFar_80 : decode cX12_laysFar 80 = .ok (.iaload, 1) := by decide +kernel
theorem dX12_laysFar_81 : decode cX12_laysFar 81 = .ok (.iload 6, 2) := by decide +kernel
theorem dX12_laysFar_83 : decode cX12_laysFar 83 = .ok (.invokevirtual 371, 3) := by decide +kernel
theorem dX12_laysFar_86 : decode cX12_laysFar 86 = .ok (.istore 7, 2) := by decide +kernel
theorem dX12_laysFar_88 : decode cX12_laysFar 88 = .ok (.iload 7, 2) := by decide +kernel
theorem dX12_laysFar_90 : decode cX12_laysFar 90 = .ok (.iconst (-1), 1) := by decide +kernel
theorem dX12_laysFar_91 : decode cX12_laysFar 91 = .ok (.if_icmp .eq 60, 3) := by decide +kernel
theorem dX12_laysFar_94 : decode cX12_laysFar 94 = .ok (.lload_n 1, 1) := by decide +kernel
theorem dX12_laysFar_95 : decode cX12_laysFar 95 = .ok (.iload 7, 2) := by decide +kernel
theorem dX12_laysFar_97 : decode cX12_laysFar 97 = .ok (.invokestatic 75, 3) := by decide +kernel
theorem dX12_laysFar_100 : decode cX12_laysFar 100 = .ok (.ifCond .eq 51, 3) := by decide +kernel
theorem dX12_laysFar_103 : decode cX12_laysFar 103 = .ok (.aload_n 0, 1) := by decide +kernel
theorem dX12_laysFar_104 : decode cX12_laysFar 104 = .ok (.getfield 21, 3) := by decide +kernel
theorem dX12_laysFar_107 : decode cX12_laysFar 107 = .ok (.iload 7, 2) := by decide +kernel
theorem dX12_laysFar_109 : decode cX12_laysFar 109 = .ok (.iaload, 1) := by decide +kernel
theorem dX12_laysFar_110 : decode cX12_laysFar 110 = .ok (.bipush (-2), 2) := by decide +kernel
theorem dX12_laysFar_112 : decode cX12_laysFar 112 = .ok (.if_icmp .eq 6, 3) := by decide +kernel
theorem dX12_laysFar_115 : decode cX12_laysFar 115 = .ok (.goto 36, 3) := by decide +kernel
theorem dX12_laysFar_118 : decode cX12_laysFar 118 = .ok (.aload_n 0, 1) := by decide +kernel
theorem dX12_laysFar_119 : decode cX12_laysFar 119 = .ok (.getfield 21, 3) := by decide +kernel
theorem dX12_laysFar_122 : decode cX12_laysFar 122 = .ok (.iload 7, 2) := by decide +kernel
theorem dX12_laysFar_124 : decode cX12_laysFar 124 = .ok (.aload_n 0, 1) := by decide +kernel
theorem dX12_laysFar_125 : decode cX12_laysFar 125 = .ok (.getfield 21, 3) := by decide +kernel
theorem dX12_laysFar_128 : decode cX12_laysFar 128 = .ok (.aload_n 0, 1) := by decide +kernel
theorem dX12_laysFar_129 : decode cX12_laysFar 129 = .ok (.getfield 24, 3) := by decide +kernel
theorem dX12_laysFar_132 : decode cX12_laysFar 132 = .ok (.iload 5, 2) := by decide +kernel
theorem dX12_laysFar_134 : decode cX12_laysFar 134 = .ok (.iaload, 1) := by decide +kernel
theorem dX12_laysFar_135 : decode cX12_laysFar 135 = .ok (.iaload, 1) := by decide +kernel
theorem dX12_laysFar_136 : decode cX12_laysFar 136 = .ok (.iconst 1, 1) := by decide +kernel
theorem dX12_laysFar_137 : decode cX12_laysFar 137 = .ok (.iadd, 1) := by decide +kernel
theorem dX12_laysFar_138 : decode cX12_laysFar 138 = .ok (.iastore, 1) := by decide +kernel
theorem dX12_laysFar_139 : decode cX12_laysFar 139 = .ok (.aload_n 0, 1) := by decide +kernel
theorem dX12_laysFar_140 : decode cX12_laysFar 140 = .ok (.getfield 24, 3) := by decide +kernel
theorem dX12_laysFar_143 : decode cX12_laysFar 143 = .ok (.iload 4, 2) := by decide +kernel
theorem dX12_laysFar_145 : decode cX12_laysFar 145 = .ok (.iload 7, 2) := by decide +kernel
theorem dX12_laysFar_147 : decode cX12_laysFar 147 = .ok (.iastore, 1) := by decide +kernel
theorem dX12_laysFar_148 : decode cX12_laysFar 148 = .ok (.iinc 4 1, 3) := by decide +kernel
theorem dX12_laysFar_151 : decode cX12_laysFar 151 = .ok (.iinc 6 1, 3) := by decide +kernel
theorem dX12_laysFar_154 : decode cX12_laysFar 154 = .ok (.goto (-90), 3) := by decide +kernel
theorem dX12_laysFar_157 : decode cX12_laysFar 157 = .ok (.iinc 5 1, 3) := by decide +kernel
theorem dX12_laysFar_160 : decode cX12_laysFar 160 = .ok (.goto (-106), 3) := by decide +kernel
theorem dX12_laysFar_163 : decode cX12_laysFar 163 = .ok (.return_, 1) := by decide +kernel
theorem dX12_partsOf_0 : decode cX12_partsOf 0 = .ok (.lload_n 1, 1) := by decide +kernel
theorem dX12_partsOf_1 : decode cX12_partsOf 1 = .ok (.lstore_n 3, 1) := by decide +kernel
theorem dX12_partsOf_2 : decode cX12_partsOf 2 = .ok (.iconst 0, 1) := by decide +kernel
theorem dX12_partsOf_3 : decode cX12_partsOf 3 = .ok (.istore 5, 2) := by decide +kernel
theorem dX12_partsOf_5 : decode cX12_partsOf 5 = .ok (.lload_n 3, 1) := by decide +kernel
theorem dX12_partsOf_6 : decode cX12_partsOf 6 = .ok (.lconst 0, 1) := by decide +kernel
theorem dX12_partsOf_7 : decode cX12_partsOf 7 = .ok (.lcmp, 1) := by decide +kernel
theorem dX12_partsOf_8 : decode cX12_partsOf 8 = .ok (.ifCond .eq 62, 3) := by decide +kernel
theorem dX12_partsOf_11 : decode cX12_partsOf 11 = .ok (.aload_n 0, 1) := by decide +kernel
theorem dX12_partsOf_12 : decode cX12_partsOf 12 = .ok (.lload_n 3, 1) := by decide +kernel
theorem dX12_partsOf_13 : decode cX12_partsOf 13 = .ok (.lload_n 3, 1) := by decide +kernel
theorem dX12_partsOf_14 : decode cX12_partsOf 14 = .ok (.invokestatic 374, 3) := by decide +kernel
theorem dX12_partsOf_17 : decode cX12_partsOf 17 = .ok (.invokevirtual 377, 3) := by decide +kernel
theorem dX12_partsOf_20 : decode cX12_partsOf 20 = .ok (.iconst 0, 1) := by decide +kernel
theorem dX12_partsOf_21 : decode cX12_partsOf 21 = .ok (.istore 6, 2) := by decide +kernel
theorem dX12_partsOf_23 : decode cX12_partsOf 23 = .ok (.iload 6, 2) := by decide +kernel
theorem dX12_partsOf_25 : decode cX12_partsOf 25 = .ok (.aload_n 0, 1) := by decide +kernel
theorem dX12_partsOf_26 : decode cX12_partsOf 26 = .ok (.getfield 355, 3) := by decide +kernel
theorem dX12_partsOf_29 : decode cX12_partsOf 29 = .ok (.invokevirtual 381, 3) := by decide +kernel
theorem dX12_partsOf_32 : decode cX12_partsOf 32 = .ok (.if_icmp .ge 32, 3) := by decide +kernel
theorem dX12_partsOf_35 : decode cX12_partsOf 35 = .ok (.aload_n 0, 1) := by decide +kernel
theorem dX12_partsOf_36 : decode cX12_partsOf 36 = .ok (.getfield 21, 3) := by decide +kernel
theorem dX12_partsOf_39 : decode cX12_partsOf 39 = .ok (.iload 6, 2) := by decide +kernel
theorem dX12_partsOf_41 : decode cX12_partsOf 41 = .ok (.iaload, 1) := by decide +kernel
theorem dX12_partsOf_42 : decode cX12_partsOf 42 = .ok (.bipush (-2), 2) := by decide +kernel
theorem dX12_partsOf_44 : decode cX12_partsOf 44 = .ok (.if_icmp .eq 14, 3) := by decide +kernel
theorem dX12_partsOf_47 : decode cX12_partsOf 47 = .ok (.lload_n 3, 1) := by decide +kernel
theorem dX12_partsOf_48 : decode cX12_partsOf 48 = .ok (.lconst 1, 1) := by decide +kernel
theorem dX12_partsOf_49 : decode cX12_partsOf 49 = .ok (.iload 6, 2) := by decide +kernel
theorem dX12_partsOf_51 : decode cX12_partsOf 51 = .ok (.lshl, 1) := by decide +kernel
theorem dX12_partsOf_52 : decode cX12_partsOf 52 = .ok (.ldc2_w 384, 3) := by decide +kernel
theorem dX12_partsOf_55 : decode cX12_partsOf 55 = .ok (.lxor, 1) := by decide +kernel
theorem dX12_partsOf_56 : decode cX12_partsOf 56 = .ok (.land, 1) := by decide +kernel
theorem dX12_partsOf_57 : decode cX12_partsOf 57 = .ok (.lstore_n 3, 1) := by decide +kernel
theorem dX12_partsOf_58 : decode cX12_partsOf 58 = .ok (.iinc 6 1, 3) := by decide +kernel
theorem dX12_partsOf_61 : decode cX12_partsOf 61 = .ok (.goto (-38), 3) := by decide +kernel
theorem dX12_partsOf_64 : decode cX12_partsOf 64 = .ok (.iinc 5 1, 3) := by decide +kernel
theorem dX12_partsOf_67 : decode cX12_partsOf 67 = .ok (.goto (-62), 3) := by decide +kernel
theorem dX12_partsOf_70 : decode cX12_partsOf 70 = .ok (.iload 5, 2) := by decide +kernel
theorem dX12_partsOf_72 : decode cX12_partsOf 72 = .ok (.ireturn, 1) := by decide +kernel
theorem dX12_splitsAt_0 : decode cX12_splitsAt 0 = .ok (.aload_n 0, 1) := by decide +kernel
theorem dX12_splitsAt_1 : decode cX12_splitsAt 1 = .ok (.getfield 357, 3) := by decide +kernel
theorem dX12_splitsAt_4 : decode cX12_splitsAt 4 = .ok (.iload_n 1, 1) := by decide +kernel
theorem dX12_splitsAt_5 : decode cX12_splitsAt 5 = .ok (.invokestatic 75, 3) := by decide +kernel
theorem dX12_splitsAt_8 : decode cX12_splitsAt 8 = .ok (.ifCond .eq 34, 3) := by decide +kernel
theorem dX12_splitsAt_11 : decode cX12_splitsAt 11 = .ok (.aload_n 0, 1) := by decide +kernel
theorem dX12_splitsAt_12 : decode cX12_splitsAt 12 = .ok (.aload_n 0, 1) := by decide +kernel
theorem dX12_splitsAt_13 : decode cX12_splitsAt 13 = .ok (.getfield 357, 3) := by decide +kernel
theorem dX12_splitsAt_16 : decode cX12_splitsAt 16 = .ok (.lconst 1, 1) := by decide +kernel
theorem dX12_splitsAt_17 : decode cX12_splitsAt 17 = .ok (.iload_n 1, 1) := by decide +kernel
theorem dX12_splitsAt_18 : decode cX12_splitsAt 18 = .ok (.lshl, 1) := by decide +kernel
theorem dX12_splitsAt_19 : decode cX12_splitsAt 19 = .ok (.ldc2_w 384, 3) := by decide +kernel
theorem dX12_splitsAt_22 : decode cX12_splitsAt 22 = .ok (.lxor, 1) := by decide +kernel
theorem dX12_splitsAt_23 : decode cX12_splitsAt 23 = .ok (.land, 1) := by decide +kernel
theorem dX12_splitsAt_24 : decode cX12_splitsAt 24 = .ok (.invokevirtual 386, 3) := by decide +kernel
theorem dX12_splitsAt_27 : decode cX12_splitsAt 27 = .ok (.aload_n 0, 1) := by decide +kernel
theorem dX12_splitsAt_28 : decode cX12_splitsAt 28 = .ok (.aload_n 0, 1) := by decide +kernel
theorem dX12_splitsAt_29 : decode cX12_splitsAt 29 = .ok (.getfield 357, 3) := by decide +kernel
theorem dX12_splitsAt_32 : decode cX12_splitsAt 32 = .ok (.invokevirtual 386, 3) := by decide +kernel
theorem dX12_splitsAt_35 : decode cX12_splitsAt 35 = .ok (.if_icmp .le 7, 3) := by decide +kernel
theorem dX12_splitsAt_38 : decode cX12_splitsAt 38 = .ok (.iconst 1, 1) := by decide +kernel
theorem dX12_splitsAt_39 : decode cX12_splitsAt 39 = .ok (.goto 4, 3) := by decide +kernel
theorem dX12_splitsAt_42 : decode cX12_splitsAt 42 = .ok (.iconst 0, 1) := by decide +kernel
theorem dX12_splitsAt_43 : decode cX12_splitsAt 43 = .ok (.ireturn, 1) := by decide +kernel
theorem dX12_isCell_0 : decode cX12_isCell 0 = .ok (.aload_n 0, 1) := by decide +kernel
theorem dX12_isCell_1 : decode cX12_isCell 1 = .ok (.getfield 355, 3) := by decide +kernel
theorem dX12_isCell_4 : decode cX12_isCell 4 = .ok (.ifnull 41, 3) := by decide +kernel
theorem dX12_isCell_7 : decode cX12_isCell 7 = .ok (.iload_n 1, 1) := by decide +kernel
theorem dX12_isCell_8 : decode cX12_isCell 8 = .ok (.iconst 0, 1) := by decide +kernel
theorem dX12_isCell_9 : decode cX12_isCell 9 = .ok (.aload_n 0, 1) := by decide +kernel
theorem dX12_isCell_10 : decode cX12_isCell 10 = .ok (.getfield 355, 3) := by decide +kernel
theorem dX12_isCell_13 : decode cX12_isCell 13 = .ok (.getfield 166, 3) := by decide +kernel
theorem dX12_isCell_16 : decode cX12_isCell 16 = .ok (.iconst 1, 1) := by decide +kernel
theorem dX12_isCell_17 : decode cX12_isCell 17 = .ok (.isub, 1) := by decide +kernel
theorem dX12_isCell_18 : decode cX12_isCell 18 = .ok (.invokestatic 147, 3) := by decide +kernel
theorem dX12_isCell_21 : decode cX12_isCell 21 = .ok (.ifCond .eq 24, 3) := by decide +kernel
theorem dX12_isCell_24 : decode cX12_isCell 24 = .ok (.iload_n 2, 1) := by decide +kernel
theorem dX12_isCell_25 : decode cX12_isCell 25 = .ok (.iconst 0, 1) := by decide +kernel
theorem dX12_isCell_26 : decode cX12_isCell 26 = .ok (.aload_n 0, 1) := by decide +kernel
theorem dX12_isCell_27 : decode cX12_isCell 27 = .ok (.getfield 355, 3) := by decide +kernel
theorem dX12_isCell_30 : decode cX12_isCell 30 = .ok (.getfield 174, 3) := by decide +kernel
theorem dX12_isCell_33 : decode cX12_isCell 33 = .ok (.iconst 1, 1) := by decide +kernel
theorem dX12_isCell_34 : decode cX12_isCell 34 = .ok (.isub, 1) := by decide +kernel
theorem dX12_isCell_35 : decode cX12_isCell 35 = .ok (.invokestatic 147, 3) := by decide +kernel
theorem dX12_isCell_38 : decode cX12_isCell 38 = .ok (.ifCond .eq 7, 3) := by decide +kernel
theorem dX12_isCell_41 : decode cX12_isCell 41 = .ok (.iconst 1, 1) := by decide +kernel
theorem dX12_isCell_42 : decode cX12_isCell 42 = .ok (.goto 4, 3) := by decide +kernel
theorem dX12_isCell_45 : decode cX12_isCell 45 = .ok (.iconst 0, 1) := by decide +kernel
theorem dX12_isCell_46 : decode cX12_isCell 46 = .ok (.ireturn, 1) := by decide +kernel
theorem dX12_cellOf_0 : decode cX12_cellOf 0 = .ok (.aload_n 0, 1) := by decide +kernel
theorem dX12_cellOf_1 : decode cX12_cellOf 1 = .ok (.getfield 355, 3) := by decide +kernel
theorem dX12_cellOf_4 : decode cX12_cellOf 4 = .ok (.getfield 166, 3) := by decide +kernel
theorem dX12_cellOf_7 : decode cX12_cellOf 7 = .ok (.iload_n 2, 1) := by decide +kernel
theorem dX12_cellOf_8 : decode cX12_cellOf 8 = .ok (.imul, 1) := by decide +kernel
theorem dX12_cellOf_9 : decode cX12_cellOf 9 = .ok (.iload_n 1, 1) := by decide +kernel
theorem dX12_cellOf_10 : decode cX12_cellOf 10 = .ok (.iadd, 1) := by decide +kernel
theorem dX12_cellOf_11 : decode cX12_cellOf 11 = .ok (.ireturn, 1) := by decide +kernel
theorem dX12_isNumber_0 : decode cX12_isNumber 0 = .ok (.aload_n 0, 1) := by decide +kernel
theorem dX12_isNumber_1 : decode cX12_isNumber 1 = .ok (.getfield 355, 3) := by decide +kernel
theorem dX12_isNumber_4 : decode cX12_isNumber 4 = .ok (.ifnull 22, 3) := by decide +kernel
theorem dX12_isNumber_7 : decode cX12_isNumber 7 = .ok (.iload_n 1, 1) := by decide +kernel
theorem dX12_isNumber_8 : decode cX12_isNumber 8 = .ok (.ifCond .lt 18, 3) := by decide +kernel
theorem dX12_isNumber_11 : decode cX12_isNumber 11 = .ok (.iload_n 1, 1) := by decide +kernel
theorem dX12_isNumber_12 : decode cX12_isNumber 12 = .ok (.aload_n 0, 1) := by decide +kernel
theorem dX12_isNumber_13 : decode cX12_isNumber 13 = .ok (.getfield 355, 3) := by decide +kernel
theorem dX12_isNumber_16 : decode cX12_isNumber 16 = .ok (.invokevirtual 381, 3) := by decide +kernel
theorem dX12_isNumber_19 : decode cX12_isNumber 19 = .ok (.if_icmp .ge 7, 3) := by decide +kernel
theorem dX12_isNumber_22 : decode cX12_isNumber 22 = .ok (.iconst 1, 1) := by decide +kernel
theorem dX12_isNumber_23 : decode cX12_isNumber 23 = .ok (.goto 4, 3) := by decide +kernel
theorem dX12_isNumber_26 : decode cX12_isNumber 26 = .ok (.iconst 0, 1) := by decide +kernel
theorem dX12_isNumber_27 : decode cX12_isNumber 27 = .ok (.ireturn, 1) := by decide +kernel
theorem dX12_isWalker_0 : decode cX12_isWalker 0 = .ok (.aload_n 0, 1) := by decide +kernel
theorem dX12_isWalker_1 : decode cX12_isWalker 1 = .ok (.getfield 355, 3) := by decide +kernel
theorem dX12_isWalker_4 : decode cX12_isWalker 4 = .ok (.ifnull 22, 3) := by decide +kernel
theorem dX12_isWalker_7 : decode cX12_isWalker 7 = .ok (.iload_n 1, 1) := by decide +kernel
theorem dX12_isWalker_8 : decode cX12_isWalker 8 = .ok (.ifCond .lt 18, 3) := by decide +kernel
theorem dX12_isWalker_11 : decode cX12_isWalker 11 = .ok (.iload_n 1, 1) := by decide +kernel
theorem dX12_isWalker_12 : decode cX12_isWalker 12 = .ok (.aload_n 0, 1) := by decide +kernel
theorem dX12_isWalker_13 : decode cX12_isWalker 13 = .ok (.getfield 355, 3) := by decide +kernel
theorem dX12_isWalker_16 : decode cX12_isWalker 16 = .ok (.getfield 301, 3) := by decide +kernel
theorem dX12_isWalker_19 : decode cX12_isWalker 19 = .ok (.if_icmp .ge 7, 3) := by decide +kernel
theorem dX12_isWalker_22 : decode cX12_isWalker 22 = .ok (.iconst 1, 1) := by decide +kernel
theorem dX12_isWalker_23 : decode cX12_isWalker 23 = .ok (.goto 4, 3) := by decide +kernel
theorem dX12_isWalker_26 : decode cX12_isWalker 26 = .ok (.iconst 0, 1) := by decide +kernel
theorem dX12_isWalker_27 : decode cX12_isWalker 27 = .ok (.ireturn, 1) := by decide +kernel
theorem dX12_mown_0 : decode cX12_mown 0 = .ok (.aload_n 0, 1) := by decide +kernel
theorem dX12_mown_1 : decode cX12_mown 1 = .ok (.iconst 0, 1) := by decide +kernel
theorem dX12_mown_2 : decode cX12_mown 2 = .ok (.putfield 62, 3) := by decide +kernel
theorem dX12_mown_5 : decode cX12_mown 5 = .ok (.aload_n 0, 1) := by decide +kernel
theorem dX12_mown_6 : decode cX12_mown 6 = .ok (.iload_n 1, 1) := by decide +kernel
theorem dX12_mown_7 : decode cX12_mown 7 = .ok (.iload_n 2, 1) := by decide +kernel
theorem dX12_mown_8 : decode cX12_mown 8 = .ok (.invokevirtual 389, 3) := by decide +kernel
theorem dX12_mown_11 : decode cX12_mown 11 = .ok (.ifCond .eq 31, 3) := by decide +kernel
theorem dX12_mown_14 : decode cX12_mown 14 = .ok (.aload_n 0, 1) := by decide +kernel
theorem dX12_mown_15 : decode cX12_mown 15 = .ok (.aload_n 0, 1) := by decide +kernel
theorem dX12_mown_16 : decode cX12_mown 16 = .ok (.getfield 357, 3) := by decide +kernel
theorem dX12_mown_19 : decode cX12_mown 19 = .ok (.aload_n 0, 1) := by decide +kernel
theorem dX12_mown_20 : decode cX12_mown 20 = .ok (.iload_n 1, 1) := by decide +kernel
theorem dX12_mown_21 : decode cX12_mown 21 = .ok (.iload_n 2, 1) := by decide +kernel
theorem dX12_mown_22 : decode cX12_mown 22 = .ok (.invokevirtual 393, 3) := by decide +kernel
theorem dX12_mown_25 : decode cX12_mown 25 = .ok (.invokestatic 75, 3) := by decide +kernel
theorem dX12_mown_28 : decode cX12_mown 28 = .ok (.ifCond .eq 7, 3) := by decide +kernel
theorem dX12_mown_31 : decode cX12_mown 31 = .ok (.iconst 1, 1) := by decide +kernel
theorem dX12_mown_32 : decode cX12_mown 32 = .ok (.goto 4, 3) := by decide +kernel
theorem dX12_mown_35 : decode cX12_mown 35 = .ok (.iconst 0, 1) := by decide +kernel
theorem dX12_mown_36 : decode cX12_mown 36 = .ok (.invokevirtual 72, 3) := by decide +kernel
theorem dX12_mown_39 : decode cX12_mown 39 = .ok (.goto 8, 3) := by decide +kernel
theorem dX12_mown_42 : decode cX12_mown 42 = .ok (.aload_n 0, 1) := by decide +kernel
theorem dX12_mown_43 : decode cX12_mown 43 = .ok (.iconst 1, 1) := by decide +kernel
theorem dX12_mown_44 : decode cX12_mown 44 = .ok (.invokevirtual 68, 3) := by decide +kernel
theorem dX12_mown_47 : decode cX12_mown 47 = .ok (.ireturn, 1) := by decide +kernel
theorem dX12_beside_0 : decode cX12_beside 0 = .ok (.aload_n 0, 1) := by decide +kernel
theorem dX12_beside_1 : decode cX12_beside 1 = .ok (.iconst 0, 1) := by decide +kernel
theorem dX12_beside_2 : decode cX12_beside 2 = .ok (.putfield 62, 3) := by decide +kernel
theorem dX12_beside_5 : decode cX12_beside 5 = .ok (.aload_n 0, 1) := by decide +kernel
theorem dX12_beside_6 : decode cX12_beside 6 = .ok (.iload_n 1, 1) := by decide +kernel
theorem dX12_beside_7 : decode cX12_beside 7 = .ok (.iload_n 2, 1) := by decide +kernel
theorem dX12_beside_8 : decode cX12_beside 8 = .ok (.invokevirtual 389, 3) := by decide +kernel
theorem dX12_beside_11 : decode cX12_beside 11 = .ok (.ifCond .eq 27, 3) := by decide +kernel
theorem dX12_beside_14 : decode cX12_beside 14 = .ok (.aload_n 0, 1) := by decide +kernel
theorem dX12_beside_15 : decode cX12_beside 15 = .ok (.aload_n 0, 1) := by decide +kernel
theorem dX12_beside_16 : decode cX12_beside 16 = .ok (.aload_n 0, 1) := by decide +kernel
theorem dX12_beside_17 : decode cX12_beside 17 = .ok (.getfield 357, 3) := by decide +kernel
theorem dX12_beside_20 : decode cX12_beside 20 = .ok (.aload_n 0, 1) := by decide +kernel
theorem dX12_beside_21 : decode cX12_beside 21 = .ok (.iload_n 1, 1) := by decide +kernel
theorem dX12_beside_22 : decode cX12_beside 22 = .ok (.iload_n 2, 1) := by decide +kernel
theorem dX12_beside_23 : decode cX12_beside 23 = .ok (.invokevirtual 393, 3) := by decide +kernel
theorem dX12_beside_26 : decode cX12_beside 26 = .ok (.invokevirtual 396, 3) := by decide +kernel
theorem dX12_beside_29 : decode cX12_beside 29 = .ok (.invokestatic 367, 3) := by decide +kernel
theorem dX12_beside_32 : decode cX12_beside 32 = .ok (.invokevirtual 72, 3) := by decide +kernel
theorem dX12_beside_35 : decode cX12_beside 35 = .ok (.goto 8, 3) := by decide +kernel
theorem dX12_beside_38 : decode cX12_beside 38 = .ok (.aload_n 0, 1) := by decide +kernel
theorem dX12_beside_39 : decode cX12_beside 39 = .ok (.iconst 1, 1) := by decide +kernel
theorem dX12_beside_40 : decode cX12_beside 40 = .ok (.invokevirtual 68, 3) := by decide +kernel
theorem dX12_beside_43 : decode cX12_beside 43 = .ok (.ireturn, 1) := by decide +kernel
theorem dX12_parts_0 : decode cX12_parts 0 = .ok (.aload_n 0, 1) := by decide +kernel
theorem dX12_parts_1 : decode cX12_parts 1 = .ok (.iconst 0, 1) := by decide +kernel
theorem dX12_parts_2 : decode cX12_parts 2 = .ok (.putfield 62, 3) := by decide +kernel
theorem dX12_parts_5 : decode cX12_parts 5 = .ok (.aload_n 0, 1) := by decide +kernel
theorem dX12_parts_6 : decode cX12_parts 6 = .ok (.getfield 355, 3) := by decide +kernel
theorem dX12_parts_9 : decode cX12_parts 9 = .ok (.ifnonnull 11, 3) := by decide +kernel
theorem dX12_parts_12 : decode cX12_parts 12 = .ok (.aload_n 0, 1) := by decide +kernel
theorem dX12_parts_13 : decode cX12_parts 13 = .ok (.iconst 1, 1) := by decide +kernel
theorem dX12_parts_14 : decode cX12_parts 14 = .ok (.invokevirtual 68, 3) := by decide +kernel
theorem dX12_parts_17 : decode cX12_parts 17 = .ok (.goto 15, 3) := by decide +kernel
theorem dX12_parts_20 : decode cX12_parts 20 = .ok (.aload_n 0, 1) := by decide +kernel
theorem dX12_parts_21 : decode cX12_parts 21 = .ok (.aload_n 0, 1) := by decide +kernel
theorem dX12_parts_22 : decode cX12_parts 22 = .ok (.aload_n 0, 1) := by decide +kernel
theorem dX12_parts_23 : decode cX12_parts 23 = .ok (.getfield 357, 3) := by decide +kernel
theorem dX12_parts_26 : decode cX12_parts 26 = .ok (.invokevirtual 386, 3) := by decide +kernel
theorem dX12_parts_29 : decode cX12_parts 29 = .ok (.invokevirtual 72, 3) := by decide +kernel
theorem dX12_parts_32 : decode cX12_parts 32 = .ok (.ireturn, 1) := by decide +kernel
theorem dX12_rings_0 : decode cX12_rings 0 = .ok (.aload_n 0, 1) := by decide +kernel
theorem dX12_rings_1 : decode cX12_rings 1 = .ok (.iconst 0, 1) := by decide +kernel
theorem dX12_rings_2 : decode cX12_rings 2 = .ok (.putfield 62, 3) := by decide +kernel
theorem dX12_rings_5 : decode cX12_rings 5 = .ok (.aload_n 0, 1) := by decide +kernel
theorem dX12_rings_6 : decode cX12_rings 6 = .ok (.getfield 355, 3) := by decide +kernel
theorem dX12_rings_9 : decode cX12_rings 9 = .ok (.ifnonnull 9, 3) := by decide +kernel
theorem dX12_rings_12 : decode cX12_rings 12 = .ok (.aload_n 0, 1) := by decide +kernel
theorem dX12_rings_13 : decode cX12_rings 13 = .ok (.iconst 1, 1) := by decide +kernel
theorem dX12_rings_14 : decode cX12_rings 14 = .ok (.invokevirtual 68, 3) := by decide +kernel
theorem dX12_rings_17 : decode cX12_rings 17 = .ok (.ireturn, 1) := by decide +kernel
theorem dX12_rings_18 : decode cX12_rings 18 = .ok (.iconst 0, 1) := by decide +kernel
theorem dX12_rings_19 : decode cX12_rings 19 = .ok (.istore_n 1, 1) := by decide +kernel
theorem dX12_rings_20 : decode cX12_rings 20 = .ok (.iconst 0, 1) := by decide +kernel
theorem dX12_rings_21 : decode cX12_rings 21 = .ok (.istore_n 2, 1) := by decide +kernel
theorem dX12_rings_22 : decode cX12_rings 22 = .ok (.iload_n 2, 1) := by decide +kernel
theorem dX12_rings_23 : decode cX12_rings 23 = .ok (.aload_n 0, 1) := by decide +kernel
theorem dX12_rings_24 : decode cX12_rings 24 = .ok (.getfield 355, 3) := by decide +kernel
theorem dX12_rings_27 : decode cX12_rings 27 = .ok (.invokevirtual 381, 3) := by decide +kernel
theorem dX12_rings_30 : decode cX12_rings 30 = .ok (.if_icmp .ge 39, 3) := by decide +kernel
theorem dX12_rings_33 : decode cX12_rings 33 = .ok (.iload_n 1, 1) := by decide +kernel
theorem dX12_rings_34 : decode cX12_rings 34 = .ok (.aload_n 0, 1) := by decide +kernel
theorem dX12_rings_35 : decode cX12_rings 35 = .ok (.getfield 357, 3) := by decide +kernel
theorem dX12_rings_38 : decode cX12_rings 38 = .ok (.iload_n 2, 1) := by decide +kernel
theorem dX12_rings_39 : decode cX12_rings 39 = .ok (.invokestatic 75, 3) := by decide +kernel
theorem dX12_rings_42 : decode cX12_rings 42 = .ok (.ifCond .eq 18, 3) := by decide +kernel
theorem dX12_rings_45 : decode cX12_rings 45 = .ok (.aload_n 0, 1) := by decide +kernel
theorem dX12_rings_46 : decode cX12_rings 46 = .ok (.aload_n 0, 1) := by decide +kernel
theorem dX12_rings_47 : decode cX12_rings 47 = .ok (.getfield 357, 3) := by decide +kernel
theorem dX12_rings_50 : decode cX12_rings 50 = .ok (.iload_n 2, 1) := by decide +kernel
theorem dX12_rings_51 : decode cX12_rings 51 = .ok (.invokevirtual 396, 3) := by decide +kernel
theorem dX12_rings_54 : decode cX12_rings 54 = .ok (.invokestatic 367, 3) := by decide +kernel
theorem dX12_rings_57 : decode cX12_rings 57 = .ok (.goto 4, 3) := by decide +kernel
theorem dX12_rings_60 : decode cX12_rings 60 = .ok (.iconst 0, 1) := by decide +kernel
theorem dX12_rings_61 : decode cX12_rings 61 = .ok (.iadd, 1) := by decide +kernel
theorem dX12_rings_62 : decode cX12_rings 62 = .ok (.istore_n 1, 1) := by decide +kernel
theorem dX12_rings_63 : decode cX12_rings 63 = .ok (.iinc 2 1, 3) := by decide +kernel
theorem dX12_rings_66 : decode cX12_rings 66 = .ok (.goto (-44), 3) := by decide +kernel
theorem dX12_rings_69 : decode cX12_rings 69 = .ok (.aload_n 0, 1) := by decide +kernel
theorem dX12_rings_70 : decode cX12_rings 70 = .ok (.iload_n 1, 1) := by decide +kernel
theorem dX12_rings_71 : decode cX12_rings 71 = .ok (.iconst 2, 1) := by decide +kernel
theorem dX12_rings_72 : decode cX12_rings 72 = .ok (.idiv, 1) := by decide +kernel
theorem dX12_rings_73 : decode cX12_rings 73 = .ok (.aload_n 0, 1) := by decide +kernel
theorem dX12_rings_74 : decode cX12_rings 74 = .ok (.getfield 357, 3) := by decide +kernel
theorem dX12_rings_77 : decode cX12_rings 77 = .ok (.invokestatic 367, 3) := by decide +kernel
theorem dX12_rings_80 : decode cX12_rings 80 = .ok (.isub, 1) := by decide +kernel
theorem dX12_rings_81 : decode cX12_rings 81 = .ok (.aload_n 0, 1) := by decide +kernel
theorem dX12_rings_82 : decode cX12_rings 82 = .ok (.aload_n 0, 1) := by decide +kernel
theorem dX12_rings_83 : decode cX12_rings 83 = .ok (.getfield 357, 3) := by decide +kernel
theorem dX12_rings_86 : decode cX12_rings 86 = .ok (.invokevirtual 386, 3) := by decide +kernel
theorem dX12_rings_89 : decode cX12_rings 89 = .ok (.iadd, 1) := by decide +kernel
theorem dX12_rings_90 : decode cX12_rings 90 = .ok (.invokevirtual 72, 3) := by decide +kernel
theorem dX12_rings_93 : decode cX12_rings 93 = .ok (.ireturn, 1) := by decide +kernel
theorem dX12_ends_0 : decode cX12_ends 0 = .ok (.aload_n 0, 1) := by decide +kernel
theorem dX12_ends_1 : decode cX12_ends 1 = .ok (.iconst 0, 1) := by decide +kernel
theorem dX12_ends_2 : decode cX12_ends 2 = .ok (.putfield 62, 3) := by decide +kernel
theorem dX12_ends_5 : decode cX12_ends 5 = .ok (.aload_n 0, 1) := by decide +kernel
theorem dX12_ends_6 : decode cX12_ends 6 = .ok (.getfield 355, 3) := by decide +kernel
theorem dX12_ends_9 : decode cX12_ends 9 = .ok (.ifnonnull 9, 3) := by decide +kernel
theorem dX12_ends_12 : decode cX12_ends 12 = .ok (.aload_n 0, 1) := by decide +kernel
theorem dX12_ends_13 : decode cX12_ends 13 = .ok (.iconst 1, 1) := by decide +kernel
theorem dX12_ends_14 : decode cX12_ends 14 = .ok (.invokevirtual 68, 3) := by decide +kernel
theorem dX12_ends_17 : decode cX12_ends 17 = .ok (.ireturn, 1) := by decide +kernel
theorem dX12_ends_18 : decode cX12_ends 18 = .ok (.iconst 0, 1) := by decide +kernel
theorem dX12_ends_19 : decode cX12_ends 19 = .ok (.istore_n 1, 1) := by decide +kernel
theorem dX12_ends_20 : decode cX12_ends 20 = .ok (.iconst 0, 1) := by decide +kernel
theorem dX12_ends_21 : decode cX12_ends 21 = .ok (.istore_n 2, 1) := by decide +kernel
theorem dX12_ends_22 : decode cX12_ends 22 = .ok (.iload_n 2, 1) := by decide +kernel
theorem dX12_ends_23 : decode cX12_ends 23 = .ok (.aload_n 0, 1) := by decide +kernel
theorem dX12_ends_24 : decode cX12_ends 24 = .ok (.getfield 355, 3) := by decide +kernel
theorem dX12_ends_27 : decode cX12_ends 27 = .ok (.invokevirtual 381, 3) := by decide +kernel
theorem dX12_ends_30 : decode cX12_ends 30 = .ok (.if_icmp .ge 44, 3) := by decide +kernel
theorem dX12_ends_33 : decode cX12_ends 33 = .ok (.iload_n 1, 1) := by decide +kernel
theorem dX12_ends_34 : decode cX12_ends 34 = .ok (.aload_n 0, 1) := by decide +kernel
theorem dX12_ends_35 : decode cX12_ends 35 = .ok (.getfield 357, 3) := by decide +kernel
theorem dX12_ends_38 : decode cX12_ends 38 = .ok (.iload_n 2, 1) := by decide +kernel
theorem dX12_ends_39 : decode cX12_ends 39 = .ok (.invokestatic 75, 3) := by decide +kernel
theorem dX12_ends_42 : decode cX12_ends 42 = .ok (.ifCond .eq 23, 3) := by decide +kernel
theorem dX12_ends_45 : decode cX12_ends 45 = .ok (.aload_n 0, 1) := by decide +kernel
theorem dX12_ends_46 : decode cX12_ends 46 = .ok (.aload_n 0, 1) := by decide +kernel
theorem dX12_ends_47 : decode cX12_ends 47 = .ok (.getfield 357, 3) := by decide +kernel
theorem dX12_ends_50 : decode cX12_ends 50 = .ok (.iload_n 2, 1) := by decide +kernel
theorem dX12_ends_51 : decode cX12_ends 51 = .ok (.invokevirtual 396, 3) := by decide +kernel
theorem dX12_ends_54 : decode cX12_ends 54 = .ok (.invokestatic 367, 3) := by decide +kernel
theorem dX12_ends_57 : decode cX12_ends 57 = .ok (.iconst 1, 1) := by decide +kernel
theorem dX12_ends_58 : decode cX12_ends 58 = .ok (.if_icmp .ne 7, 3) := by decide +kernel
theorem dX12_ends_61 : decode cX12_ends 61 = .ok (.iconst 1, 1) := by decide +kernel
theorem dX12_ends_62 : decode cX12_ends 62 = .ok (.goto 4, 3) := by decide +kernel
theorem dX12_ends_65 : decode cX12_ends 65 = .ok (.iconst 0, 1) := by decide +kernel
theorem dX12_ends_66 : decode cX12_ends 66 = .ok (.iadd, 1) := by decide +kernel
theorem dX12_ends_67 : decode cX12_ends 67 = .ok (.istore_n 1, 1) := by decide +kernel
theorem dX12_ends_68 : decode cX12_ends 68 = .ok (.iinc 2 1, 3) := by decide +kernel
theorem dX12_ends_71 : decode cX12_ends 71 = .ok (.goto (-49), 3) := by decide +kernel
theorem dX12_ends_74 : decode cX12_ends 74 = .ok (.aload_n 0, 1) := by decide +kernel
theorem dX12_ends_75 : decode cX12_ends 75 = .ok (.iload_n 1, 1) := by decide +kernel
theorem dX12_ends_76 : decode cX12_ends 76 = .ok (.invokevirtual 72, 3) := by decide +kernel
theorem dX12_ends_79 : decode cX12_ends 79 = .ok (.ireturn, 1) := by decide +kernel
theorem dX12_steps_0 : decode cX12_steps 0 = .ok (.aload_n 0, 1) := by decide +kernel
theorem dX12_steps_1 : decode cX12_steps 1 = .ok (.iconst 0, 1) := by decide +kernel
theorem dX12_steps_2 : decode cX12_steps 2 = .ok (.putfield 62, 3) := by decide +kernel
theorem dX12_steps_5 : decode cX12_steps 5 = .ok (.aload_n 0, 1) := by decide +kernel
theorem dX12_steps_6 : decode cX12_steps 6 = .ok (.iload_n 1, 1) := by decide +kernel
theorem dX12_steps_7 : decode cX12_steps 7 = .ok (.invokevirtual 400, 3) := by decide +kernel
theorem dX12_steps_10 : decode cX12_steps 10 = .ok (.ifCond .eq 11, 3) := by decide +kernel
theorem dX12_steps_13 : decode cX12_steps 13 = .ok (.aload_n 0, 1) := by decide +kernel
theorem dX12_steps_14 : decode cX12_steps 14 = .ok (.iload_n 2, 1) := by decide +kernel
theorem dX12_steps_15 : decode cX12_steps 15 = .ok (.invokevirtual 400, 3) := by decide +kernel
theorem dX12_steps_18 : decode cX12_steps 18 = .ok (.ifCond .ne 9, 3) := by decide +kernel
theorem dX12_steps_21 : decode cX12_steps 21 = .ok (.aload_n 0, 1) := by decide +kernel
theorem dX12_steps_22 : decode cX12_steps 22 = .ok (.iconst 1, 1) := by decide +kernel
theorem dX12_steps_23 : decode cX12_steps 23 = .ok (.invokevirtual 68, 3) := by decide +kernel
theorem dX12_steps_26 : decode cX12_steps 26 = .ok (.ireturn, 1) := by decide +kernel
theorem dX12_steps_27 : decode cX12_steps 27 = .ok (.aload_n 0, 1) := by decide +kernel
theorem dX12_steps_28 : decode cX12_steps 28 = .ok (.aload_n 0, 1) := by decide +kernel
theorem dX12_steps_29 : decode cX12_steps 29 = .ok (.getfield 357, 3) := by decide +kernel
theorem dX12_steps_32 : decode cX12_steps 32 = .ok (.iload_n 1, 1) := by decide +kernel
theorem dX12_steps_33 : decode cX12_steps 33 = .ok (.invokevirtual 377, 3) := by decide +kernel
theorem dX12_steps_36 : decode cX12_steps 36 = .ok (.aload_n 0, 1) := by decide +kernel
theorem dX12_steps_37 : decode cX12_steps 37 = .ok (.aload_n 0, 1) := by decide +kernel
theorem dX12_steps_38 : decode cX12_steps 38 = .ok (.getfield 21, 3) := by decide +kernel
theorem dX12_steps_41 : decode cX12_steps 41 = .ok (.iload_n 2, 1) := by decide +kernel
theorem dX12_steps_42 : decode cX12_steps 42 = .ok (.iaload, 1) := by decide +kernel
theorem dX12_steps_43 : decode cX12_steps 43 = .ok (.invokevirtual 72, 3) := by decide +kernel
theorem dX12_steps_46 : decode cX12_steps 46 = .ok (.ireturn, 1) := by decide +kernel
theorem dX12_longest_0 : decode cX12_longest 0 = .ok (.aload_n 0, 1) := by decide +kernel
theorem dX12_longest_1 : decode cX12_longest 1 = .ok (.iconst 0, 1) := by decide +kernel
theorem dX12_longest_2 : decode cX12_longest 2 = .ok (.putfield 62, 3) := by decide +kernel
theorem dX12_longest_5 : decode cX12_longest 5 = .ok (.aload_n 0, 1) := by decide +kernel
theorem dX12_longest_6 : decode cX12_longest 6 = .ok (.getfield 355, 3) := by decide +kernel
theorem dX12_longest_9 : decode cX12_longest 9 = .ok (.ifnonnull 9, 3) := by decide +kernel
theorem dX12_longest_12 : decode cX12_longest 12 = .ok (.aload_n 0, 1) := by decide +kernel
theorem dX12_longest_13 : decode cX12_longest 13 = .ok (.iconst 1, 1) := by decide +kernel
theorem dX12_longest_14 : decode cX12_longest 14 = .ok (.invokevirtual 68, 3) := by decide +kernel
theorem dX12_longest_17 : decode cX12_longest 17 = .ok (.ireturn, 1) := by decide +kernel
theorem dX12_longest_18 : decode cX12_longest 18 = .ok (.bipush (-2), 2) := by decide +kernel
theorem dX12_longest_20 : decode cX12_longest 20 = .ok (.istore_n 1, 1) := by decide +kernel
theorem dX12_longest_21 : decode cX12_longest 21 = .ok (.iconst 0, 1) := by decide +kernel
theorem dX12_longest_22 : decode cX12_longest 22 = .ok (.istore_n 2, 1) := by decide +kernel
theorem dX12_longest_23 : decode cX12_longest 23 = .ok (.iload_n 2, 1) := by decide +kernel
theorem dX12_longest_24 : decode cX12_longest 24 = .ok (.aload_n 0, 1) := by decide +kernel
theorem dX12_longest_25 : decode cX12_longest 25 = .ok (.getfield 355, 3) := by decide +kernel
theorem dX12_longest_28 : decode cX12_longest 28 = .ok (.invokevirtual 381, 3) := by decide +kernel
theorem dX12_longest_31 : decode cX12_longest 31 = .ok (.if_icmp .ge 58, 3) := by decide +kernel
theorem dX12_longest_34 : decode cX12_longest 34 = .ok (.aload_n 0, 1) := by decide +kernel
theorem dX12_longest_35 : decode cX12_longest 35 = .ok (.aload_n 0, 1) := by decide +kernel
theorem dX12_longest_36 : decode cX12_longest 36 = .ok (.getfield 357, 3) := by decide +kernel
theorem dX12_longest_39 : decode cX12_longest 39 = .ok (.iload_n 2, 1) := by decide +kernel
theorem dX12_longest_40 : decode cX12_longest 40 = .ok (.invokevirtual 377, 3) := by decide +kernel
theorem dX12_longest_43 : decode cX12_longest 43 = .ok (.iconst 0, 1) := by decide +kernel
theorem dX12_longest_44 : decode cX12_longest 44 = .ok (.istore_n 3, 1) := by decide +kernel
theorem dX12_longest_45 : decode cX12_longest 45 = .ok (.iload_n 3, 1) := by decide +kernel
theorem dX12_longest_46 : decode cX12_longest 46 = .ok (.aload_n 0, 1) := by decide +kernel
theorem dX12_longest_47 : decode cX12_longest 47 = .ok (.getfield 355, 3) := by decide +kernel
theorem dX12_longest_50 : decode cX12_longest 50 = .ok (.invokevirtual 381, 3) := by decide +kernel
theorem dX12_longest_53 : decode cX12_longest 53 = .ok (.if_icmp .ge 30, 3) := by decide +kernel
theorem dX12_longest_56 : decode cX12_longest 56 = .ok (.aload_n 0, 1) := by decide +kernel
theorem dX12_longest_57 : decode cX12_longest 57 = .ok (.getfield 21, 3) := by decide +kernel
theorem dX12_longest_60 : decode cX12_longest 60 = .ok (.iload_n 3, 1) := by decide +kernel
theorem dX12_longest_61 : decode cX12_longest 61 = .ok (.iaload, 1) := by decide +kernel
theorem dX12_longest_62 : decode cX12_longest 62 = .ok (.iload_n 1, 1) := by decide +kernel
theorem dX12_longest_63 : decode cX12_longest 63 = .ok (.if_icmp .le 12, 3) := by decide +kernel
theorem dX12_longest_66 : decode cX12_longest 66 = .ok (.aload_n 0, 1) := by decide +kernel
theorem dX12_longest_67 : decode cX12_longest 67 = .ok (.getfield 21, 3) := by decide +kernel
theorem dX12_longest_70 : decode cX12_longest 70 = .ok (.iload_n 3, 1) := by decide +kernel
theorem dX12_longest_71 : decode cX12_longest 71 = .ok (.iaload, 1) := by decide +kernel
theorem dX12_longest_72 : decode cX12_longest 72 = .ok (.goto 4, 3) := by decide +kernel
theorem dX12_longest_75 : decode cX12_longest 75 = .ok (.iload_n 1, 1) := by decide +kernel
theorem dX12_longest_76 : decode cX12_longest 76 = .ok (.istore_n 1, 1) := by decide +kernel
theorem dX12_longest_77 : decode cX12_longest 77 = .ok (.iinc 3 1, 3) := by decide +kernel
theorem dX12_longest_80 : decode cX12_longest 80 = .ok (.goto (-35), 3) := by decide +kernel
theorem dX12_longest_83 : decode cX12_longest 83 = .ok (.iinc 2 1, 3) := by decide +kernel
theorem dX12_longest_86 : decode cX12_longest 86 = .ok (.goto (-63), 3) := by decide +kernel
theorem dX12_longest_89 : decode cX12_longest 89 = .ok (.aload_n 0, 1) := by decide +kernel
theorem dX12_longest_90 : decode cX12_longest 90 = .ok (.iload_n 1, 1) := by decide +kernel
theorem dX12_longest_91 : decode cX12_longest 91 = .ok (.invokevirtual 72, 3) := by decide +kernel
theorem dX12_longest_94 : decode cX12_longest 94 = .ok (.ireturn, 1) := by decide +kernel
theorem dX12_splits_0 : decode cX12_splits 0 = .ok (.aload_n 0, 1) := by decide +kernel
theorem dX12_splits_1 : decode cX12_splits 1 = .ok (.iconst 0, 1) := by decide +kernel
theorem dX12_splits_2 : decode cX12_splits 2 = .ok (.putfield 62, 3) := by decide +kernel
theorem dX12_splits_5 : decode cX12_splits 5 = .ok (.aload_n 0, 1) := by decide +kernel
theorem dX12_splits_6 : decode cX12_splits 6 = .ok (.iload_n 1, 1) := by decide +kernel
theorem dX12_splits_7 : decode cX12_splits 7 = .ok (.iload_n 2, 1) := by decide +kernel
theorem dX12_splits_8 : decode cX12_splits 8 = .ok (.invokevirtual 389, 3) := by decide +kernel
theorem dX12_splits_11 : decode cX12_splits 11 = .ok (.ifCond .eq 28, 3) := by decide +kernel
theorem dX12_splits_14 : decode cX12_splits 14 = .ok (.aload_n 0, 1) := by decide +kernel
theorem dX12_splits_15 : decode cX12_splits 15 = .ok (.aload_n 0, 1) := by decide +kernel
theorem dX12_splits_16 : decode cX12_splits 16 = .ok (.aload_n 0, 1) := by decide +kernel
theorem dX12_splits_17 : decode cX12_splits 17 = .ok (.iload_n 1, 1) := by decide +kernel
theorem dX12_splits_18 : decode cX12_splits 18 = .ok (.iload_n 2, 1) := by decide +kernel
theorem dX12_splits_19 : decode cX12_splits 19 = .ok (.invokevirtual 393, 3) := by decide +kernel
theorem dX12_splits_22 : decode cX12_splits 22 = .ok (.invokevirtual 403, 3) := by decide +kernel
theorem dX12_splits_25 : decode cX12_splits 25 = .ok (.ifCond .eq 7, 3) := by decide +kernel
theorem dX12_splits_28 : decode cX12_splits 28 = .ok (.iconst 1, 1) := by decide +kernel
theorem dX12_splits_29 : decode cX12_splits 29 = .ok (.goto 4, 3) := by decide +kernel
theorem dX12_splits_32 : decode cX12_splits 32 = .ok (.iconst 0, 1) := by decide +kernel
theorem dX12_splits_33 : decode cX12_splits 33 = .ok (.invokevirtual 72, 3) := by decide +kernel
theorem dX12_splits_36 : decode cX12_splits 36 = .ok (.goto 8, 3) := by decide +kernel
theorem dX12_splits_39 : decode cX12_splits 39 = .ok (.aload_n 0, 1) := by decide +kernel
theorem dX12_splits_40 : decode cX12_splits 40 = .ok (.iconst 1, 1) := by decide +kernel
theorem dX12_splits_41 : decode cX12_splits 41 = .ok (.invokevirtual 68, 3) := by decide +kernel
theorem dX12_splits_44 : decode cX12_splits 44 = .ok (.ireturn, 1) := by decide +kernel
theorem dX12_drawn_0 : decode cX12_drawn 0 = .ok (.ldc2_w 406, 3) := by decide +kernel
theorem dX12_drawn_3 : decode cX12_drawn 3 = .ok (.iload_n 0, 1) := by decide +kernel
theorem dX12_drawn_4 : decode cX12_drawn 4 = .ok (.i2l, 1) := by decide +kernel
theorem dX12_drawn_5 : decode cX12_drawn 5 = .ok (.lmul, 1) := by decide +kernel
theorem dX12_drawn_6 : decode cX12_drawn 6 = .ok (.ldc2_w 408, 3) := by decide +kernel
theorem dX12_drawn_9 : decode cX12_drawn 9 = .ok (.ladd, 1) := by decide +kernel
theorem dX12_drawn_10 : decode cX12_drawn 10 = .ok (.ldc2_w 410, 3) := by decide +kernel
theorem dX12_drawn_13 : decode cX12_drawn 13 = .ok (.lrem, 1) := by decide +kernel
theorem dX12_drawn_14 : decode cX12_drawn 14 = .ok (.l2i, 1) := by decide +kernel
theorem dX12_drawn_15 : decode cX12_drawn 15 = .ok (.ireturn, 1) := by decide +kernel
theorem dX12_sets_0 : decode cX12_sets 0 = .ok (.aload_n 0, 1) := by decide +kernel
theorem dX12_sets_1 : decode cX12_sets 1 = .ok (.aload_n 0, 1) := by decide +kernel
theorem dX12_sets_2 : decode cX12_sets 2 = .ok (.getfield 355, 3) := by decide +kernel
theorem dX12_sets_5 : decode cX12_sets 5 = .ok (.getfield 341, 3) := by decide +kernel
theorem dX12_sets_8 : decode cX12_sets 8 = .ok (.iload_n 1, 1) := by decide +kernel
theorem dX12_sets_9 : decode cX12_sets 9 = .ok (.iaload, 1) := by decide +kernel
theorem dX12_sets_10 : decode cX12_sets 10 = .ok (.putfield 412, 3) := by decide +kernel
theorem dX12_sets_13 : decode cX12_sets 13 = .ok (.aload_n 0, 1) := by decide +kernel
theorem dX12_sets_14 : decode cX12_sets 14 = .ok (.aload_n 0, 1) := by decide +kernel
theorem dX12_sets_15 : decode cX12_sets 15 = .ok (.getfield 355, 3) := by decide +kernel
theorem dX12_sets_18 : decode cX12_sets 18 = .ok (.getfield 344, 3) := by decide +kernel
theorem dX12_sets_21 : decode cX12_sets 21 = .ok (.iload_n 1, 1) := by decide +kernel
theorem dX12_sets_22 : decode cX12_sets 22 = .ok (.iaload, 1) := by decide +kernel
theorem dX12_sets_23 : decode cX12_sets 23 = .ok (.putfield 415, 3) := by decide +kernel
theorem dX12_sets_26 : decode cX12_sets 26 = .ok (.aload_n 0, 1) := by decide +kernel
theorem dX12_sets_27 : decode cX12_sets 27 = .ok (.aload_n 0, 1) := by decide +kernel
theorem dX12_sets_28 : decode cX12_sets 28 = .ok (.getfield 358, 3) := by decide +kernel
theorem dX12_sets_31 : decode cX12_sets 31 = .ok (.iload_n 1, 1) := by decide +kernel
theorem dX12_sets_32 : decode cX12_sets 32 = .ok (.iadd, 1) := by decide +kernel
theorem dX12_sets_33 : decode cX12_sets 33 = .ok (.ldc_w 418, 3) := by decide +kernel
theorem dX12_sets_36 : decode cX12_sets 36 = .ok (.irem, 1) := by decide +kernel
theorem dX12_sets_37 : decode cX12_sets 37 = .ok (.putfield 419, 3) := by decide +kernel
theorem dX12_sets_40 : decode cX12_sets 40 = .ok (.iconst 0, 1) := by decide +kernel
theorem dX12_sets_41 : decode cX12_sets 41 = .ok (.istore_n 2, 1) := by decide +kernel
theorem dX12_sets_42 : decode cX12_sets 42 = .ok (.iload_n 2, 1) := by decide +kernel
theorem dX12_sets_43 : decode cX12_sets 43 = .ok (.bipush 48, 2) := by decide +kernel
theorem dX12_sets_45 : decode cX12_sets 45 = .ok (.if_icmp .ge 17, 3) := by decide +kernel
theorem dX12_sets_48 : decode cX12_sets 48 = .ok (.aload_n 0, 1) := by decide +kernel
theorem dX12_sets_49 : decode cX12_sets 49 = .ok (.getfield 27, 3) := by decide +kernel
theorem dX12_sets_52 : decode cX12_sets 52 = .ok (.iload_n 2, 1) := by decide +kernel
theorem dX12_sets_53 : decode cX12_sets 53 = .ok (.bipush (-2), 2) := by decide +kernel
theorem dX12_sets_55 : decode cX12_sets 55 = .ok (.iastore, 1) := by decide +kernel
theorem dX12_sets_56 : decode cX12_sets 56 = .ok (.iinc 2 1, 3) := by decide +kernel
theorem dX12_sets_59 : decode cX12_sets 59 = .ok (.goto (-17), 3) := by decide +kernel
theorem dX12_sets_62 : decode cX12_sets 62 = .ok (.aload_n 0, 1) := by decide +kernel
theorem dX12_sets_63 : decode cX12_sets 63 = .ok (.getfield 27, 3) := by decide +kernel
theorem dX12_sets_66 : decode cX12_sets 66 = .ok (.aload_n 0, 1) := by decide +kernel
theorem dX12_sets_67 : decode cX12_sets 67 = .ok (.getfield 412, 3) := by decide +kernel
theorem dX12_sets_70 : decode cX12_sets 70 = .ok (.aload_n 0, 1) := by decide +kernel
theorem dX12_sets_71 : decode cX12_sets 71 = .ok (.getfield 412, 3) := by decide +kernel
theorem dX12_sets_74 : decode cX12_sets 74 = .ok (.iastore, 1) := by decide +kernel
theorem dX12_sets_75 : decode cX12_sets 75 = .ok (.aload_n 0, 1) := by decide +kernel
theorem dX12_sets_76 : decode cX12_sets 76 = .ok (.getfield 355, 3) := by decide +kernel
theorem dX12_sets_79 : decode cX12_sets 79 = .ok (.getfield 338, 3) := by decide +kernel
theorem dX12_sets_82 : decode cX12_sets 82 = .ok (.iload_n 1, 1) := by decide +kernel
theorem dX12_sets_83 : decode cX12_sets 83 = .ok (.iaload, 1) := by decide +kernel
theorem dX12_sets_84 : decode cX12_sets 84 = .ok (.iconst 3, 1) := by decide +kernel
theorem dX12_sets_85 : decode cX12_sets 85 = .ok (.if_icmp .eq 4, 3) := by decide +kernel
theorem dX12_sets_88 : decode cX12_sets 88 = .ok (.return_, 1) := by decide +kernel
theorem dX12_sets_89 : decode cX12_sets 89 = .ok (.iconst 0, 1) := by decide +kernel
theorem dX12_sets_90 : decode cX12_sets 90 = .ok (.istore_n 2, 1) := by decide +kernel
theorem dX12_sets_91 : decode cX12_sets 91 = .ok (.iload_n 2, 1) := by decide +kernel
theorem dX12_sets_92 : decode cX12_sets 92 = .ok (.bipush 48, 2) := by decide +kernel
theorem dX12_sets_94 : decode cX12_sets 94 = .ok (.if_icmp .ge 17, 3) := by decide +kernel
theorem dX12_sets_97 : decode cX12_sets 97 = .ok (.aload_n 0, 1) := by decide +kernel
theorem dX12_sets_98 : decode cX12_sets 98 = .ok (.getfield 30, 3) := by decide +kernel
theorem dX12_sets_101 : decode cX12_sets 101 = .ok (.iload_n 2, 1) := by decide +kernel
theorem dX12_sets_102 : decode cX12_sets 102 = .ok (.bipush (-2), 2) := by decide +kernel
theorem dX12_sets_104 : decode cX12_sets 104 = .ok (.iastore, 1) := by decide +kernel
theorem dX12_sets_105 : decode cX12_sets 105 = .ok (.iinc 2 1, 3) := by decide +kernel
theorem dX12_sets_108 : decode cX12_sets 108 = .ok (.goto (-17), 3) := by decide +kernel
theorem dX12_sets_111 : decode cX12_sets 111 = .ok (.aload_n 0, 1) := by decide +kernel
theorem dX12_sets_112 : decode cX12_sets 112 = .ok (.getfield 355, 3) := by decide +kernel
theorem dX12_sets_115 : decode cX12_sets 115 = .ok (.getfield 286, 3) := by decide +kernel
theorem dX12_sets_118 : decode cX12_sets 118 = .ok (.bipush (-2), 2) := by decide +kernel
theorem dX12_sets_120 : decode cX12_sets 120 = .ok (.if_icmp .ne 4, 3) := by decide +kernel
theorem dX12_sets_123 : decode cX12_sets 123 = .ok (.return_, 1) := by decide +kernel
theorem dX12_sets_124 : decode cX12_sets 124 = .ok (.aload_n 0, 1) := by decide +kernel
theorem dX12_sets_125 : decode cX12_sets 125 = .ok (.aload_n 0, 1) := by decide +kernel
theorem dX12_sets_126 : decode cX12_sets 126 = .ok (.getfield 357, 3) := by decide +kernel
theorem dX12_sets_129 : decode cX12_sets 129 = .ok (.aload_n 0, 1) := by decide +kernel
theorem dX12_sets_130 : decode cX12_sets 130 = .ok (.getfield 355, 3) := by decide +kernel
theorem dX12_sets_133 : decode cX12_sets 133 = .ok (.getfield 286, 3) := by decide +kernel
theorem dX12_sets_136 : decode cX12_sets 136 = .ok (.invokevirtual 377, 3) := by decide +kernel
theorem dX12_sets_139 : decode cX12_sets 139 = .ok (.iconst 0, 1) := by decide +kernel
theorem dX12_sets_140 : decode cX12_sets 140 = .ok (.istore_n 2, 1) := by decide +kernel
theorem dX12_sets_141 : decode cX12_sets 141 = .ok (.iload_n 2, 1) := by decide +kernel
theorem dX12_sets_142 : decode cX12_sets 142 = .ok (.bipush 48, 2) := by decide +kernel
theorem dX12_sets_144 : decode cX12_sets 144 = .ok (.if_icmp .ge 21, 3) := by decide +kernel
theorem dX12_sets_147 : decode cX12_sets 147 = .ok (.aload_n 0, 1) := by decide +kernel
theorem dX12_sets_148 : decode cX12_sets 148 = .ok (.getfield 30, 3) := by decide +kernel
theorem dX12_sets_151 : decode cX12_sets 151 = .ok (.iload_n 2, 1) := by decide +kernel
theorem dX12_sets_152 : decode cX12_sets 152 = .ok (.aload_n 0, 1) := by decide +kernel
theorem dX12_sets_153 : decode cX12_sets 153 = .ok (.getfield 21, 3) := by decide +kernel
theorem dX12_sets_156 : decode cX12_sets 156 = .ok (.iload_n 2, 1) := by decide +kernel
theorem dX12_sets_157 : decode cX12_sets 157 = .ok (.iaload, 1) := by decide +kernel
theorem dX12_sets_158 : decode cX12_sets 158 = .ok (.iastore, 1) := by decide +kernel
theorem dX12_sets_159 : decode cX12_sets 159 = .ok (.iinc 2 1, 3) := by decide +kernel
theorem dX12_sets_162 : decode cX12_sets 162 = .ok (.goto (-21), 3) := by decide +kernel
theorem dX12_sets_165 : decode cX12_sets 165 = .ok (.return_, 1) := by decide +kernel
theorem dX12_mownTo_0 : decode cX12_mownTo 0 = .ok (.aload_n 0, 1) := by decide +kernel
theorem dX12_mownTo_1 : decode cX12_mownTo 1 = .ok (.getfield 355, 3) := by decide +kernel
theorem dX12_mownTo_4 : decode cX12_mownTo 4 = .ok (.aload_n 0, 1) := by decide +kernel
theorem dX12_mownTo_5 : decode cX12_mownTo 5 = .ok (.getfield 412, 3) := by decide +kernel
theorem dX12_mownTo_8 : decode cX12_mownTo 8 = .ok (.iload_n 1, 1) := by decide +kernel
theorem dX12_mownTo_9 : decode cX12_mownTo 9 = .ok (.iconst 3, 1) := by decide +kernel
theorem dX12_mownTo_10 : decode cX12_mownTo 10 = .ok (.iand, 1) := by decide +kernel
theorem dX12_mownTo_11 : decode cX12_mownTo 11 = .ok (.invokevirtual 371, 3) := by decide +kernel
theorem dX12_mownTo_14 : decode cX12_mownTo 14 = .ok (.istore_n 2, 1) := by decide +kernel
theorem dX12_mownTo_15 : decode cX12_mownTo 15 = .ok (.iload_n 2, 1) := by decide +kernel
theorem dX12_mownTo_16 : decode cX12_mownTo 16 = .ok (.iconst (-1), 1) := by decide +kernel
theorem dX12_mownTo_17 : decode cX12_mownTo 17 = .ok (.if_icmp .eq 18, 3) := by decide +kernel
theorem dX12_mownTo_20 : decode cX12_mownTo 20 = .ok (.aload_n 0, 1) := by decide +kernel
theorem dX12_mownTo_21 : decode cX12_mownTo 21 = .ok (.getfield 357, 3) := by decide +kernel
theorem dX12_mownTo_24 : decode cX12_mownTo 24 = .ok (.iload_n 2, 1) := by decide +kernel
theorem dX12_mownTo_25 : decode cX12_mownTo 25 = .ok (.invokestatic 75, 3) := by decide +kernel
theorem dX12_mownTo_28 : decode cX12_mownTo 28 = .ok (.ifCond .eq 7, 3) := by decide +kernel
theorem dX12_mownTo_31 : decode cX12_mownTo 31 = .ok (.iload_n 2, 1) := by decide +kernel
theorem dX12_mownTo_32 : decode cX12_mownTo 32 = .ok (.goto 4, 3) := by decide +kernel
theorem dX12_mownTo_35 : decode cX12_mownTo 35 = .ok (.iconst (-1), 1) := by decide +kernel
theorem dX12_mownTo_36 : decode cX12_mownTo 36 = .ok (.ireturn, 1) := by decide +kernel
theorem dX12_isGate_0 : decode cX12_isGate 0 = .ok (.aload_n 0, 1) := by decide +kernel
theorem dX12_isGate_1 : decode cX12_isGate 1 = .ok (.getfield 355, 3) := by decide +kernel
theorem dX12_isGate_4 : decode cX12_isGate 4 = .ok (.getfield 281, 3) := by decide +kernel
theorem dX12_isGate_7 : decode cX12_isGate 7 = .ok (.iload_n 1, 1) := by decide +kernel
theorem dX12_isGate_8 : decode cX12_isGate 8 = .ok (.invokestatic 75, 3) := by decide +kernel
theorem dX12_isGate_11 : decode cX12_isGate 11 = .ok (.ireturn, 1) := by decide +kernel
theorem dX12_goes_0 : decode cX12_goes 0 = .ok (.aload_n 0, 1) := by decide +kernel
theorem dX12_goes_1 : decode cX12_goes 1 = .ok (.getfield 355, 3) := by decide +kernel
theorem dX12_goes_4 : decode cX12_goes 4 = .ok (.getfield 338, 3) := by decide +kernel
theorem dX12_goes_7 : decode cX12_goes 7 = .ok (.iload_n 1, 1) := by decide +kernel
theorem dX12_goes_8 : decode cX12_goes 8 = .ok (.iaload, 1) := by decide +kernel
theorem dX12_goes_9 : decode cX12_goes 9 = .ok (.tableswitch 61 0 3 #[31, 39, 47, 54], 31) := by decide +kernel
theorem dX12_goes_40 : decode cX12_goes 40 = .ok (.aload_n 0, 1) := by decide +kernel
theorem dX12_goes_41 : decode cX12_goes 41 = .ok (.iconst 3, 1) := by decide +kernel
theorem dX12_goes_42 : decode cX12_goes 42 = .ok (.invokevirtual 422, 3) := by decide +kernel
theorem dX12_goes_45 : decode cX12_goes 45 = .ok (.goto 29, 3) := by decide +kernel
theorem dX12_goes_48 : decode cX12_goes 48 = .ok (.aload_n 0, 1) := by decide +kernel
theorem dX12_goes_49 : decode cX12_goes 49 = .ok (.iconst 1, 1) := by decide +kernel
theorem dX12_goes_50 : decode cX12_goes 50 = .ok (.invokevirtual 422, 3) := by decide +kernel
theorem dX12_goes_53 : decode cX12_goes 53 = .ok (.goto 21, 3) := by decide +kernel
theorem dX12_goes_56 : decode cX12_goes 56 = .ok (.aload_n 0, 1) := by decide +kernel
theorem dX12_goes_57 : decode cX12_goes 57 = .ok (.invokevirtual 425, 3) := by decide +kernel
theorem dX12_goes_60 : decode cX12_goes 60 = .ok (.goto 14, 3) := by decide +kernel
theorem dX12_goes_63 : decode cX12_goes 63 = .ok (.aload_n 0, 1) := by decide +kernel
theorem dX12_goes_64 : decode cX12_goes 64 = .ok (.invokevirtual 428, 3) := by decide +kernel
theorem dX12_goes_67 : decode cX12_goes 67 = .ok (.goto 7, 3) := by decide +kernel
theorem dX12_goes_70 : decode cX12_goes 70 = .ok (.aload_n 0, 1) := by decide +kernel
theorem dX12_goes_71 : decode cX12_goes 71 = .ok (.invokevirtual 431, 3) := by decide +kernel
theorem dX12_goes_74 : decode cX12_goes 74 = .ok (.return_, 1) := by decide +kernel
theorem dX12_turns_0 : decode cX12_turns 0 = .ok (.iconst 0, 1) := by decide +kernel
theorem dX12_turns_1 : decode cX12_turns 1 = .ok (.istore_n 2, 1) := by decide +kernel
theorem dX12_turns_2 : decode cX12_turns 2 = .ok (.iload_n 2, 1) := by decide +kernel
theorem dX12_turns_3 : decode cX12_turns 3 = .ok (.iconst 4, 1) := by decide +kernel
theorem dX12_turns_4 : decode cX12_turns 4 = .ok (.if_icmp .ge 74, 3) := by decide +kernel
theorem dX12_turns_7 : decode cX12_turns 7 = .ok (.aload_n 0, 1) := by decide +kernel
theorem dX12_turns_8 : decode cX12_turns 8 = .ok (.getfield 415, 3) := by decide +kernel
theorem dX12_turns_11 : decode cX12_turns 11 = .ok (.iload_n 2, 1) := by decide +kernel
theorem dX12_turns_12 : decode cX12_turns 12 = .ok (.ifCond .ne 7, 3) := by decide +kernel
theorem dX12_turns_15 : decode cX12_turns 15 = .ok (.iload_n 1, 1) := by decide +kernel
theorem dX12_turns_16 : decode cX12_turns 16 = .ok (.goto 24, 3) := by decide +kernel
theorem dX12_turns_19 : decode cX12_turns 19 = .ok (.iload_n 2, 1) := by decide +kernel
theorem dX12_turns_20 : decode cX12_turns 20 = .ok (.iconst 1, 1) := by decide +kernel
theorem dX12_turns_21 : decode cX12_turns 21 = .ok (.if_icmp .ne 7, 3) := by decide +kernel
theorem dX12_turns_24 : decode cX12_turns 24 = .ok (.iconst 0, 1) := by decide +kernel
theorem dX12_turns_25 : decode cX12_turns 25 = .ok (.goto 15, 3) := by decide +kernel
theorem dX12_turns_28 : decode cX12_turns 28 = .ok (.iload_n 2, 1) := by decide +kernel
theorem dX12_turns_29 : decode cX12_turns 29 = .ok (.iconst 2, 1) := by decide +kernel
theorem dX12_turns_30 : decode cX12_turns 30 = .ok (.if_icmp .ne 9, 3) := by decide +kernel
theorem dX12_turns_33 : decode cX12_turns 33 = .ok (.iconst 4, 1) := by decide +kernel
theorem dX12_turns_34 : decode cX12_turns 34 = .ok (.iload_n 1, 1) := by decide +kernel
theorem dX12_turns_35 : decode cX12_turns 35 = .ok (.isub, 1) := by decide +kernel
theorem dX12_turns_36 : decode cX12_turns 36 = .ok (.goto 4, 3) := by decide +kernel
theorem dX12_turns_39 : decode cX12_turns 39 = .ok (.iconst 2, 1) := by decide +kernel
theorem dX12_turns_40 : decode cX12_turns 40 = .ok (.iadd, 1) := by decide +kernel
theorem dX12_turns_41 : decode cX12_turns 41 = .ok (.iconst 3, 1) := by decide +kernel
theorem dX12_turns_42 : decode cX12_turns 42 = .ok (.iand, 1) := by decide +kernel
theorem dX12_turns_43 : decode cX12_turns 43 = .ok (.istore_n 3, 1) := by decide +kernel
theorem dX12_turns_44 : decode cX12_turns 44 = .ok (.aload_n 0, 1) := by decide +kernel
theorem dX12_turns_45 : decode cX12_turns 45 = .ok (.iload_n 3, 1) := by decide +kernel
theorem dX12_turns_46 : decode cX12_turns 46 = .ok (.invokevirtual 434, 3) := by decide +kernel
theorem dX12_turns_49 : decode cX12_turns 49 = .ok (.istore 4, 2) := by decide +kernel
theorem dX12_turns_51 : decode cX12_turns 51 = .ok (.iload 4, 2) := by decide +kernel
theorem dX12_turns_53 : decode cX12_turns 53 = .ok (.iconst (-1), 1) := by decide +kernel
theorem dX12_turns_54 : decode cX12_turns 54 = .ok (.if_icmp .ne 6, 3) := by decide +kernel
theorem dX12_turns_57 : decode cX12_turns 57 = .ok (.goto 15, 3) := by decide +kernel
theorem dX12_turns_60 : decode cX12_turns 60 = .ok (.aload_n 0, 1) := by decide +kernel
theorem dX12_turns_61 : decode cX12_turns 61 = .ok (.iload 4, 2) := by decide +kernel
theorem dX12_turns_63 : decode cX12_turns 63 = .ok (.putfield 412, 3) := by decide +kernel
theorem dX12_turns_66 : decode cX12_turns 66 = .ok (.aload_n 0, 1) := by decide +kernel
theorem dX12_turns_67 : decode cX12_turns 67 = .ok (.iload_n 3, 1) := by decide +kernel
theorem dX12_turns_68 : decode cX12_turns 68 = .ok (.putfield 415, 3) := by decide +kernel
theorem dX12_turns_71 : decode cX12_turns 71 = .ok (.return_, 1) := by decide +kernel
theorem dX12_turns_72 : decode cX12_turns 72 = .ok (.iinc 2 1, 3) := by decide +kernel
theorem dX12_turns_75 : decode cX12_turns 75 = .ok (.goto (-73), 3) := by decide +kernel
theorem dX12_turns_78 : decode cX12_turns 78 = .ok (.return_, 1) := by decide +kernel
theorem dX12_goesOnce_0 : decode cX12_goesOnce 0 = .ok (.iconst 0, 1) := by decide +kernel
theorem dX12_goesOnce_1 : decode cX12_goesOnce 1 = .ok (.istore_n 1, 1) := by decide +kernel
theorem dX12_goesOnce_2 : decode cX12_goesOnce 2 = .ok (.iload_n 1, 1) := by decide +kernel
theorem dX12_goesOnce_3 : decode cX12_goesOnce 3 = .ok (.iconst 4, 1) := by decide +kernel
theorem dX12_goesOnce_4 : decode cX12_goesOnce 4 = .ok (.if_icmp .ge 50, 3) := by decide +kernel
theorem dX12_goesOnce_7 : decode cX12_goesOnce 7 = .ok (.aload_n 0, 1) := by decide +kernel
theorem dX12_goesOnce_8 : decode cX12_goesOnce 8 = .ok (.iload_n 1, 1) := by decide +kernel
theorem dX12_goesOnce_9 : decode cX12_goesOnce 9 = .ok (.invokevirtual 434, 3) := by decide +kernel
theorem dX12_goesOnce_12 : decode cX12_goesOnce 12 = .ok (.istore_n 2, 1) := by decide +kernel
theorem dX12_goesOnce_13 : decode cX12_goesOnce 13 = .ok (.iload_n 2, 1) := by decide +kernel
theorem dX12_goesOnce_14 : decode cX12_goesOnce 14 = .ok (.iconst (-1), 1) := by decide +kernel
theorem dX12_goesOnce_15 : decode cX12_goesOnce 15 = .ok (.if_icmp .eq 33, 3) := by decide +kernel
theorem dX12_goesOnce_18 : decode cX12_goesOnce 18 = .ok (.aload_n 0, 1) := by decide +kernel
theorem dX12_goesOnce_19 : decode cX12_goesOnce 19 = .ok (.getfield 27, 3) := by decide +kernel
theorem dX12_goesOnce_22 : decode cX12_goesOnce 22 = .ok (.iload_n 2, 1) := by decide +kernel
theorem dX12_goesOnce_23 : decode cX12_goesOnce 23 = .ok (.iaload, 1) := by decide +kernel
theorem dX12_goesOnce_24 : decode cX12_goesOnce 24 = .ok (.bipush (-2), 2) := by decide +kernel
theorem dX12_goesOnce_26 : decode cX12_goesOnce 26 = .ok (.if_icmp .eq 6, 3) := by decide +kernel
theorem dX12_goesOnce_29 : decode cX12_goesOnce 29 = .ok (.goto 19, 3) := by decide +kernel
theorem dX12_goesOnce_32 : decode cX12_goesOnce 32 = .ok (.aload_n 0, 1) := by decide +kernel
theorem dX12_goesOnce_33 : decode cX12_goesOnce 33 = .ok (.getfield 27, 3) := by decide +kernel
theorem dX12_goesOnce_36 : decode cX12_goesOnce 36 = .ok (.iload_n 2, 1) := by decide +kernel
theorem dX12_goesOnce_37 : decode cX12_goesOnce 37 = .ok (.aload_n 0, 1) := by decide +kernel
theorem dX12_goesOnce_38 : decode cX12_goesOnce 38 = .ok (.getfield 412, 3) := by decide +kernel
theorem dX12_goesOnce_41 : decode cX12_goesOnce 41 = .ok (.iastore, 1) := by decide +kernel
theorem dX12_goesOnce_42 : decode cX12_goesOnce 42 = .ok (.aload_n 0, 1) := by decide +kernel
theorem dX12_goesOnce_43 : decode cX12_goesOnce 43 = .ok (.iload_n 2, 1) := by decide +kernel
theorem dX12_goesOnce_44 : decode cX12_goesOnce 44 = .ok (.putfield 412, 3) := by decide +kernel
theorem dX12_goesOnce_47 : decode cX12_goesOnce 47 = .ok (.return_, 1) := by decide +kernel
theorem dX12_goesOnce_48 : decode cX12_goesOnce 48 = .ok (.iinc 1 1, 3) := by decide +kernel
theorem dX12_goesOnce_51 : decode cX12_goesOnce 51 = .ok (.goto (-49), 3) := by decide +kernel
theorem dX12_goesOnce_54 : decode cX12_goesOnce 54 = .ok (.aload_n 0, 1) := by decide +kernel
theorem dX12_goesOnce_55 : decode cX12_goesOnce 55 = .ok (.getfield 357, 3) := by decide +kernel
theorem dX12_goesOnce_58 : decode cX12_goesOnce 58 = .ok (.aload_n 0, 1) := by decide +kernel
theorem dX12_goesOnce_59 : decode cX12_goesOnce 59 = .ok (.getfield 27, 3) := by decide +kernel
theorem dX12_goesOnce_62 : decode cX12_goesOnce 62 = .ok (.aload_n 0, 1) := by decide +kernel
theorem dX12_goesOnce_63 : decode cX12_goesOnce 63 = .ok (.getfield 412, 3) := by decide +kernel
theorem dX12_goesOnce_66 : decode cX12_goesOnce 66 = .ok (.iaload, 1) := by decide +kernel
theorem dX12_goesOnce_67 : decode cX12_goesOnce 67 = .ok (.invokestatic 75, 3) := by decide +kernel
theorem dX12_goesOnce_70 : decode cX12_goesOnce 70 = .ok (.ifCond .eq 16, 3) := by decide +kernel
theorem dX12_goesOnce_73 : decode cX12_goesOnce 73 = .ok (.aload_n 0, 1) := by decide +kernel
theorem dX12_goesOnce_74 : decode cX12_goesOnce 74 = .ok (.aload_n 0, 1) := by decide +kernel
theorem dX12_goesOnce_75 : decode cX12_goesOnce 75 = .ok (.getfield 27, 3) := by decide +kernel
theorem dX12_goesOnce_78 : decode cX12_goesOnce 78 = .ok (.aload_n 0, 1) := by decide +kernel
theorem dX12_goesOnce_79 : decode cX12_goesOnce 79 = .ok (.getfield 412, 3) := by decide +kernel
theorem dX12_goesOnce_82 : decode cX12_goesOnce 82 = .ok (.iaload, 1) := by decide +kernel
theorem dX12_goesOnce_83 : decode cX12_goesOnce 83 = .ok (.putfield 412, 3) := by decide +kernel
theorem dX12_goesOnce_86 : decode cX12_goesOnce 86 = .ok (.return_, 1) := by decide +kernel
theorem dX12_goesToNoise_0 : decode cX12_goesToNoise 0 = .ok (.aload_n 0, 1) := by decide +kernel
theorem dX12_goesToNoise_1 : decode cX12_goesToNoise 1 = .ok (.getfield 412, 3) := by decide +kernel
theorem dX12_goesToNoise_4 : decode cX12_goesToNoise 4 = .ok (.aload_n 0, 1) := by decide +kernel
theorem dX12_goesToNoise_5 : decode cX12_goesToNoise 5 = .ok (.getfield 355, 3) := by decide +kernel
theorem dX12_goesToNoise_8 : decode cX12_goesToNoise 8 = .ok (.getfield 286, 3) := by decide +kernel
theorem dX12_goesToNoise_11 : decode cX12_goesToNoise 11 = .ok (.if_icmp .ne 4, 3) := by decide +kernel
theorem dX12_goesToNoise_14 : decode cX12_goesToNoise 14 = .ok (.return_, 1) := by decide +kernel
theorem dX12_goesToNoise_15 : decode cX12_goesToNoise 15 = .ok (.iconst (-1), 1) := by decide +kernel
theorem dX12_goesToNoise_16 : decode cX12_goesToNoise 16 = .ok (.istore_n 1, 1) := by decide +kernel
theorem dX12_goesToNoise_17 : decode cX12_goesToNoise 17 = .ok (.iconst 0, 1) := by decide +kernel
theorem dX12_goesToNoise_18 : decode cX12_goesToNoise 18 = .ok (.istore_n 2, 1) := by decide +kernel
theorem dX12_goesToNoise_19 : decode cX12_goesToNoise 19 = .ok (.iload_n 2, 1) := by decide +kernel
theorem dX12_goesToNoise_20 : decode cX12_goesToNoise 20 = .ok (.iconst 4, 1) := by decide +kernel
theorem dX12_goesToNoise_21 : decode cX12_goesToNoise 21 = .ok (.if_icmp .ge 56, 3) := by decide +kernel
theorem dX12_goesToNoise_24 : decode cX12_goesToNoise 24 = .ok (.aload_n 0, 1) := by decide +kernel
theorem dX12_goesToNoise_25 : decode cX12_goesToNoise 25 = .ok (.iload_n 2, 1) := by decide +kernel
theorem dX12_goesToNoise_26 : decode cX12_goesToNoise 26 = .ok (.invokevirtual 434, 3) := by decide +kernel
theorem dX12_goesToNoise_29 : decode cX12_goesToNoise 29 = .ok (.istore_n 3, 1) := by decide +kernel
theorem dX12_goesToNoise_30 : decode cX12_goesToNoise 30 = .ok (.iload_n 3, 1) := by decide +kernel
theorem dX12_goesToNoise_31 : decode cX12_goesToNoise 31 = .ok (.iconst (-1), 1) := by decide +kernel
theorem dX12_goesToNoise_32 : decode cX12_goesToNoise 32 = .ok (.if_icmp .eq 39, 3) := by decide +kernel
theorem dX12_goesToNoise_35 : decode cX12_goesToNoise 35 = .ok (.aload_n 0, 1) := by decide +kernel
theorem dX12_goesToNoise_36 : decode cX12_goesToNoise 36 = .ok (.getfield 30, 3) := by decide +kernel
theorem dX12_goesToNoise_39 : decode cX12_goesToNoise 39 = .ok (.iload_n 3, 1) := by decide +kernel
theorem dX12_goesToNoise_40 : decode cX12_goesToNoise 40 = .ok (.iaload, 1) := by decide +kernel
theorem dX12_goesToNoise_41 : decode cX12_goesToNoise 41 = .ok (.bipush (-2), 2) := by decide +kernel
theorem dX12_goesToNoise_43 : decode cX12_goesToNoise 43 = .ok (.if_icmp .eq 28, 3) := by decide +kernel
theorem dX12_goesToNoise_46 : decode cX12_goesToNoise 46 = .ok (.iload_n 1, 1) := by decide +kernel
theorem dX12_goesToNoise_47 : decode cX12_goesToNoise 47 = .ok (.iconst (-1), 1) := by decide +kernel
theorem dX12_goesToNoise_48 : decode cX12_goesToNoise 48 = .ok (.if_icmp .eq 21, 3) := by decide +kernel
theorem dX12_goesToNoise_51 : decode cX12_goesToNoise 51 = .ok (.aload_n 0, 1) := by decide +kernel
theorem dX12_goesToNoise_52 : decode cX12_goesToNoise 52 = .ok (.getfield 30, 3) := by decide +kernel
theorem dX12_goesToNoise_55 : decode cX12_goesToNoise 55 = .ok (.iload_n 3, 1) := by decide +kernel
theorem dX12_goesToNoise_56 : decode cX12_goesToNoise 56 = .ok (.iaload, 1) := by decide +kernel
theorem dX12_goesToNoise_57 : decode cX12_goesToNoise 57 = .ok (.aload_n 0, 1) := by decide +kernel
theorem dX12_goesToNoise_58 : decode cX12_goesToNoise 58 = .ok (.getfield 30, 3) := by decide +kernel
theorem dX12_goesToNoise_61 : decode cX12_goesToNoise 61 = .ok (.iload_n 1, 1) := by decide +kernel
theorem dX12_goesToNoise_62 : decode cX12_goesToNoise 62 = .ok (.iaload, 1) := by decide +kernel
theorem dX12_goesToNoise_63 : decode cX12_goesToNoise 63 = .ok (.if_icmp .lt 6, 3) := by decide +kernel
theorem dX12_goesToNoise_66 : decode cX12_goesToNoise 66 = .ok (.goto 5, 3) := by decide +kernel
theorem dX12_goesToNoise_69 : decode cX12_goesToNoise 69 = .ok (.iload_n 3, 1) := by decide +kernel
theorem dX12_goesToNoise_70 : decode cX12_goesToNoise 70 = .ok (.istore_n 1, 1) := by decide +kernel
theorem dX12_goesToNoise_71 : decode cX12_goesToNoise 71 = .ok (.iinc 2 1, 3) := by decide +kernel
theorem dX12_goesToNoise_74 : decode cX12_goesToNoise 74 = .ok (.goto (-55), 3) := by decide +kernel
theorem dX12_goesToNoise_77 : decode cX12_goesToNoise 77 = .ok (.iload_n 1, 1) := by decide +kernel
theorem dX12_goesToNoise_78 : decode cX12_goesToNoise 78 = .ok (.iconst (-1), 1) := by decide +kernel
theorem dX12_goesToNoise_79 : decode cX12_goesToNoise 79 = .ok (.if_icmp .eq 8, 3) := by decide +kernel
theorem dX12_goesToNoise_82 : decode cX12_goesToNoise 82 = .ok (.aload_n 0, 1) := by decide +kernel
theorem dX12_goesToNoise_83 : decode cX12_goesToNoise 83 = .ok (.iload_n 1, 1) := by decide +kernel
theorem dX12_goesToNoise_84 : decode cX12_goesToNoise 84 = .ok (.putfield 412, 3) := by decide +kernel
theorem dX12_goesToNoise_87 : decode cX12_goesToNoise 87 = .ok (.return_, 1) := by decide +kernel
theorem dX12_goesByLot_0 : decode cX12_goesByLot 0 = .ok (.aload_n 0, 1) := by decide +kernel
theorem dX12_goesByLot_1 : decode cX12_goesByLot 1 = .ok (.aload_n 0, 1) := by decide +kernel
theorem dX12_goesByLot_2 : decode cX12_goesByLot 2 = .ok (.getfield 357, 3) := by decide +kernel
theorem dX12_goesByLot_5 : decode cX12_goesByLot 5 = .ok (.aload_n 0, 1) := by decide +kernel
theorem dX12_goesByLot_6 : decode cX12_goesByLot 6 = .ok (.getfield 412, 3) := by decide +kernel
theorem dX12_goesByLot_9 : decode cX12_goesByLot 9 = .ok (.invokevirtual 396, 3) := by decide +kernel
theorem dX12_goesByLot_12 : decode cX12_goesByLot 12 = .ok (.lstore_n 1, 1) := by decide +kernel
theorem dX12_goesByLot_13 : decode cX12_goesByLot 13 = .ok (.lload_n 1, 1) := by decide +kernel
theorem dX12_goesByLot_14 : decode cX12_goesByLot 14 = .ok (.lconst 0, 1) := by decide +kernel
theorem dX12_goesByLot_15 : decode cX12_goesByLot 15 = .ok (.lcmp, 1) := by decide +kernel
theorem dX12_goesByLot_16 : decode cX12_goesByLot 16 = .ok (.ifCond .ne 4, 3) := by decide +kernel
theorem dX12_goesByLot_19 : decode cX12_goesByLot 19 = .ok (.return_, 1) := by decide +kernel
theorem dX12_goesByLot_20 : decode cX12_goesByLot 20 = .ok (.aload_n 0, 1) := by decide +kernel
theorem dX12_goesByLot_21 : decode cX12_goesByLot 21 = .ok (.aload_n 0, 1) := by decide +kernel
theorem dX12_goesByLot_22 : decode cX12_goesByLot 22 = .ok (.getfield 419, 3) := by decide +kernel
theorem dX12_goesByLot_25 : decode cX12_goesByLot 25 = .ok (.invokestatic 437, 3) := by decide +kernel
theorem dX12_goesByLot_28 : decode cX12_goesByLot 28 = .ok (.putfield 419, 3) := by decide +kernel
theorem dX12_goesByLot_31 : decode cX12_goesByLot 31 = .ok (.aload_n 0, 1) := by decide +kernel
theorem dX12_goesByLot_32 : decode cX12_goesByLot 32 = .ok (.getfield 419, 3) := by decide +kernel
theorem dX12_goesByLot_35 : decode cX12_goesByLot 35 = .ok (.lload_n 1, 1) := by decide +kernel
theorem dX12_goesByLot_36 : decode cX12_goesByLot 36 = .ok (.invokestatic 367, 3) := by decide +kernel
theorem dX12_goesByLot_39 : decode cX12_goesByLot 39 = .ok (.irem, 1) := by decide +kernel
theorem dX12_goesByLot_40 : decode cX12_goesByLot 40 = .ok (.istore_n 3, 1) := by decide +kernel
theorem dX12_goesByLot_41 : decode cX12_goesByLot 41 = .ok (.iconst 0, 1) := by decide +kernel
theorem dX12_goesByLot_42 : decode cX12_goesByLot 42 = .ok (.istore 4, 2) := by decide +kernel
theorem dX12_goesByLot_44 : decode cX12_goesByLot 44 = .ok (.iload 4, 2) := by decide +kernel
theorem dX12_goesByLot_46 : decode cX12_goesByLot 46 = .ok (.iconst 4, 1) := by decide +kernel
theorem dX12_goesByLot_47 : decode cX12_goesByLot 47 = .ok (.if_icmp .ge 40, 3) := by decide +kernel
theorem dX12_goesByLot_50 : decode cX12_goesByLot 50 = .ok (.aload_n 0, 1) := by decide +kernel
theorem dX12_goesByLot_51 : decode cX12_goesByLot 51 = .ok (.iload 4, 2) := by decide +kernel
theorem dX12_goesByLot_53 : decode cX12_goesByLot 53 = .ok (.invokevirtual 434, 3) := by decide +kernel
theorem dX12_goesByLot_56 : decode cX12_goesByLot 56 = .ok (.istore 5, 2) := by decide +kernel
theorem dX12_goesByLot_58 : decode cX12_goesByLot 58 = .ok (.iload 5, 2) := by decide +kernel
theorem dX12_goesByLot_60 : decode cX12_goesByLot 60 = .ok (.iconst (-1), 1) := by decide +kernel
theorem dX12_goesByLot_61 : decode cX12_goesByLot 61 = .ok (.if_icmp .ne 6, 3) := by decide +kernel
theorem dX12_goesByLot_64 : decode cX12_goesByLot 64 = .ok (.goto 17, 3) := by decide +kernel
theorem dX12_goesByLot_67 : decode cX12_goesByLot 67 = .ok (.iload_n 3, 1) := by decide +kernel
theorem dX12_goesByLot_68 : decode cX12_goesByLot 68 = .ok (.ifCond .ne 10, 3) := by decide +kernel
theorem dX12_goesByLot_71 : decode cX12_goesByLot 71 = .ok (.aload_n 0, 1) := by decide +kernel
theorem dX12_goesByLot_72 : decode cX12_goesByLot 72 = .ok (.iload 5, 2) := by decide +kernel
theorem dX12_goesByLot_74 : decode cX12_goesByLot 74 = .ok (.putfield 412, 3) := by decide +kernel
theorem dX12_goesByLot_77 : decode cX12_goesByLot 77 = .ok (.return_, 1) := by decide +kernel
theorem dX12_goesByLot_78 : decode cX12_goesByLot 78 = .ok (.iinc 3 (-1), 3) := by decide +kernel
theorem dX12_goesByLot_81 : decode cX12_goesByLot 81 = .ok (.iinc 4 1, 3) := by decide +kernel
theorem dX12_goesByLot_84 : decode cX12_goesByLot 84 = .ok (.goto (-40), 3) := by decide +kernel
theorem dX12_goesByLot_87 : decode cX12_goesByLot 87 = .ok (.return_, 1) := by decide +kernel
theorem dX12_walks_0 : decode cX12_walks 0 = .ok (.aload_n 0, 1) := by decide +kernel
theorem dX12_walks_1 : decode cX12_walks 1 = .ok (.bipush (-2), 2) := by decide +kernel
theorem dX12_walks_3 : decode cX12_walks 3 = .ok (.putfield 440, 3) := by decide +kernel
theorem dX12_walks_6 : decode cX12_walks 6 = .ok (.iconst 0, 1) := by decide +kernel
theorem dX12_walks_7 : decode cX12_walks 7 = .ok (.istore_n 2, 1) := by decide +kernel
theorem dX12_walks_8 : decode cX12_walks 8 = .ok (.iload_n 2, 1) := by decide +kernel
theorem dX12_walks_9 : decode cX12_walks 9 = .ok (.sipush 200, 3) := by decide +kernel
theorem dX12_walks_12 : decode cX12_walks 12 = .ok (.if_icmp .gt 17, 3) := by decide +kernel
theorem dX12_walks_15 : decode cX12_walks 15 = .ok (.aload_n 0, 1) := by decide +kernel
theorem dX12_walks_16 : decode cX12_walks 16 = .ok (.getfield 33, 3) := by decide +kernel
theorem dX12_walks_19 : decode cX12_walks 19 = .ok (.iload_n 2, 1) := by decide +kernel
theorem dX12_walks_20 : decode cX12_walks 20 = .ok (.bipush (-2), 2) := by decide +kernel
theorem dX12_walks_22 : decode cX12_walks 22 = .ok (.iastore, 1) := by decide +kernel
theorem dX12_walks_23 : decode cX12_walks 23 = .ok (.iinc 2 1, 3) := by decide +kernel
theorem dX12_walks_26 : decode cX12_walks 26 = .ok (.goto (-18), 3) := by decide +kernel
theorem dX12_walks_29 : decode cX12_walks 29 = .ok (.aload_n 0, 1) := by decide +kernel
theorem dX12_walks_30 : decode cX12_walks 30 = .ok (.iload_n 1, 1) := by decide +kernel
theorem dX12_walks_31 : decode cX12_walks 31 = .ok (.invokevirtual 443, 3) := by decide +kernel
theorem dX12_walks_34 : decode cX12_walks 34 = .ok (.aload_n 0, 1) := by decide +kernel
theorem dX12_walks_35 : decode cX12_walks 35 = .ok (.getfield 355, 3) := by decide +kernel
theorem dX12_walks_38 : decode cX12_walks 38 = .ok (.getfield 346, 3) := by decide +kernel
theorem dX12_walks_41 : decode cX12_walks 41 = .ok (.iload_n 1, 1) := by decide +kernel
theorem dX12_walks_42 : decode cX12_walks 42 = .ok (.iaload, 1) := by decide +kernel
theorem dX12_walks_43 : decode cX12_walks 43 = .ok (.istore_n 2, 1) := by decide +kernel
theorem dX12_walks_44 : decode cX12_walks 44 = .ok (.iload_n 2, 1) := by decide +kernel
theorem dX12_walks_45 : decode cX12_walks 45 = .ok (.aload_n 0, 1) := by decide +kernel
theorem dX12_walks_46 : decode cX12_walks 46 = .ok (.getfield 355, 3) := by decide +kernel
theorem dX12_walks_49 : decode cX12_walks 49 = .ok (.getfield 237, 3) := by decide +kernel
theorem dX12_walks_52 : decode cX12_walks 52 = .ok (.if_icmp .gt 62, 3) := by decide +kernel
theorem dX12_walks_55 : decode cX12_walks 55 = .ok (.aload_n 0, 1) := by decide +kernel
theorem dX12_walks_56 : decode cX12_walks 56 = .ok (.getfield 440, 3) := by decide +kernel
theorem dX12_walks_59 : decode cX12_walks 59 = .ok (.bipush (-2), 2) := by decide +kernel
theorem dX12_walks_61 : decode cX12_walks 61 = .ok (.if_icmp .ne 53, 3) := by decide +kernel
theorem dX12_walks_64 : decode cX12_walks 64 = .ok (.iload_n 2, 1) := by decide +kernel
theorem dX12_walks_65 : decode cX12_walks 65 = .ok (.aload_n 0, 1) := by decide +kernel
theorem dX12_walks_66 : decode cX12_walks 66 = .ok (.getfield 355, 3) := by decide +kernel
theorem dX12_walks_69 : decode cX12_walks 69 = .ok (.getfield 346, 3) := by decide +kernel
theorem dX12_walks_72 : decode cX12_walks 72 = .ok (.iload_n 1, 1) := by decide +kernel
theorem dX12_walks_73 : decode cX12_walks 73 = .ok (.iaload, 1) := by decide +kernel
theorem dX12_walks_74 : decode cX12_walks 74 = .ok (.if_icmp .le 8, 3) := by decide +kernel
theorem dX12_walks_77 : decode cX12_walks 77 = .ok (.aload_n 0, 1) := by decide +kernel
theorem dX12_walks_78 : decode cX12_walks 78 = .ok (.iload_n 1, 1) := by decide +kernel
theorem dX12_walks_79 : decode cX12_walks 79 = .ok (.invokevirtual 446, 3) := by decide +kernel
theorem dX12_walks_82 : decode cX12_walks 82 = .ok (.aload_n 0, 1) := by decide +kernel
theorem dX12_walks_83 : decode cX12_walks 83 = .ok (.getfield 33, 3) := by decide +kernel
theorem dX12_walks_86 : decode cX12_walks 86 = .ok (.iload_n 2, 1) := by decide +kernel
theorem dX12_walks_87 : decode cX12_walks 87 = .ok (.aload_n 0, 1) := by decide +kernel
theorem dX12_walks_88 : decode cX12_walks 88 = .ok (.getfield 412, 3) := by decide +kernel
theorem dX12_walks_91 : decode cX12_walks 91 = .ok (.iastore, 1) := by decide +kernel
theorem dX12_walks_92 : decode cX12_walks 92 = .ok (.aload_n 0, 1) := by decide +kernel
theorem dX12_walks_93 : decode cX12_walks 93 = .ok (.aload_n 0, 1) := by decide +kernel
theorem dX12_walks_94 : decode cX12_walks 94 = .ok (.getfield 412, 3) := by decide +kernel
theorem dX12_walks_97 : decode cX12_walks 97 = .ok (.invokevirtual 449, 3) := by decide +kernel
theorem dX12_walks_100 : decode cX12_walks 100 = .ok (.ifCond .eq 8, 3) := by decide +kernel
theorem dX12_walks_103 : decode cX12_walks 103 = .ok (.aload_n 0, 1) := by decide +kernel
theorem dX12_walks_104 : decode cX12_walks 104 = .ok (.iload_n 2, 1) := by decide +kernel
theorem dX12_walks_105 : decode cX12_walks 105 = .ok (.putfield 440, 3) := by decide +kernel
theorem dX12_walks_108 : decode cX12_walks 108 = .ok (.iinc 2 1, 3) := by decide +kernel
theorem dX12_walks_111 : decode cX12_walks 111 = .ok (.goto (-67), 3) := by decide +kernel
theorem dX12_walks_114 : decode cX12_walks 114 = .ok (.return_, 1) := by decide +kernel
theorem dX12_there_0 : decode cX12_there 0 = .ok (.aload_n 0, 1) := by decide +kernel
theorem dX12_there_1 : decode cX12_there 1 = .ok (.getfield 440, 3) := by decide +kernel
theorem dX12_there_4 : decode cX12_there 4 = .ok (.bipush (-2), 2) := by decide +kernel
theorem dX12_there_6 : decode cX12_there 6 = .ok (.if_icmp .ne 13, 3) := by decide +kernel
theorem dX12_there_9 : decode cX12_there 9 = .ok (.aload_n 0, 1) := by decide +kernel
theorem dX12_there_10 : decode cX12_there 10 = .ok (.getfield 355, 3) := by decide +kernel
theorem dX12_there_13 : decode cX12_there 13 = .ok (.getfield 237, 3) := by decide +kernel
theorem dX12_there_16 : decode cX12_there 16 = .ok (.goto 7, 3) := by decide +kernel
theorem dX12_there_19 : decode cX12_there 19 = .ok (.aload_n 0, 1) := by decide +kernel
theorem dX12_there_20 : decode cX12_there 20 = .ok (.getfield 440, 3) := by decide +kernel
theorem dX12_there_23 : decode cX12_there 23 = .ok (.aload_n 0, 1) := by decide +kernel
theorem dX12_there_24 : decode cX12_there 24 = .ok (.getfield 355, 3) := by decide +kernel
theorem dX12_there_27 : decode cX12_there 27 = .ok (.getfield 346, 3) := by decide +kernel
theorem dX12_there_30 : decode cX12_there 30 = .ok (.iload_n 1, 1) := by decide +kernel
theorem dX12_there_31 : decode cX12_there 31 = .ok (.iaload, 1) := by decide +kernel
theorem dX12_there_32 : decode cX12_there 32 = .ok (.isub, 1) := by decide +kernel
theorem dX12_there_33 : decode cX12_there 33 = .ok (.istore_n 2, 1) := by decide +kernel
theorem dX12_there_34 : decode cX12_there 34 = .ok (.iload_n 2, 1) := by decide +kernel
theorem dX12_there_35 : decode cX12_there 35 = .ok (.ifCond .ge 7, 3) := by decide +kernel
theorem dX12_there_38 : decode cX12_there 38 = .ok (.iconst 0, 1) := by decide +kernel
theorem dX12_there_39 : decode cX12_there 39 = .ok (.goto 4, 3) := by decide +kernel
theorem dX12_there_42 : decode cX12_there 42 = .ok (.iload_n 2, 1) := by decide +kernel
theorem dX12_there_43 : decode cX12_there 43 = .ok (.ireturn, 1) := by decide +kernel
theorem dX12_at_0 : decode cX12_at 0 = .ok (.aload_n 0, 1) := by decide +kernel
theorem dX12_at_1 : decode cX12_at 1 = .ok (.iconst 0, 1) := by decide +kernel
theorem dX12_at_2 : decode cX12_at 2 = .ok (.putfield 62, 3) := by decide +kernel
theorem dX12_at_5 : decode cX12_at 5 = .ok (.aload_n 0, 1) := by decide +kernel
theorem dX12_at_6 : decode cX12_at 6 = .ok (.iload_n 1, 1) := by decide +kernel
theorem dX12_at_7 : decode cX12_at 7 = .ok (.invokevirtual 452, 3) := by decide +kernel
theorem dX12_at_10 : decode cX12_at 10 = .ok (.ifCond .ne 9, 3) := by decide +kernel
theorem dX12_at_13 : decode cX12_at 13 = .ok (.aload_n 0, 1) := by decide +kernel
theorem dX12_at_14 : decode cX12_at 14 = .ok (.iconst 1, 1) := by decide +kernel
theorem dX12_at_15 : decode cX12_at 15 = .ok (.invokevirtual 68, 3) := by decide +kernel
theorem dX12_at_18 : decode cX12_at 18 = .ok (.ireturn, 1) := by decide +kernel
theorem dX12_at_19 : decode cX12_at 19 = .ok (.iload_n 2, 1) := by decide +kernel
theorem dX12_at_20 : decode cX12_at 20 = .ok (.iconst 0, 1) := by decide +kernel
theorem dX12_at_21 : decode cX12_at 21 = .ok (.aload_n 0, 1) := by decide +kernel
theorem dX12_at_22 : decode cX12_at 22 = .ok (.getfield 355, 3) := by decide +kernel
theorem dX12_at_25 : decode cX12_at 25 = .ok (.getfield 237, 3) := by decide +kernel
theorem dX12_at_28 : decode cX12_at 28 = .ok (.invokestatic 147, 3) := by decide +kernel
theorem dX12_at_31 : decode cX12_at 31 = .ok (.ifCond .ne 9, 3) := by decide +kernel
theorem dX12_at_34 : decode cX12_at 34 = .ok (.aload_n 0, 1) := by decide +kernel
theorem dX12_at_35 : decode cX12_at 35 = .ok (.iconst 2, 1) := by decide +kernel
theorem dX12_at_36 : decode cX12_at 36 = .ok (.invokevirtual 68, 3) := by decide +kernel
theorem dX12_at_39 : decode cX12_at 39 = .ok (.ireturn, 1) := by decide +kernel
theorem dX12_at_40 : decode cX12_at 40 = .ok (.aload_n 0, 1) := by decide +kernel
theorem dX12_at_41 : decode cX12_at 41 = .ok (.iload_n 1, 1) := by decide +kernel
theorem dX12_at_42 : decode cX12_at 42 = .ok (.invokevirtual 455, 3) := by decide +kernel
theorem dX12_at_45 : decode cX12_at 45 = .ok (.aload_n 0, 1) := by decide +kernel
theorem dX12_at_46 : decode cX12_at 46 = .ok (.aload_n 0, 1) := by decide +kernel
theorem dX12_at_47 : decode cX12_at 47 = .ok (.getfield 33, 3) := by decide +kernel
theorem dX12_at_50 : decode cX12_at 50 = .ok (.iload_n 2, 1) := by decide +kernel
theorem dX12_at_51 : decode cX12_at 51 = .ok (.iaload, 1) := by decide +kernel
theorem dX12_at_52 : decode cX12_at 52 = .ok (.invokevirtual 72, 3) := by decide +kernel
theorem dX12_at_55 : decode cX12_at 55 = .ok (.ireturn, 1) := by decide +kernel
theorem dX12_out_0 : decode cX12_out 0 = .ok (.aload_n 0, 1) := by decide +kernel
theorem dX12_out_1 : decode cX12_out 1 = .ok (.iconst 0, 1) := by decide +kernel
theorem dX12_out_2 : decode cX12_out 2 = .ok (.putfield 62, 3) := by decide +kernel
theorem dX12_out_5 : decode cX12_out 5 = .ok (.aload_n 0, 1) := by decide +kernel
theorem dX12_out_6 : decode cX12_out 6 = .ok (.iload_n 1, 1) := by decide +kernel
theorem dX12_out_7 : decode cX12_out 7 = .ok (.invokevirtual 452, 3) := by decide +kernel
theorem dX12_out_10 : decode cX12_out 10 = .ok (.ifCond .ne 9, 3) := by decide +kernel
theorem dX12_out_13 : decode cX12_out 13 = .ok (.aload_n 0, 1) := by decide +kernel
theorem dX12_out_14 : decode cX12_out 14 = .ok (.iconst 1, 1) := by decide +kernel
theorem dX12_out_15 : decode cX12_out 15 = .ok (.invokevirtual 68, 3) := by decide +kernel
theorem dX12_out_18 : decode cX12_out 18 = .ok (.ireturn, 1) := by decide +kernel
theorem dX12_out_19 : decode cX12_out 19 = .ok (.aload_n 0, 1) := by decide +kernel
theorem dX12_out_20 : decode cX12_out 20 = .ok (.iload_n 1, 1) := by decide +kernel
theorem dX12_out_21 : decode cX12_out 21 = .ok (.invokevirtual 455, 3) := by decide +kernel
theorem dX12_out_24 : decode cX12_out 24 = .ok (.aload_n 0, 1) := by decide +kernel
theorem dX12_out_25 : decode cX12_out 25 = .ok (.aload_n 0, 1) := by decide +kernel
theorem dX12_out_26 : decode cX12_out 26 = .ok (.getfield 440, 3) := by decide +kernel
theorem dX12_out_29 : decode cX12_out 29 = .ok (.invokevirtual 72, 3) := by decide +kernel
theorem dX12_out_32 : decode cX12_out 32 = .ok (.ireturn, 1) := by decide +kernel
theorem dX12_ringOf_0 : decode cX12_ringOf 0 = .ok (.aload_n 0, 1) := by decide +kernel
theorem dX12_ringOf_1 : decode cX12_ringOf 1 = .ok (.iload_n 1, 1) := by decide +kernel
theorem dX12_ringOf_2 : decode cX12_ringOf 2 = .ok (.invokevirtual 443, 3) := by decide +kernel
theorem dX12_ringOf_5 : decode cX12_ringOf 5 = .ok (.iconst 0, 1) := by decide +kernel
theorem dX12_ringOf_6 : decode cX12_ringOf 6 = .ok (.istore_n 2, 1) := by decide +kernel
theorem dX12_ringOf_7 : decode cX12_ringOf 7 = .ok (.iload_n 2, 1) := by decide +kernel
theorem dX12_ringOf_8 : decode cX12_ringOf 8 = .ok (.aload_n 0, 1) := by decide +kernel
theorem dX12_ringOf_9 : decode cX12_ringOf 9 = .ok (.getfield 39, 3) := by decide +kernel
theorem dX12_ringOf_12 : decode cX12_ringOf 12 = .ok (.arraylength, 1) := by decide +kernel
theorem dX12_ringOf_13 : decode cX12_ringOf 13 = .ok (.if_icmp .ge 17, 3) := by decide +kernel
theorem dX12_ringOf_16 : decode cX12_ringOf 16 = .ok (.aload_n 0, 1) := by decide +kernel
theorem dX12_ringOf_17 : decode cX12_ringOf 17 = .ok (.getfield 39, 3) := by decide +kernel
theorem dX12_ringOf_20 : decode cX12_ringOf 20 = .ok (.iload_n 2, 1) := by decide +kernel
theorem dX12_ringOf_21 : decode cX12_ringOf 21 = .ok (.bipush (-2), 2) := by decide +kernel
theorem dX12_ringOf_23 : decode cX12_ringOf 23 = .ok (.iastore, 1) := by decide +kernel
theorem dX12_ringOf_24 : decode cX12_ringOf 24 = .ok (.iinc 2 1, 3) := by decide +kernel
theorem dX12_ringOf_27 : decode cX12_ringOf 27 = .ok (.goto (-20), 3) := by decide +kernel
theorem dX12_ringOf_30 : decode cX12_ringOf 30 = .ok (.aload_n 0, 1) := by decide +kernel
theorem dX12_ringOf_31 : decode cX12_ringOf 31 = .ok (.getfield 355, 3) := by decide +kernel
theorem dX12_ringOf_34 : decode cX12_ringOf 34 = .ok (.getfield 338, 3) := by decide +kernel
theorem dX12_ringOf_37 : decode cX12_ringOf 37 = .ok (.iload_n 1, 1) := by decide +kernel
theorem dX12_ringOf_38 : decode cX12_ringOf 38 = .ok (.iaload, 1) := by decide +kernel
theorem dX12_ringOf_39 : decode cX12_ringOf 39 = .ok (.istore_n 2, 1) := by decide +kernel
theorem dX12_ringOf_40 : decode cX12_ringOf 40 = .ok (.iconst 0, 1) := by decide +kernel
theorem dX12_ringOf_41 : decode cX12_ringOf 41 = .ok (.istore_n 3, 1) := by decide +kernel
theorem dX12_ringOf_42 : decode cX12_ringOf 42 = .ok (.iload_n 3, 1) := by decide +kernel
theorem dX12_ringOf_43 : decode cX12_ringOf 43 = .ok (.sipush 196, 3) := by decide +kernel
theorem dX12_ringOf_46 : decode cX12_ringOf 46 = .ok (.if_icmp .gt 75, 3) := by decide +kernel
theorem dX12_ringOf_49 : decode cX12_ringOf 49 = .ok (.aload_n 0, 1) := by decide +kernel
theorem dX12_ringOf_50 : decode cX12_ringOf 50 = .ok (.aload_n 0, 1) := by decide +kernel
theorem dX12_ringOf_51 : decode cX12_ringOf 51 = .ok (.getfield 412, 3) := by decide +kernel
theorem dX12_ringOf_54 : decode cX12_ringOf 54 = .ok (.invokevirtual 449, 3) := by decide +kernel
theorem dX12_ringOf_57 : decode cX12_ringOf 57 = .ok (.ifCond .eq 5, 3) := by decide +kernel
theorem dX12_ringOf_60 : decode cX12_ringOf 60 = .ok (.iconst 0, 1) := by decide +kernel
theorem dX12_ringOf_61 : decode cX12_ringOf 61 = .ok (.ireturn, 1) := by decide +kernel
theorem dX12_ringOf_62 : decode cX12_ringOf 62 = .ok (.iconst 4, 1) := by decide +kernel
theorem dX12_ringOf_63 : decode cX12_ringOf 63 = .ok (.aload_n 0, 1) := by decide +kernel
theorem dX12_ringOf_64 : decode cX12_ringOf 64 = .ok (.getfield 412, 3) := by decide +kernel
theorem dX12_ringOf_67 : decode cX12_ringOf 67 = .ok (.imul, 1) := by decide +kernel
theorem dX12_ringOf_68 : decode cX12_ringOf 68 = .ok (.aload_n 0, 1) := by decide +kernel
theorem dX12_ringOf_69 : decode cX12_ringOf 69 = .ok (.getfield 415, 3) := by decide +kernel
theorem dX12_ringOf_72 : decode cX12_ringOf 72 = .ok (.iadd, 1) := by decide +kernel
theorem dX12_ringOf_73 : decode cX12_ringOf 73 = .ok (.istore 4, 2) := by decide +kernel
theorem dX12_ringOf_75 : decode cX12_ringOf 75 = .ok (.iload_n 2, 1) := by decide +kernel
theorem dX12_ringOf_76 : decode cX12_ringOf 76 = .ok (.iconst 2, 1) := by decide +kernel
theorem dX12_ringOf_77 : decode cX12_ringOf 77 = .ok (.if_icmp .ge 25, 3) := by decide +kernel
theorem dX12_ringOf_80 : decode cX12_ringOf 80 = .ok (.aload_n 0, 1) := by decide +kernel
theorem dX12_ringOf_81 : decode cX12_ringOf 81 = .ok (.getfield 39, 3) := by decide +kernel
theorem dX12_ringOf_84 : decode cX12_ringOf 84 = .ok (.iload 4, 2) := by decide +kernel
theorem dX12_ringOf_86 : decode cX12_ringOf 86 = .ok (.iaload, 1) := by decide +kernel
theorem dX12_ringOf_87 : decode cX12_ringOf 87 = .ok (.bipush (-2), 2) := by decide +kernel
theorem dX12_ringOf_89 : decode cX12_ringOf 89 = .ok (.if_icmp .eq 13, 3) := by decide +kernel
theorem dX12_ringOf_92 : decode cX12_ringOf 92 = .ok (.iload_n 3, 1) := by decide +kernel
theorem dX12_ringOf_93 : decode cX12_ringOf 93 = .ok (.aload_n 0, 1) := by decide +kernel
theorem dX12_ringOf_94 : decode cX12_ringOf 94 = .ok (.getfield 39, 3) := by decide +kernel
theorem dX12_ringOf_97 : decode cX12_ringOf 97 = .ok (.iload 4, 2) := by decide +kernel
theorem dX12_ringOf_99 : decode cX12_ringOf 99 = .ok (.iaload, 1) := by decide +kernel
theorem dX12_ringOf_100 : decode cX12_ringOf 100 = .ok (.isub, 1) := by decide +kernel
theorem dX12_ringOf_101 : decode cX12_ringOf 101 = .ok (.ireturn, 1) := by decide +kernel
theorem dX12_ringOf_102 : decode cX12_ringOf 102 = .ok (.aload_n 0, 1) := by decide +kernel
theorem dX12_ringOf_103 : decode cX12_ringOf 103 = .ok (.getfield 39, 3) := by decide +kernel
theorem dX12_ringOf_106 : decode cX12_ringOf 106 = .ok (.iload 4, 2) := by decide +kernel
theorem dX12_ringOf_108 : decode cX12_ringOf 108 = .ok (.iload_n 3, 1) := by decide +kernel
theorem dX12_ringOf_109 : decode cX12_ringOf 109 = .ok (.iastore, 1) := by decide +kernel
theorem dX12_ringOf_110 : decode cX12_ringOf 110 = .ok (.aload_n 0, 1) := by decide +kernel
theorem dX12_ringOf_111 : decode cX12_ringOf 111 = .ok (.iload_n 1, 1) := by decide +kernel
theorem dX12_ringOf_112 : decode cX12_ringOf 112 = .ok (.invokevirtual 446, 3) := by decide +kernel
theorem dX12_ringOf_115 : decode cX12_ringOf 115 = .ok (.iinc 3 1, 3) := by decide +kernel
theorem dX12_ringOf_118 : decode cX12_ringOf 118 = .ok (.goto (-76), 3) := by decide +kernel
theorem dX12_ringOf_121 : decode cX12_ringOf 121 = .ok (.iconst 1, 1) := by decide +kernel
theorem dX12_ringOf_122 : decode cX12_ringOf 122 = .ok (.ireturn, 1) := by decide +kernel
theorem dX12_ever_0 : decode cX12_ever 0 = .ok (.aload_n 0, 1) := by decide +kernel
theorem dX12_ever_1 : decode cX12_ever 1 = .ok (.iconst 0, 1) := by decide +kernel
theorem dX12_ever_2 : decode cX12_ever 2 = .ok (.putfield 62, 3) := by decide +kernel
theorem dX12_ever_5 : decode cX12_ever 5 = .ok (.aload_n 0, 1) := by decide +kernel
theorem dX12_ever_6 : decode cX12_ever 6 = .ok (.iload_n 1, 1) := by decide +kernel
theorem dX12_ever_7 : decode cX12_ever 7 = .ok (.invokevirtual 452, 3) := by decide +kernel
theorem dX12_ever_10 : decode cX12_ever 10 = .ok (.ifCond .ne 9, 3) := by decide +kernel
theorem dX12_ever_13 : decode cX12_ever 13 = .ok (.aload_n 0, 1) := by decide +kernel
theorem dX12_ever_14 : decode cX12_ever 14 = .ok (.iconst 1, 1) := by decide +kernel
theorem dX12_ever_15 : decode cX12_ever 15 = .ok (.invokevirtual 68, 3) := by decide +kernel
theorem dX12_ever_18 : decode cX12_ever 18 = .ok (.ireturn, 1) := by decide +kernel
theorem dX12_ever_19 : decode cX12_ever 19 = .ok (.aload_n 0, 1) := by decide +kernel
theorem dX12_ever_20 : decode cX12_ever 20 = .ok (.getfield 355, 3) := by decide +kernel
theorem dX12_ever_23 : decode cX12_ever 23 = .ok (.getfield 338, 3) := by decide +kernel
theorem dX12_ever_26 : decode cX12_ever 26 = .ok (.iload_n 1, 1) := by decide +kernel
theorem dX12_ever_27 : decode cX12_ever 27 = .ok (.iaload, 1) := by decide +kernel
theorem dX12_ever_28 : decode cX12_ever 28 = .ok (.iconst 4, 1) := by decide +kernel
theorem dX12_ever_29 : decode cX12_ever 29 = .ok (.if_icmp .ne 11, 3) := by decide +kernel
theorem dX12_ever_32 : decode cX12_ever 32 = .ok (.aload_n 0, 1) := by decide +kernel
theorem dX12_ever_33 : decode cX12_ever 33 = .ok (.iconst 5, 1) := by decide +kernel
theorem dX12_ever_34 : decode cX12_ever 34 = .ok (.invokevirtual 68, 3) := by decide +kernel
theorem dX12_ever_37 : decode cX12_ever 37 = .ok (.goto 20, 3) := by decide +kernel
theorem dX12_ever_40 : decode cX12_ever 40 = .ok (.aload_n 0, 1) := by decide +kernel
theorem dX12_ever_41 : decode cX12_ever 41 = .ok (.aload_n 0, 1) := by decide +kernel
theorem dX12_ever_42 : decode cX12_ever 42 = .ok (.iload_n 1, 1) := by decide +kernel
theorem dX12_ever_43 : decode cX12_ever 43 = .ok (.invokevirtual 458, 3) := by decide +kernel
theorem dX12_ever_46 : decode cX12_ever 46 = .ok (.ifCond .ne 7, 3) := by decide +kernel
theorem dX12_ever_49 : decode cX12_ever 49 = .ok (.iconst 1, 1) := by decide +kernel
theorem dX12_ever_50 : decode cX12_ever 50 = .ok (.goto 4, 3) := by decide +kernel
theorem dX12_ever_53 : decode cX12_ever 53 = .ok (.iconst 0, 1) := by decide +kernel
theorem dX12_ever_54 : decode cX12_ever 54 = .ok (.invokevirtual 72, 3) := by decide +kernel
theorem dX12_ever_57 : decode cX12_ever 57 = .ok (.ireturn, 1) := by decide +kernel
theorem dX12_ring_0 : decode cX12_ring 0 = .ok (.aload_n 0, 1) := by decide +kernel
theorem dX12_ring_1 : decode cX12_ring 1 = .ok (.iconst 0, 1) := by decide +kernel
theorem dX12_ring_2 : decode cX12_ring 2 = .ok (.putfield 62, 3) := by decide +kernel
theorem dX12_ring_5 : decode cX12_ring 5 = .ok (.aload_n 0, 1) := by decide +kernel
theorem dX12_ring_6 : decode cX12_ring 6 = .ok (.iload_n 1, 1) := by decide +kernel
theorem dX12_ring_7 : decode cX12_ring 7 = .ok (.invokevirtual 452, 3) := by decide +kernel
theorem dX12_ring_10 : decode cX12_ring 10 = .ok (.ifCond .ne 9, 3) := by decide +kernel
theorem dX12_ring_13 : decode cX12_ring 13 = .ok (.aload_n 0, 1) := by decide +kernel
theorem dX12_ring_14 : decode cX12_ring 14 = .ok (.iconst 1, 1) := by decide +kernel
theorem dX12_ring_15 : decode cX12_ring 15 = .ok (.invokevirtual 68, 3) := by decide +kernel
theorem dX12_ring_18 : decode cX12_ring 18 = .ok (.ireturn, 1) := by decide +kernel
theorem dX12_ring_19 : decode cX12_ring 19 = .ok (.aload_n 0, 1) := by decide +kernel
theorem dX12_ring_20 : decode cX12_ring 20 = .ok (.getfield 355, 3) := by decide +kernel
theorem dX12_ring_23 : decode cX12_ring 23 = .ok (.getfield 338, 3) := by decide +kernel
theorem dX12_ring_26 : decode cX12_ring 26 = .ok (.iload_n 1, 1) := by decide +kernel
theorem dX12_ring_27 : decode cX12_ring 27 = .ok (.iaload, 1) := by decide +kernel
theorem dX12_ring_28 : decode cX12_ring 28 = .ok (.iconst 4, 1) := by decide +kernel
theorem dX12_ring_29 : decode cX12_ring 29 = .ok (.if_icmp .ne 9, 3) := by decide +kernel
theorem dX12_ring_32 : decode cX12_ring 32 = .ok (.aload_n 0, 1) := by decide +kernel
theorem dX12_ring_33 : decode cX12_ring 33 = .ok (.iconst 5, 1) := by decide +kernel
theorem dX12_ring_34 : decode cX12_ring 34 = .ok (.invokevirtual 68, 3) := by decide +kernel
theorem dX12_ring_37 : decode cX12_ring 37 = .ok (.ireturn, 1) := by decide +kernel
theorem dX12_ring_38 : decode cX12_ring 38 = .ok (.aload_n 0, 1) := by decide +kernel
theorem dX12_ring_39 : decode cX12_ring 39 = .ok (.iload_n 1, 1) := by decide +kernel
theorem dX12_ring_40 : decode cX12_ring 40 = .ok (.invokevirtual 458, 3) := by decide +kernel
theorem dX12_ring_43 : decode cX12_ring 43 = .ok (.istore_n 2, 1) := by decide +kernel
theorem dX12_ring_44 : decode cX12_ring 44 = .ok (.iload_n 2, 1) := by decide +kernel
theorem dX12_ring_45 : decode cX12_ring 45 = .ok (.ifCond .ne 12, 3) := by decide +kernel
theorem dX12_ring_48 : decode cX12_ring 48 = .ok (.aload_n 0, 1) := by decide +kernel
theorem dX12_ring_49 : decode cX12_ring 49 = .ok (.bipush 6, 2) := by decide +kernel
theorem dX12_ring_51 : decode cX12_ring 51 = .ok (.invokevirtual 68, 3) := by decide +kernel
theorem dX12_ring_54 : decode cX12_ring 54 = .ok (.goto 8, 3) := by decide +kernel
theorem dX12_ring_57 : decode cX12_ring 57 = .ok (.aload_n 0, 1) := by decide +kernel
theorem dX12_ring_58 : decode cX12_ring 58 = .ok (.iload_n 2, 1) := by decide +kernel
theorem dX12_ring_59 : decode cX12_ring 59 = .ok (.invokevirtual 72, 3) := by decide +kernel
theorem dX12_ring_62 : decode cX12_ring 62 = .ok (.ireturn, 1) := by decide +kernel
theorem dX12_meets_0 : decode cX12_meets 0 = .ok (.aload_n 0, 1) := by decide +kernel
theorem dX12_meets_1 : decode cX12_meets 1 = .ok (.iconst 0, 1) := by decide +kernel
theorem dX12_meets_2 : decode cX12_meets 2 = .ok (.putfield 62, 3) := by decide +kernel
theorem dX12_meets_5 : decode cX12_meets 5 = .ok (.aload_n 0, 1) := by decide +kernel
theorem dX12_meets_6 : decode cX12_meets 6 = .ok (.iload_n 1, 1) := by decide +kernel
theorem dX12_meets_7 : decode cX12_meets 7 = .ok (.invokevirtual 452, 3) := by decide +kernel
theorem dX12_meets_10 : decode cX12_meets 10 = .ok (.ifCond .eq 16, 3) := by decide +kernel
theorem dX12_meets_13 : decode cX12_meets 13 = .ok (.aload_n 0, 1) := by decide +kernel
theorem dX12_meets_14 : decode cX12_meets 14 = .ok (.iload_n 2, 1) := by decide +kernel
theorem dX12_meets_15 : decode cX12_meets 15 = .ok (.invokevirtual 452, 3) := by decide +kernel
theorem dX12_meets_18 : decode cX12_meets 18 = .ok (.ifCond .eq 8, 3) := by decide +kernel
theorem dX12_meets_21 : decode cX12_meets 21 = .ok (.iload_n 1, 1) := by decide +kernel
theorem dX12_meets_22 : decode cX12_meets 22 = .ok (.iload_n 2, 1) := by decide +kernel
theorem dX12_meets_23 : decode cX12_meets 23 = .ok (.if_icmp .ne 9, 3) := by decide +kernel
theorem dX12_meets_26 : decode cX12_meets 26 = .ok (.aload_n 0, 1) := by decide +kernel
theorem dX12_meets_27 : decode cX12_meets 27 = .ok (.iconst 1, 1) := by decide +kernel
theorem dX12_meets_28 : decode cX12_meets 28 = .ok (.invokevirtual 68, 3) := by decide +kernel
theorem dX12_meets_31 : decode cX12_meets 31 = .ok (.ireturn, 1) := by decide +kernel
theorem dX12_meets_32 : decode cX12_meets 32 = .ok (.aload_n 0, 1) := by decide +kernel
theorem dX12_meets_33 : decode cX12_meets 33 = .ok (.iload_n 1, 1) := by decide +kernel
theorem dX12_meets_34 : decode cX12_meets 34 = .ok (.invokevirtual 455, 3) := by decide +kernel
theorem dX12_meets_37 : decode cX12_meets 37 = .ok (.iconst 0, 1) := by decide +kernel
theorem dX12_meets_38 : decode cX12_meets 38 = .ok (.istore_n 3, 1) := by decide +kernel
theorem dX12_meets_39 : decode cX12_meets 39 = .ok (.iload_n 3, 1) := by decide +kernel
theorem dX12_meets_40 : decode cX12_meets 40 = .ok (.sipush 200, 3) := by decide +kernel
theorem dX12_meets_43 : decode cX12_meets 43 = .ok (.if_icmp .gt 21, 3) := by decide +kernel
theorem dX12_meets_46 : decode cX12_meets 46 = .ok (.aload_n 0, 1) := by decide +kernel
theorem dX12_meets_47 : decode cX12_meets 47 = .ok (.getfield 36, 3) := by decide +kernel
theorem dX12_meets_50 : decode cX12_meets 50 = .ok (.iload_n 3, 1) := by decide +kernel
theorem dX12_meets_51 : decode cX12_meets 51 = .ok (.aload_n 0, 1) := by decide +kernel
theorem dX12_meets_52 : decode cX12_meets 52 = .ok (.getfield 33, 3) := by decide +kernel
theorem dX12_meets_55 : decode cX12_meets 55 = .ok (.iload_n 3, 1) := by decide +kernel
theorem dX12_meets_56 : decode cX12_meets 56 = .ok (.iaload, 1) := by decide +kernel
theorem dX12_meets_57 : decode cX12_meets 57 = .ok (.iastore, 1) := by decide +kernel
theorem dX12_meets_58 : decode cX12_meets 58 = .ok (.iinc 3 1, 3) := by decide +kernel
theorem dX12_meets_61 : decode cX12_meets 61 = .ok (.goto (-22), 3) := by decide +kernel
theorem dX12_meets_64 : decode cX12_meets 64 = .ok (.aload_n 0, 1) := by decide +kernel
theorem dX12_meets_65 : decode cX12_meets 65 = .ok (.iload_n 2, 1) := by decide +kernel
theorem dX12_meets_66 : decode cX12_meets 66 = .ok (.invokevirtual 455, 3) := by decide +kernel
theorem dX12_meets_69 : decode cX12_meets 69 = .ok (.iconst 0, 1) := by decide +kernel
theorem dX12_meets_70 : decode cX12_meets 70 = .ok (.istore_n 3, 1) := by decide +kernel
theorem dX12_meets_71 : decode cX12_meets 71 = .ok (.iload_n 3, 1) := by decide +kernel
theorem dX12_meets_72 : decode cX12_meets 72 = .ok (.aload_n 0, 1) := by decide +kernel
theorem dX12_meets_73 : decode cX12_meets 73 = .ok (.getfield 355, 3) := by decide +kernel
theorem dX12_meets_76 : decode cX12_meets 76 = .ok (.getfield 237, 3) := by decide +kernel
theorem dX12_meets_79 : decode cX12_meets 79 = .ok (.if_icmp .gt 41, 3) := by decide +kernel
theorem dX12_meets_82 : decode cX12_meets 82 = .ok (.aload_n 0, 1) := by decide +kernel
theorem dX12_meets_83 : decode cX12_meets 83 = .ok (.getfield 33, 3) := by decide +kernel
theorem dX12_meets_86 : decode cX12_meets 86 = .ok (.iload_n 3, 1) := by decide +kernel
theorem dX12_meets_87 : decode cX12_meets 87 = .ok (.iaload, 1) := by decide +kernel
theorem dX12_meets_88 : decode cX12_meets 88 = .ok (.bipush (-2), 2) := by decide +kernel
theorem dX12_meets_90 : decode cX12_meets 90 = .ok (.if_icmp .eq 24, 3) := by decide +kernel
theorem dX12_meets_93 : decode cX12_meets 93 = .ok (.aload_n 0, 1) := by decide +kernel
theorem dX12_meets_94 : decode cX12_meets 94 = .ok (.getfield 33, 3) := by decide +kernel
theorem dX12_meets_97 : decode cX12_meets 97 = .ok (.iload_n 3, 1) := by decide +kernel
theorem dX12_meets_98 : decode cX12_meets 98 = .ok (.iaload, 1) := by decide +kernel
theorem dX12_meets_99 : decode cX12_meets 99 = .ok (.aload_n 0, 1) := by decide +kernel
theorem dX12_meets_100 : decode cX12_meets 100 = .ok (.getfield 36, 3) := by decide +kernel
theorem dX12_meets_103 : decode cX12_meets 103 = .ok (.iload_n 3, 1) := by decide +kernel
theorem dX12_meets_104 : decode cX12_meets 104 = .ok (.iaload, 1) := by decide +kernel
theorem dX12_meets_105 : decode cX12_meets 105 = .ok (.if_icmp .ne 9, 3) := by decide +kernel
theorem dX12_meets_108 : decode cX12_meets 108 = .ok (.aload_n 0, 1) := by decide +kernel
theorem dX12_meets_109 : decode cX12_meets 109 = .ok (.iload_n 3, 1) := by decide +kernel
theorem dX12_meets_110 : decode cX12_meets 110 = .ok (.invokevirtual 72, 3) := by decide +kernel
theorem dX12_meets_113 : decode cX12_meets 113 = .ok (.ireturn, 1) := by decide +kernel
theorem dX12_meets_114 : decode cX12_meets 114 = .ok (.iinc 3 1, 3) := by decide +kernel
theorem dX12_meets_117 : decode cX12_meets 117 = .ok (.goto (-46), 3) := by decide +kernel
theorem dX12_meets_120 : decode cX12_meets 120 = .ok (.aload_n 0, 1) := by decide +kernel
theorem dX12_meets_121 : decode cX12_meets 121 = .ok (.bipush (-2), 2) := by decide +kernel
theorem dX12_meets_123 : decode cX12_meets 123 = .ok (.invokevirtual 72, 3) := by decide +kernel
theorem dX12_meets_126 : decode cX12_meets 126 = .ok (.ireturn, 1) := by decide +kernel
theorem dX12_shouts_0 : decode cX12_shouts 0 = .ok (.aload_n 0, 1) := by decide +kernel
theorem dX12_shouts_1 : decode cX12_shouts 1 = .ok (.iconst 0, 1) := by decide +kernel
theorem dX12_shouts_2 : decode cX12_shouts 2 = .ok (.putfield 62, 3) := by decide +kernel
theorem dX12_shouts_5 : decode cX12_shouts 5 = .ok (.aload_n 0, 1) := by decide +kernel
theorem dX12_shouts_6 : decode cX12_shouts 6 = .ok (.iload_n 1, 1) := by decide +kernel
theorem dX12_shouts_7 : decode cX12_shouts 7 = .ok (.invokevirtual 452, 3) := by decide +kernel
theorem dX12_shouts_10 : decode cX12_shouts 10 = .ok (.ifCond .ne 9, 3) := by decide +kernel
theorem dX12_shouts_13 : decode cX12_shouts 13 = .ok (.aload_n 0, 1) := by decide +kernel
theorem dX12_shouts_14 : decode cX12_shouts 14 = .ok (.iconst 1, 1) := by decide +kernel
theorem dX12_shouts_15 : decode cX12_shouts 15 = .ok (.invokevirtual 68, 3) := by decide +kernel
theorem dX12_shouts_18 : decode cX12_shouts 18 = .ok (.ireturn, 1) := by decide +kernel
theorem dX12_shouts_19 : decode cX12_shouts 19 = .ok (.aload_n 0, 1) := by decide +kernel
theorem dX12_shouts_20 : decode cX12_shouts 20 = .ok (.iload_n 1, 1) := by decide +kernel
theorem dX12_shouts_21 : decode cX12_shouts 21 = .ok (.invokevirtual 455, 3) := by decide +kernel
theorem dX12_shouts_24 : decode cX12_shouts 24 = .ok (.aload_n 0, 1) := by decide +kernel
theorem dX12_shouts_25 : decode cX12_shouts 25 = .ok (.aload_n 0, 1) := by decide +kernel
theorem dX12_shouts_26 : decode cX12_shouts 26 = .ok (.iload_n 1, 1) := by decide +kernel
theorem dX12_shouts_27 : decode cX12_shouts 27 = .ok (.invokevirtual 461, 3) := by decide +kernel
theorem dX12_shouts_30 : decode cX12_shouts 30 = .ok (.invokevirtual 72, 3) := by decide +kernel
theorem dX12_shouts_33 : decode cX12_shouts 33 = .ok (.ireturn, 1) := by decide +kernel
theorem dX12_visits_0 : decode cX12_visits 0 = .ok (.aload_n 0, 1) := by decide +kernel
theorem dX12_visits_1 : decode cX12_visits 1 = .ok (.iconst 0, 1) := by decide +kernel
theorem dX12_visits_2 : decode cX12_visits 2 = .ok (.putfield 62, 3) := by decide +kernel
theorem dX12_visits_5 : decode cX12_visits 5 = .ok (.aload_n 0, 1) := by decide +kernel
theorem dX12_visits_6 : decode cX12_visits 6 = .ok (.iload_n 1, 1) := by decide +kernel
theorem dX12_visits_7 : decode cX12_visits 7 = .ok (.invokevirtual 452, 3) := by decide +kernel
theorem dX12_visits_10 : decode cX12_visits 10 = .ok (.ifCond .ne 9, 3) := by decide +kernel
theorem dX12_visits_13 : decode cX12_visits 13 = .ok (.aload_n 0, 1) := by decide +kernel
theorem dX12_visits_14 : decode cX12_visits 14 = .ok (.iconst 1, 1) := by decide +kernel
theorem dX12_visits_15 : decode cX12_visits 15 = .ok (.invokevirtual 68, 3) := by decide +kernel
theorem dX12_visits_18 : decode cX12_visits 18 = .ok (.ireturn, 1) := by decide +kernel
theorem dX12_visits_19 : decode cX12_visits 19 = .ok (.aload_n 0, 1) := by decide +kernel
theorem dX12_visits_20 : decode cX12_visits 20 = .ok (.iload_n 1, 1) := by decide +kernel
theorem dX12_visits_21 : decode cX12_visits 21 = .ok (.invokevirtual 455, 3) := by decide +kernel
theorem dX12_visits_24 : decode cX12_visits 24 = .ok (.lconst 0, 1) := by decide +kernel
theorem dX12_visits_25 : decode cX12_visits 25 = .ok (.lstore_n 2, 1) := by decide +kernel
theorem dX12_visits_26 : decode cX12_visits 26 = .ok (.iconst 0, 1) := by decide +kernel
theorem dX12_visits_27 : decode cX12_visits 27 = .ok (.istore 4, 2) := by decide +kernel
theorem dX12_visits_29 : decode cX12_visits 29 = .ok (.iload 4, 2) := by decide +kernel
theorem dX12_visits_31 : decode cX12_visits 31 = .ok (.aload_n 0, 1) := by decide +kernel
theorem dX12_visits_32 : decode cX12_visits 32 = .ok (.getfield 355, 3) := by decide +kernel
theorem dX12_visits_35 : decode cX12_visits 35 = .ok (.getfield 237, 3) := by decide +kernel
theorem dX12_visits_38 : decode cX12_visits 38 = .ok (.if_icmp .gt 33, 3) := by decide +kernel
theorem dX12_visits_41 : decode cX12_visits 41 = .ok (.aload_n 0, 1) := by decide +kernel
theorem dX12_visits_42 : decode cX12_visits 42 = .ok (.getfield 33, 3) := by decide +kernel
theorem dX12_visits_45 : decode cX12_visits 45 = .ok (.iload 4, 2) := by decide +kernel
theorem dX12_visits_47 : decode cX12_visits 47 = .ok (.iaload, 1) := by decide +kernel
theorem dX12_visits_48 : decode cX12_visits 48 = .ok (.bipush (-2), 2) := by decide +kernel
theorem dX12_visits_50 : decode cX12_visits 50 = .ok (.if_icmp .eq 15, 3) := by decide +kernel
theorem dX12_visits_53 : decode cX12_visits 53 = .ok (.lload_n 2, 1) := by decide +kernel
theorem dX12_visits_54 : decode cX12_visits 54 = .ok (.lconst 1, 1) := by decide +kernel
theorem dX12_visits_55 : decode cX12_visits 55 = .ok (.aload_n 0, 1) := by decide +kernel
theorem dX12_visits_56 : decode cX12_visits 56 = .ok (.getfield 33, 3) := by decide +kernel
theorem dX12_visits_59 : decode cX12_visits 59 = .ok (.iload 4, 2) := by decide +kernel
theorem dX12_visits_61 : decode cX12_visits 61 = .ok (.iaload, 1) := by decide +kernel
theorem dX12_visits_62 : decode cX12_visits 62 = .ok (.lshl, 1) := by decide +kernel
theorem dX12_visits_63 : decode cX12_visits 63 = .ok (.lor, 1) := by decide +kernel
theorem dX12_visits_64 : decode cX12_visits 64 = .ok (.lstore_n 2, 1) := by decide +kernel
theorem dX12_visits_65 : decode cX12_visits 65 = .ok (.iinc 4 1, 3) := by decide +kernel
theorem dX12_visits_68 : decode cX12_visits 68 = .ok (.goto (-39), 3) := by decide +kernel
theorem dX12_visits_71 : decode cX12_visits 71 = .ok (.aload_n 0, 1) := by decide +kernel
theorem dX12_visits_72 : decode cX12_visits 72 = .ok (.lload_n 2, 1) := by decide +kernel
theorem dX12_visits_73 : decode cX12_visits 73 = .ok (.invokestatic 367, 3) := by decide +kernel
theorem dX12_visits_76 : decode cX12_visits 76 = .ok (.invokevirtual 72, 3) := by decide +kernel
theorem dX12_visits_79 : decode cX12_visits 79 = .ok (.ireturn, 1) := by decide +kernel
theorem dX12_crowd_0 : decode cX12_crowd 0 = .ok (.aload_n 0, 1) := by decide +kernel
theorem dX12_crowd_1 : decode cX12_crowd 1 = .ok (.iconst 0, 1) := by decide +kernel
theorem dX12_crowd_2 : decode cX12_crowd 2 = .ok (.putfield 62, 3) := by decide +kernel
theorem dX12_crowd_5 : decode cX12_crowd 5 = .ok (.aload_n 0, 1) := by decide +kernel
theorem dX12_crowd_6 : decode cX12_crowd 6 = .ok (.getfield 355, 3) := by decide +kernel
theorem dX12_crowd_9 : decode cX12_crowd 9 = .ok (.ifnonnull 9, 3) := by decide +kernel
theorem dX12_crowd_12 : decode cX12_crowd 12 = .ok (.aload_n 0, 1) := by decide +kernel
theorem dX12_crowd_13 : decode cX12_crowd 13 = .ok (.iconst 1, 1) := by decide +kernel
theorem dX12_crowd_14 : decode cX12_crowd 14 = .ok (.invokevirtual 68, 3) := by decide +kernel
theorem dX12_crowd_17 : decode cX12_crowd 17 = .ok (.ireturn, 1) := by decide +kernel
theorem dX12_crowd_18 : decode cX12_crowd 18 = .ok (.iload_n 1, 1) := by decide +kernel
theorem dX12_crowd_19 : decode cX12_crowd 19 = .ok (.iconst 0, 1) := by decide +kernel
theorem dX12_crowd_20 : decode cX12_crowd 20 = .ok (.aload_n 0, 1) := by decide +kernel
theorem dX12_crowd_21 : decode cX12_crowd 21 = .ok (.getfield 355, 3) := by decide +kernel
theorem dX12_crowd_24 : decode cX12_crowd 24 = .ok (.getfield 237, 3) := by decide +kernel
theorem dX12_crowd_27 : decode cX12_crowd 27 = .ok (.invokestatic 147, 3) := by decide +kernel
theorem dX12_crowd_30 : decode cX12_crowd 30 = .ok (.ifCond .ne 9, 3) := by decide +kernel
theorem dX12_crowd_33 : decode cX12_crowd 33 = .ok (.aload_n 0, 1) := by decide +kernel
theorem dX12_crowd_34 : decode cX12_crowd 34 = .ok (.iconst 2, 1) := by decide +kernel
theorem dX12_crowd_35 : decode cX12_crowd 35 = .ok (.invokevirtual 68, 3) := by decide +kernel
theorem dX12_crowd_38 : decode cX12_crowd 38 = .ok (.ireturn, 1) := by decide +kernel
theorem dX12_crowd_39 : decode cX12_crowd 39 = .ok (.iconst 0, 1) := by decide +kernel
theorem dX12_crowd_40 : decode cX12_crowd 40 = .ok (.istore_n 2, 1) := by decide +kernel
theorem dX12_crowd_41 : decode cX12_crowd 41 = .ok (.iconst 0, 1) := by decide +kernel
theorem dX12_crowd_42 : decode cX12_crowd 42 = .ok (.istore_n 3, 1) := by decide +kernel
theorem dX12_crowd_43 : decode cX12_crowd 43 = .ok (.iload_n 3, 1) := by decide +kernel
theorem dX12_crowd_44 : decode cX12_crowd 44 = .ok (.aload_n 0, 1) := by decide +kernel
theorem dX12_crowd_45 : decode cX12_crowd 45 = .ok (.getfield 355, 3) := by decide +kernel
theorem dX12_crowd_48 : decode cX12_crowd 48 = .ok (.getfield 301, 3) := by decide +kernel
theorem dX12_crowd_51 : decode cX12_crowd 51 = .ok (.if_icmp .ge 33, 3) := by decide +kernel
theorem dX12_crowd_54 : decode cX12_crowd 54 = .ok (.aload_n 0, 1) := by decide +kernel
theorem dX12_crowd_55 : decode cX12_crowd 55 = .ok (.iload_n 3, 1) := by decide +kernel
theorem dX12_crowd_56 : decode cX12_crowd 56 = .ok (.invokevirtual 455, 3) := by decide +kernel
theorem dX12_crowd_59 : decode cX12_crowd 59 = .ok (.iload_n 2, 1) := by decide +kernel
theorem dX12_crowd_60 : decode cX12_crowd 60 = .ok (.aload_n 0, 1) := by decide +kernel
theorem dX12_crowd_61 : decode cX12_crowd 61 = .ok (.getfield 33, 3) := by decide +kernel
theorem dX12_crowd_64 : decode cX12_crowd 64 = .ok (.iload_n 1, 1) := by decide +kernel
theorem dX12_crowd_65 : decode cX12_crowd 65 = .ok (.iaload, 1) := by decide +kernel
theorem dX12_crowd_66 : decode cX12_crowd 66 = .ok (.bipush (-2), 2) := by decide +kernel
theorem dX12_crowd_68 : decode cX12_crowd 68 = .ok (.if_icmp .ne 7, 3) := by decide +kernel
theorem dX12_crowd_71 : decode cX12_crowd 71 = .ok (.iconst 0, 1) := by decide +kernel
theorem dX12_crowd_72 : decode cX12_crowd 72 = .ok (.goto 4, 3) := by decide +kernel
theorem dX12_crowd_75 : decode cX12_crowd 75 = .ok (.iconst 1, 1) := by decide +kernel
theorem dX12_crowd_76 : decode cX12_crowd 76 = .ok (.iadd, 1) := by decide +kernel
theorem dX12_crowd_77 : decode cX12_crowd 77 = .ok (.istore_n 2, 1) := by decide +kernel
theorem dX12_crowd_78 : decode cX12_crowd 78 = .ok (.iinc 3 1, 3) := by decide +kernel
theorem dX12_crowd_81 : decode cX12_crowd 81 = .ok (.goto (-38), 3) := by decide +kernel
theorem dX12_crowd_84 : decode cX12_crowd 84 = .ok (.aload_n 0, 1) := by decide +kernel
theorem dX12_crowd_85 : decode cX12_crowd 85 = .ok (.iload_n 2, 1) := by decide +kernel
theorem dX12_crowd_86 : decode cX12_crowd 86 = .ok (.invokevirtual 72, 3) := by decide +kernel
theorem dX12_crowd_89 : decode cX12_crowd 89 = .ok (.ireturn, 1) := by decide +kernel
theorem dX12_paidNow_0 : decode cX12_paidNow 0 = .ok (.iconst 0, 1) := by decide +kernel
theorem dX12_paidNow_1 : decode cX12_paidNow 1 = .ok (.istore_n 1, 1) := by decide +kernel
theorem dX12_paidNow_2 : decode cX12_paidNow 2 = .ok (.aload_n 0, 1) := by decide +kernel
theorem dX12_paidNow_3 : decode cX12_paidNow 3 = .ok (.iconst 0, 1) := by decide +kernel
theorem dX12_paidNow_4 : decode cX12_paidNow 4 = .ok (.putfield 464, 3) := by decide +kernel
theorem dX12_paidNow_7 : decode cX12_paidNow 7 = .ok (.iconst 0, 1) := by decide +kernel
theorem dX12_paidNow_8 : decode cX12_paidNow 8 = .ok (.istore_n 2, 1) := by decide +kernel
theorem dX12_paidNow_9 : decode cX12_paidNow 9 = .ok (.iload_n 2, 1) := by decide +kernel
theorem dX12_paidNow_10 : decode cX12_paidNow 10 = .ok (.aload_n 0, 1) := by decide +kernel
theorem dX12_paidNow_11 : decode cX12_paidNow 11 = .ok (.getfield 355, 3) := by decide +kernel
theorem dX12_paidNow_14 : decode cX12_paidNow 14 = .ok (.getfield 301, 3) := by decide +kernel
theorem dX12_paidNow_17 : decode cX12_paidNow 17 = .ok (.if_icmp .ge 55, 3) := by decide +kernel
theorem dX12_paidNow_20 : decode cX12_paidNow 20 = .ok (.aload_n 0, 1) := by decide +kernel
theorem dX12_paidNow_21 : decode cX12_paidNow 21 = .ok (.iload_n 2, 1) := by decide +kernel
theorem dX12_paidNow_22 : decode cX12_paidNow 22 = .ok (.invokevirtual 455, 3) := by decide +kernel
theorem dX12_paidNow_25 : decode cX12_paidNow 25 = .ok (.iload_n 1, 1) := by decide +kernel
theorem dX12_paidNow_26 : decode cX12_paidNow 26 = .ok (.aload_n 0, 1) := by decide +kernel
theorem dX12_paidNow_27 : decode cX12_paidNow 27 = .ok (.getfield 355, 3) := by decide +kernel
theorem dX12_paidNow_30 : decode cX12_paidNow 30 = .ok (.getfield 239, 3) := by decide +kernel
theorem dX12_paidNow_33 : decode cX12_paidNow 33 = .ok (.aload_n 0, 1) := by decide +kernel
theorem dX12_paidNow_34 : decode cX12_paidNow 34 = .ok (.iload_n 2, 1) := by decide +kernel
theorem dX12_paidNow_35 : decode cX12_paidNow 35 = .ok (.invokevirtual 461, 3) := by decide +kernel
theorem dX12_paidNow_38 : decode cX12_paidNow 38 = .ok (.imul, 1) := by decide +kernel
theorem dX12_paidNow_39 : decode cX12_paidNow 39 = .ok (.iadd, 1) := by decide +kernel
theorem dX12_paidNow_40 : decode cX12_paidNow 40 = .ok (.istore_n 1, 1) := by decide +kernel
theorem dX12_paidNow_41 : decode cX12_paidNow 41 = .ok (.aload_n 0, 1) := by decide +kernel
theorem dX12_paidNow_42 : decode cX12_paidNow 42 = .ok (.dup, 1) := by decide +kernel
theorem dX12_paidNow_43 : decode cX12_paidNow 43 = .ok (.getfield 464, 3) := by decide +kernel
theorem dX12_paidNow_46 : decode cX12_paidNow 46 = .ok (.aload_n 0, 1) := by decide +kernel
theorem dX12_paidNow_47 : decode cX12_paidNow 47 = .ok (.getfield 440, 3) := by decide +kernel
theorem dX12_paidNow_50 : decode cX12_paidNow 50 = .ok (.bipush (-2), 2) := by decide +kernel
theorem dX12_paidNow_52 : decode cX12_paidNow 52 = .ok (.if_icmp .ne 9, 3) := by decide +kernel
theorem dX12_paidNow_55 : decode cX12_paidNow 55 = .ok (.iconst 1, 1) := by decide +kernel
theorem dX12_paidNow_56 : decode cX12_paidNow 56 = .ok (.iload_n 2, 1) := by decide +kernel
theorem dX12_paidNow_57 : decode cX12_paidNow 57 = .ok (.ishl, 1) := by decide +kernel
theorem dX12_paidNow_58 : decode cX12_paidNow 58 = .ok (.goto 4, 3) := by decide +kernel
theorem dX12_paidNow_61 : decode cX12_paidNow 61 = .ok (.iconst 0, 1) := by decide +kernel
theorem dX12_paidNow_62 : decode cX12_paidNow 62 = .ok (.ior, 1) := by decide +kernel
theorem dX12_paidNow_63 : decode cX12_paidNow 63 = .ok (.putfield 464, 3) := by decide +kernel
theorem dX12_paidNow_66 : decode cX12_paidNow 66 = .ok (.iinc 2 1, 3) := by decide +kernel
theorem dX12_paidNow_69 : decode cX12_paidNow 69 = .ok (.goto (-60), 3) := by decide +kernel
theorem dX12_paidNow_72 : decode cX12_paidNow 72 = .ok (.iload_n 1, 1) := by decide +kernel
theorem dX12_paidNow_73 : decode cX12_paidNow 73 = .ok (.ireturn, 1) := by decide +kernel
theorem dX12_paid_0 : decode cX12_paid 0 = .ok (.aload_n 0, 1) := by decide +kernel
theorem dX12_paid_1 : decode cX12_paid 1 = .ok (.iconst 0, 1) := by decide +kernel
theorem dX12_paid_2 : decode cX12_paid 2 = .ok (.putfield 62, 3) := by decide +kernel
theorem dX12_paid_5 : decode cX12_paid 5 = .ok (.aload_n 0, 1) := by decide +kernel
theorem dX12_paid_6 : decode cX12_paid 6 = .ok (.getfield 355, 3) := by decide +kernel
theorem dX12_paid_9 : decode cX12_paid 9 = .ok (.ifnonnull 11, 3) := by decide +kernel
theorem dX12_paid_12 : decode cX12_paid 12 = .ok (.aload_n 0, 1) := by decide +kernel
theorem dX12_paid_13 : decode cX12_paid 13 = .ok (.iconst 1, 1) := by decide +kernel
theorem dX12_paid_14 : decode cX12_paid 14 = .ok (.invokevirtual 68, 3) := by decide +kernel
theorem dX12_paid_17 : decode cX12_paid 17 = .ok (.goto 11, 3) := by decide +kernel
theorem dX12_paid_20 : decode cX12_paid 20 = .ok (.aload_n 0, 1) := by decide +kernel
theorem dX12_paid_21 : decode cX12_paid 21 = .ok (.aload_n 0, 1) := by decide +kernel
theorem dX12_paid_22 : decode cX12_paid 22 = .ok (.invokevirtual 467, 3) := by decide +kernel
theorem dX12_paid_25 : decode cX12_paid 25 = .ok (.invokevirtual 72, 3) := by decide +kernel
theorem dX12_paid_28 : decode cX12_paid 28 = .ok (.ireturn, 1) := by decide +kernel
theorem dX12_stuck_0 : decode cX12_stuck 0 = .ok (.aload_n 0, 1) := by decide +kernel
theorem dX12_stuck_1 : decode cX12_stuck 1 = .ok (.iconst 0, 1) := by decide +kernel
theorem dX12_stuck_2 : decode cX12_stuck 2 = .ok (.putfield 62, 3) := by decide +kernel
theorem dX12_stuck_5 : decode cX12_stuck 5 = .ok (.aload_n 0, 1) := by decide +kernel
theorem dX12_stuck_6 : decode cX12_stuck 6 = .ok (.getfield 355, 3) := by decide +kernel
theorem dX12_stuck_9 : decode cX12_stuck 9 = .ok (.ifnonnull 9, 3) := by decide +kernel
theorem dX12_stuck_12 : decode cX12_stuck 12 = .ok (.aload_n 0, 1) := by decide +kernel
theorem dX12_stuck_13 : decode cX12_stuck 13 = .ok (.iconst 1, 1) := by decide +kernel
theorem dX12_stuck_14 : decode cX12_stuck 14 = .ok (.invokevirtual 68, 3) := by decide +kernel
theorem dX12_stuck_17 : decode cX12_stuck 17 = .ok (.ireturn, 1) := by decide +kernel
theorem dX12_stuck_18 : decode cX12_stuck 18 = .ok (.aload_n 0, 1) := by decide +kernel
theorem dX12_stuck_19 : decode cX12_stuck 19 = .ok (.invokevirtual 467, 3) := by decide +kernel
theorem dX12_stuck_22 : decode cX12_stuck 22 = .ok (.pop, 1) := by decide +kernel
theorem dX12_stuck_23 : decode cX12_stuck 23 = .ok (.aload_n 0, 1) := by decide +kernel
theorem dX12_stuck_24 : decode cX12_stuck 24 = .ok (.aload_n 0, 1) := by decide +kernel
theorem dX12_stuck_25 : decode cX12_stuck 25 = .ok (.getfield 464, 3) := by decide +kernel
theorem dX12_stuck_28 : decode cX12_stuck 28 = .ok (.invokevirtual 72, 3) := by decide +kernel
theorem dX12_stuck_31 : decode cX12_stuck 31 = .ok (.ireturn, 1) := by decide +kernel
theorem dX12_caught_0 : decode cX12_caught 0 = .ok (.aload_n 0, 1) := by decide +kernel
theorem dX12_caught_1 : decode cX12_caught 1 = .ok (.iconst 0, 1) := by decide +kernel
theorem dX12_caught_2 : decode cX12_caught 2 = .ok (.putfield 62, 3) := by decide +kernel
theorem dX12_caught_5 : decode cX12_caught 5 = .ok (.aload_n 0, 1) := by decide +kernel
theorem dX12_caught_6 : decode cX12_caught 6 = .ok (.iload_n 1, 1) := by decide +kernel
theorem dX12_caught_7 : decode cX12_caught 7 = .ok (.invokevirtual 452, 3) := by decide +kernel
theorem dX12_caught_10 : decode cX12_caught 10 = .ok (.ifCond .eq 12, 3) := by decide +kernel
theorem dX12_caught_13 : decode cX12_caught 13 = .ok (.aload_n 0, 1) := by decide +kernel
theorem dX12_caught_14 : decode cX12_caught 14 = .ok (.iload_n 2, 1) := by decide +kernel
theorem dX12_caught_15 : decode cX12_caught 15 = .ok (.iload_n 3, 1) := by decide +kernel
theorem dX12_caught_16 : decode cX12_caught 16 = .ok (.invokevirtual 389, 3) := by decide +kernel
theorem dX12_caught_19 : decode cX12_caught 19 = .ok (.ifCond .ne 9, 3) := by decide +kernel
theorem dX12_caught_22 : decode cX12_caught 22 = .ok (.aload_n 0, 1) := by decide +kernel
theorem dX12_caught_23 : decode cX12_caught 23 = .ok (.iconst 1, 1) := by decide +kernel
theorem dX12_caught_24 : decode cX12_caught 24 = .ok (.invokevirtual 68, 3) := by decide +kernel
theorem dX12_caught_27 : decode cX12_caught 27 = .ok (.ireturn, 1) := by decide +kernel
theorem dX12_caught_28 : decode cX12_caught 28 = .ok (.aload_n 0, 1) := by decide +kernel
theorem dX12_caught_29 : decode cX12_caught 29 = .ok (.getfield 357, 3) := by decide +kernel
theorem dX12_caught_32 : decode cX12_caught 32 = .ok (.aload_n 0, 1) := by decide +kernel
theorem dX12_caught_33 : decode cX12_caught 33 = .ok (.iload_n 2, 1) := by decide +kernel
theorem dX12_caught_34 : decode cX12_caught 34 = .ok (.iload_n 3, 1) := by decide +kernel
theorem dX12_caught_35 : decode cX12_caught 35 = .ok (.invokevirtual 393, 3) := by decide +kernel
theorem dX12_caught_38 : decode cX12_caught 38 = .ok (.invokestatic 75, 3) := by decide +kernel
theorem dX12_caught_41 : decode cX12_caught 41 = .ok (.ifCond .ne 9, 3) := by decide +kernel
theorem dX12_caught_44 : decode cX12_caught 44 = .ok (.aload_n 0, 1) := by decide +kernel
theorem dX12_caught_45 : decode cX12_caught 45 = .ok (.iconst 5, 1) := by decide +kernel
theorem dX12_caught_46 : decode cX12_caught 46 = .ok (.invokevirtual 68, 3) := by decide +kernel
theorem dX12_caught_49 : decode cX12_caught 49 = .ok (.ireturn, 1) := by decide +kernel
theorem dX12_caught_50 : decode cX12_caught 50 = .ok (.aload_n 0, 1) := by decide +kernel
theorem dX12_caught_51 : decode cX12_caught 51 = .ok (.iload_n 1, 1) := by decide +kernel
theorem dX12_caught_52 : decode cX12_caught 52 = .ok (.invokevirtual 455, 3) := by decide +kernel
theorem dX12_caught_55 : decode cX12_caught 55 = .ok (.aload_n 0, 1) := by decide +kernel
theorem dX12_caught_56 : decode cX12_caught 56 = .ok (.aload_n 0, 1) := by decide +kernel
theorem dX12_caught_57 : decode cX12_caught 57 = .ok (.getfield 357, 3) := by decide +kernel
theorem dX12_caught_60 : decode cX12_caught 60 = .ok (.aload_n 0, 1) := by decide +kernel
theorem dX12_caught_61 : decode cX12_caught 61 = .ok (.iload_n 2, 1) := by decide +kernel
theorem dX12_caught_62 : decode cX12_caught 62 = .ok (.iload_n 3, 1) := by decide +kernel
theorem dX12_caught_63 : decode cX12_caught 63 = .ok (.invokevirtual 393, 3) := by decide +kernel
theorem dX12_caught_66 : decode cX12_caught 66 = .ok (.invokevirtual 377, 3) := by decide +kernel
theorem dX12_caught_69 : decode cX12_caught 69 = .ok (.iconst 0, 1) := by decide +kernel
theorem dX12_caught_70 : decode cX12_caught 70 = .ok (.istore 4, 2) := by decide +kernel
theorem dX12_caught_72 : decode cX12_caught 72 = .ok (.iload 4, 2) := by decide +kernel
theorem dX12_caught_74 : decode cX12_caught 74 = .ok (.aload_n 0, 1) := by decide +kernel
theorem dX12_caught_75 : decode cX12_caught 75 = .ok (.getfield 355, 3) := by decide +kernel
theorem dX12_caught_78 : decode cX12_caught 78 = .ok (.getfield 237, 3) := by decide +kernel
theorem dX12_caught_81 : decode cX12_caught 81 = .ok (.if_icmp .gt 62, 3) := by decide +kernel
theorem dX12_caught_84 : decode cX12_caught 84 = .ok (.aload_n 0, 1) := by decide +kernel
theorem dX12_caught_85 : decode cX12_caught 85 = .ok (.getfield 33, 3) := by decide +kernel
theorem dX12_caught_88 : decode cX12_caught 88 = .ok (.iload 4, 2) := by decide +kernel
theorem dX12_caught_90 : decode cX12_caught 90 = .ok (.iaload, 1) := by decide +kernel
theorem dX12_caught_91 : decode cX12_caught 91 = .ok (.bipush (-2), 2) := by decide +kernel
theorem dX12_caught_93 : decode cX12_caught 93 = .ok (.if_icmp .eq 44, 3) := by decide +kernel
theorem dX12_caught_96 : decode cX12_caught 96 = .ok (.aload_n 0, 1) := by decide +kernel
theorem dX12_caught_97 : decode cX12_caught 97 = .ok (.getfield 21, 3) := by decide +kernel
theorem dX12_caught_100 : decode cX12_caught 100 = .ok (.aload_n 0, 1) := by decide +kernel
theorem dX12_caught_101 : decode cX12_caught 101 = .ok (.getfield 33, 3) := by decide +kernel
theorem dX12_caught_104 : decode cX12_caught 104 = .ok (.iload 4, 2) := by decide +kernel
theorem dX12_caught_106 : decode cX12_caught 106 = .ok (.iaload, 1) := by decide +kernel
theorem dX12_caught_107 : decode cX12_caught 107 = .ok (.iaload, 1) := by decide +kernel
theorem dX12_caught_108 : decode cX12_caught 108 = .ok (.bipush (-2), 2) := by decide +kernel
theorem dX12_caught_110 : decode cX12_caught 110 = .ok (.if_icmp .eq 27, 3) := by decide +kernel
theorem dX12_caught_113 : decode cX12_caught 113 = .ok (.aload_n 0, 1) := by decide +kernel
theorem dX12_caught_114 : decode cX12_caught 114 = .ok (.getfield 21, 3) := by decide +kernel
theorem dX12_caught_117 : decode cX12_caught 117 = .ok (.aload_n 0, 1) := by decide +kernel
theorem dX12_caught_118 : decode cX12_caught 118 = .ok (.getfield 33, 3) := by decide +kernel
theorem dX12_caught_121 : decode cX12_caught 121 = .ok (.iload 4, 2) := by decide +kernel
theorem dX12_caught_123 : decode cX12_caught 123 = .ok (.iaload, 1) := by decide +kernel
theorem dX12_caught_124 : decode cX12_caught 124 = .ok (.iaload, 1) := by decide +kernel
theorem dX12_caught_125 : decode cX12_caught 125 = .ok (.iload 4, 2) := by decide +kernel
theorem dX12_caught_127 : decode cX12_caught 127 = .ok (.if_icmp .gt 10, 3) := by decide +kernel
theorem dX12_caught_130 : decode cX12_caught 130 = .ok (.aload_n 0, 1) := by decide +kernel
theorem dX12_caught_131 : decode cX12_caught 131 = .ok (.iload 4, 2) := by decide +kernel
theorem dX12_caught_133 : decode cX12_caught 133 = .ok (.invokevirtual 72, 3) := by decide +kernel
theorem dX12_caught_136 : decode cX12_caught 136 = .ok (.ireturn, 1) := by decide +kernel
theorem dX12_caught_137 : decode cX12_caught 137 = .ok (.iinc 4 1, 3) := by decide +kernel
theorem dX12_caught_140 : decode cX12_caught 140 = .ok (.goto (-68), 3) := by decide +kernel
theorem dX12_caught_143 : decode cX12_caught 143 = .ok (.aload_n 0, 1) := by decide +kernel
theorem dX12_caught_144 : decode cX12_caught 144 = .ok (.bipush (-2), 2) := by decide +kernel
theorem dX12_caught_146 : decode cX12_caught 146 = .ok (.invokevirtual 72, 3) := by decide +kernel
theorem dX12_caught_149 : decode cX12_caught 149 = .ok (.ireturn, 1) := by decide +kernel
theorem dX12_unlikeNow_0 : decode cX12_unlikeNow 0 = .ok (.iload_n 1, 1) := by decide +kernel
theorem dX12_unlikeNow_1 : decode cX12_unlikeNow 1 = .ok (.ifCond .eq 35, 3) := by decide +kernel
theorem dX12_unlikeNow_4 : decode cX12_unlikeNow 4 = .ok (.aload_n 0, 1) := by decide +kernel
theorem dX12_unlikeNow_5 : decode cX12_unlikeNow 5 = .ok (.getfield 355, 3) := by decide +kernel
theorem dX12_unlikeNow_8 : decode cX12_unlikeNow 8 = .ok (.getfield 272, 3) := by decide +kernel
theorem dX12_unlikeNow_11 : decode cX12_unlikeNow 11 = .ok (.aload_n 0, 1) := by decide +kernel
theorem dX12_unlikeNow_12 : decode cX12_unlikeNow 12 = .ok (.getfield 357, 3) := by decide +kernel
theorem dX12_unlikeNow_15 : decode cX12_unlikeNow 15 = .ok (.ldc2_w 384, 3) := by decide +kernel
theorem dX12_unlikeNow_18 : decode cX12_unlikeNow 18 = .ok (.lxor, 1) := by decide +kernel
theorem dX12_unlikeNow_19 : decode cX12_unlikeNow 19 = .ok (.land, 1) := by decide +kernel
theorem dX12_unlikeNow_20 : decode cX12_unlikeNow 20 = .ok (.aload_n 0, 1) := by decide +kernel
theorem dX12_unlikeNow_21 : decode cX12_unlikeNow 21 = .ok (.getfield 355, 3) := by decide +kernel
theorem dX12_unlikeNow_24 : decode cX12_unlikeNow 24 = .ok (.getfield 275, 3) := by decide +kernel
theorem dX12_unlikeNow_27 : decode cX12_unlikeNow 27 = .ok (.aload_n 0, 1) := by decide +kernel
theorem dX12_unlikeNow_28 : decode cX12_unlikeNow 28 = .ok (.getfield 357, 3) := by decide +kernel
theorem dX12_unlikeNow_31 : decode cX12_unlikeNow 31 = .ok (.land, 1) := by decide +kernel
theorem dX12_unlikeNow_32 : decode cX12_unlikeNow 32 = .ok (.lor, 1) := by decide +kernel
theorem dX12_unlikeNow_33 : decode cX12_unlikeNow 33 = .ok (.goto 32, 3) := by decide +kernel
theorem dX12_unlikeNow_36 : decode cX12_unlikeNow 36 = .ok (.aload_n 0, 1) := by decide +kernel
theorem dX12_unlikeNow_37 : decode cX12_unlikeNow 37 = .ok (.getfield 355, 3) := by decide +kernel
theorem dX12_unlikeNow_40 : decode cX12_unlikeNow 40 = .ok (.getfield 263, 3) := by decide +kernel
theorem dX12_unlikeNow_43 : decode cX12_unlikeNow 43 = .ok (.aload_n 0, 1) := by decide +kernel
theorem dX12_unlikeNow_44 : decode cX12_unlikeNow 44 = .ok (.getfield 357, 3) := by decide +kernel
theorem dX12_unlikeNow_47 : decode cX12_unlikeNow 47 = .ok (.ldc2_w 384, 3) := by decide +kernel
theorem dX12_unlikeNow_50 : decode cX12_unlikeNow 50 = .ok (.lxor, 1) := by decide +kernel
theorem dX12_unlikeNow_51 : decode cX12_unlikeNow 51 = .ok (.land, 1) := by decide +kernel
theorem dX12_unlikeNow_52 : decode cX12_unlikeNow 52 = .ok (.aload_n 0, 1) := by decide +kernel
theorem dX12_unlikeNow_53 : decode cX12_unlikeNow 53 = .ok (.getfield 355, 3) := by decide +kernel
theorem dX12_unlikeNow_56 : decode cX12_unlikeNow 56 = .ok (.getfield 266, 3) := by decide +kernel
theorem dX12_unlikeNow_59 : decode cX12_unlikeNow 59 = .ok (.aload_n 0, 1) := by decide +kernel
theorem dX12_unlikeNow_60 : decode cX12_unlikeNow 60 = .ok (.getfield 357, 3) := by decide +kernel
theorem dX12_unlikeNow_63 : decode cX12_unlikeNow 63 = .ok (.land, 1) := by decide +kernel
theorem dX12_unlikeNow_64 : decode cX12_unlikeNow 64 = .ok (.lor, 1) := by decide +kernel
theorem dX12_unlikeNow_65 : decode cX12_unlikeNow 65 = .ok (.lreturn, 1) := by decide +kernel
theorem dX12_clashNow_0 : decode cX12_clashNow 0 = .ok (.aload_n 0, 1) := by decide +kernel
theorem dX12_clashNow_1 : decode cX12_clashNow 1 = .ok (.getfield 355, 3) := by decide +kernel
theorem dX12_clashNow_4 : decode cX12_clashNow 4 = .ok (.getfield 263, 3) := by decide +kernel
theorem dX12_clashNow_7 : decode cX12_clashNow 7 = .ok (.aload_n 0, 1) := by decide +kernel
theorem dX12_clashNow_8 : decode cX12_clashNow 8 = .ok (.getfield 355, 3) := by decide +kernel
theorem dX12_clashNow_11 : decode cX12_clashNow 11 = .ok (.getfield 275, 3) := by decide +kernel
theorem dX12_clashNow_14 : decode cX12_clashNow 14 = .ok (.land, 1) := by decide +kernel
theorem dX12_clashNow_15 : decode cX12_clashNow 15 = .ok (.aload_n 0, 1) := by decide +kernel
theorem dX12_clashNow_16 : decode cX12_clashNow 16 = .ok (.getfield 355, 3) := by decide +kernel
theorem dX12_clashNow_19 : decode cX12_clashNow 19 = .ok (.getfield 266, 3) := by decide +kernel
theorem dX12_clashNow_22 : decode cX12_clashNow 22 = .ok (.aload_n 0, 1) := by decide +kernel
theorem dX12_clashNow_23 : decode cX12_clashNow 23 = .ok (.getfield 355, 3) := by decide +kernel
theorem dX12_clashNow_26 : decode cX12_clashNow 26 = .ok (.getfield 272, 3) := by decide +kernel
theorem dX12_clashNow_29 : decode cX12_clashNow 29 = .ok (.land, 1) := by decide +kernel
theorem dX12_clashNow_30 : decode cX12_clashNow 30 = .ok (.lor, 1) := by decide +kernel
theorem dX12_clashNow_31 : decode cX12_clashNow 31 = .ok (.lreturn, 1) := by decide +kernel
theorem dX12_toMowNow_0 : decode cX12_toMowNow 0 = .ok (.aload_n 0, 1) := by decide +kernel
theorem dX12_toMowNow_1 : decode cX12_toMowNow 1 = .ok (.getfield 355, 3) := by decide +kernel
theorem dX12_toMowNow_4 : decode cX12_toMowNow 4 = .ok (.getfield 263, 3) := by decide +kernel
theorem dX12_toMowNow_7 : decode cX12_toMowNow 7 = .ok (.aload_n 0, 1) := by decide +kernel
theorem dX12_toMowNow_8 : decode cX12_toMowNow 8 = .ok (.getfield 357, 3) := by decide +kernel
theorem dX12_toMowNow_11 : decode cX12_toMowNow 11 = .ok (.ldc2_w 384, 3) := by decide +kernel
theorem dX12_toMowNow_14 : decode cX12_toMowNow 14 = .ok (.lxor, 1) := by decide +kernel
theorem dX12_toMowNow_15 : decode cX12_toMowNow 15 = .ok (.land, 1) := by decide +kernel
theorem dX12_toMowNow_16 : decode cX12_toMowNow 16 = .ok (.lreturn, 1) := by decide +kernel
theorem dX12_unlike_0 : decode cX12_unlike 0 = .ok (.aload_n 0, 1) := by decide +kernel
theorem dX12_unlike_1 : decode cX12_unlike 1 = .ok (.iconst 0, 1) := by decide +kernel
theorem dX12_unlike_2 : decode cX12_unlike 2 = .ok (.putfield 62, 3) := by decide +kernel
theorem dX12_unlike_5 : decode cX12_unlike 5 = .ok (.aload_n 0, 1) := by decide +kernel
theorem dX12_unlike_6 : decode cX12_unlike 6 = .ok (.getfield 355, 3) := by decide +kernel
theorem dX12_unlike_9 : decode cX12_unlike 9 = .ok (.ifnonnull 11, 3) := by decide +kernel
theorem dX12_unlike_12 : decode cX12_unlike 12 = .ok (.aload_n 0, 1) := by decide +kernel
theorem dX12_unlike_13 : decode cX12_unlike 13 = .ok (.iconst 1, 1) := by decide +kernel
theorem dX12_unlike_14 : decode cX12_unlike 14 = .ok (.invokevirtual 68, 3) := by decide +kernel
theorem dX12_unlike_17 : decode cX12_unlike 17 = .ok (.goto 15, 3) := by decide +kernel
theorem dX12_unlike_20 : decode cX12_unlike 20 = .ok (.aload_n 0, 1) := by decide +kernel
theorem dX12_unlike_21 : decode cX12_unlike 21 = .ok (.aload_n 0, 1) := by decide +kernel
theorem dX12_unlike_22 : decode cX12_unlike 22 = .ok (.iload_n 1, 1) := by decide +kernel
theorem dX12_unlike_23 : decode cX12_unlike 23 = .ok (.invokevirtual 470, 3) := by decide +kernel
theorem dX12_unlike_26 : decode cX12_unlike 26 = .ok (.invokestatic 367, 3) := by decide +kernel
theorem dX12_unlike_29 : decode cX12_unlike 29 = .ok (.invokevirtual 72, 3) := by decide +kernel
theorem dX12_unlike_32 : decode cX12_unlike 32 = .ok (.ireturn, 1) := by decide +kernel
theorem dX12_firstUnlike_0 : decode cX12_firstUnlike 0 = .ok (.aload_n 0, 1) := by decide +kernel
theorem dX12_firstUnlike_1 : decode cX12_firstUnlike 1 = .ok (.iconst 0, 1) := by decide +kernel
theorem dX12_firstUnlike_2 : decode cX12_firstUnlike 2 = .ok (.putfield 62, 3) := by decide +kernel
theorem dX12_firstUnlike_5 : decode cX12_firstUnlike 5 = .ok (.aload_n 0, 1) := by decide +kernel
theorem dX12_firstUnlike_6 : decode cX12_firstUnlike 6 = .ok (.getfield 355, 3) := by decide +kernel
theorem dX12_firstUnlike_9 : decode cX12_firstUnlike 9 = .ok (.ifnonnull 9, 3) := by decide +kernel
theorem dX12_firstUnlike_12 : decode cX12_firstUnlike 12 = .ok (.aload_n 0, 1) := by decide +kernel
theorem dX12_firstUnlike_13 : decode cX12_firstUnlike 13 = .ok (.iconst 1, 1) := by decide +kernel
theorem dX12_firstUnlike_14 : decode cX12_firstUnlike 14 = .ok (.invokevirtual 68, 3) := by decide +kernel
theorem dX12_firstUnlike_17 : decode cX12_firstUnlike 17 = .ok (.ireturn, 1) := by decide +kernel
theorem dX12_firstUnlike_18 : decode cX12_firstUnlike 18 = .ok (.aload_n 0, 1) := by decide +kernel
theorem dX12_firstUnlike_19 : decode cX12_firstUnlike 19 = .ok (.aload_n 0, 1) := by decide +kernel
theorem dX12_firstUnlike_20 : decode cX12_firstUnlike 20 = .ok (.iload_n 1, 1) := by decide +kernel
theorem dX12_firstUnlike_21 : decode cX12_firstUnlike 21 = .ok (.invokevirtual 470, 3) := by decide +kernel
theorem dX12_firstUnlike_24 : decode cX12_firstUnlike 24 = .ok (.lconst 0, 1) := by decide +kernel
theorem dX12_firstUnlike_25 : decode cX12_firstUnlike 25 = .ok (.lcmp, 1) := by decide +kernel
theorem dX12_firstUnlike_26 : decode cX12_firstUnlike 26 = .ok (.ifCond .ne 8, 3) := by decide +kernel
theorem dX12_firstUnlike_29 : decode cX12_firstUnlike 29 = .ok (.bipush (-2), 2) := by decide +kernel
theorem dX12_firstUnlike_31 : decode cX12_firstUnlike 31 = .ok (.goto 11, 3) := by decide +kernel
theorem dX12_firstUnlike_34 : decode cX12_firstUnlike 34 = .ok (.aload_n 0, 1) := by decide +kernel
theorem dX12_firstUnlike_35 : decode cX12_firstUnlike 35 = .ok (.iload_n 1, 1) := by decide +kernel
theorem dX12_firstUnlike_36 : decode cX12_firstUnlike 36 = .ok (.invokevirtual 470, 3) := by decide +kernel
theorem dX12_firstUnlike_39 : decode cX12_firstUnlike 39 = .ok (.invokestatic 374, 3) := by decide +kernel
theorem dX12_firstUnlike_42 : decode cX12_firstUnlike 42 = .ok (.invokevirtual 72, 3) := by decide +kernel
theorem dX12_firstUnlike_45 : decode cX12_firstUnlike 45 = .ok (.ireturn, 1) := by decide +kernel
theorem dX12_clash_0 : decode cX12_clash 0 = .ok (.aload_n 0, 1) := by decide +kernel
theorem dX12_clash_1 : decode cX12_clash 1 = .ok (.iconst 0, 1) := by decide +kernel
theorem dX12_clash_2 : decode cX12_clash 2 = .ok (.putfield 62, 3) := by decide +kernel
theorem dX12_clash_5 : decode cX12_clash 5 = .ok (.aload_n 0, 1) := by decide +kernel
theorem dX12_clash_6 : decode cX12_clash 6 = .ok (.getfield 355, 3) := by decide +kernel
theorem dX12_clash_9 : decode cX12_clash 9 = .ok (.ifnonnull 11, 3) := by decide +kernel
theorem dX12_clash_12 : decode cX12_clash 12 = .ok (.aload_n 0, 1) := by decide +kernel
theorem dX12_clash_13 : decode cX12_clash 13 = .ok (.iconst 1, 1) := by decide +kernel
theorem dX12_clash_14 : decode cX12_clash 14 = .ok (.invokevirtual 68, 3) := by decide +kernel
theorem dX12_clash_17 : decode cX12_clash 17 = .ok (.goto 14, 3) := by decide +kernel
theorem dX12_clash_20 : decode cX12_clash 20 = .ok (.aload_n 0, 1) := by decide +kernel
theorem dX12_clash_21 : decode cX12_clash 21 = .ok (.aload_n 0, 1) := by decide +kernel
theorem dX12_clash_22 : decode cX12_clash 22 = .ok (.invokevirtual 474, 3) := by decide +kernel
theorem dX12_clash_25 : decode cX12_clash 25 = .ok (.invokestatic 367, 3) := by decide +kernel
theorem dX12_clash_28 : decode cX12_clash 28 = .ok (.invokevirtual 72, 3) := by decide +kernel
theorem dX12_clash_31 : decode cX12_clash 31 = .ok (.ireturn, 1) := by decide +kernel
theorem dX12_changes_0 : decode cX12_changes 0 = .ok (.aload_n 0, 1) := by decide +kernel
theorem dX12_changes_1 : decode cX12_changes 1 = .ok (.iconst 0, 1) := by decide +kernel
theorem dX12_changes_2 : decode cX12_changes 2 = .ok (.putfield 62, 3) := by decide +kernel
theorem dX12_changes_5 : decode cX12_changes 5 = .ok (.aload_n 0, 1) := by decide +kernel
theorem dX12_changes_6 : decode cX12_changes 6 = .ok (.getfield 355, 3) := by decide +kernel
theorem dX12_changes_9 : decode cX12_changes 9 = .ok (.ifnonnull 11, 3) := by decide +kernel
theorem dX12_changes_12 : decode cX12_changes 12 = .ok (.aload_n 0, 1) := by decide +kernel
theorem dX12_changes_13 : decode cX12_changes 13 = .ok (.iconst 1, 1) := by decide +kernel
theorem dX12_changes_14 : decode cX12_changes 14 = .ok (.invokevirtual 68, 3) := by decide +kernel
theorem dX12_changes_17 : decode cX12_changes 17 = .ok (.goto 30, 3) := by decide +kernel
theorem dX12_changes_20 : decode cX12_changes 20 = .ok (.aload_n 0, 1) := by decide +kernel
theorem dX12_changes_21 : decode cX12_changes 21 = .ok (.aload_n 0, 1) := by decide +kernel
theorem dX12_changes_22 : decode cX12_changes 22 = .ok (.iconst 0, 1) := by decide +kernel
theorem dX12_changes_23 : decode cX12_changes 23 = .ok (.invokevirtual 470, 3) := by decide +kernel
theorem dX12_changes_26 : decode cX12_changes 26 = .ok (.aload_n 0, 1) := by decide +kernel
theorem dX12_changes_27 : decode cX12_changes 27 = .ok (.iconst 1, 1) := by decide +kernel
theorem dX12_changes_28 : decode cX12_changes 28 = .ok (.invokevirtual 470, 3) := by decide +kernel
theorem dX12_changes_31 : decode cX12_changes 31 = .ok (.lor, 1) := by decide +kernel
theorem dX12_changes_32 : decode cX12_changes 32 = .ok (.aload_n 0, 1) := by decide +kernel
theorem dX12_changes_33 : decode cX12_changes 33 = .ok (.invokevirtual 474, 3) := by decide +kernel
theorem dX12_changes_36 : decode cX12_changes 36 = .ok (.ldc2_w 384, 3) := by decide +kernel
theorem dX12_changes_39 : decode cX12_changes 39 = .ok (.lxor, 1) := by decide +kernel
theorem dX12_changes_40 : decode cX12_changes 40 = .ok (.land, 1) := by decide +kernel
theorem dX12_changes_41 : decode cX12_changes 41 = .ok (.invokestatic 367, 3) := by decide +kernel
theorem dX12_changes_44 : decode cX12_changes 44 = .ok (.invokevirtual 72, 3) := by decide +kernel
theorem dX12_changes_47 : decode cX12_changes 47 = .ok (.ireturn, 1) := by decide +kernel
theorem dX12_toMow_0 : decode cX12_toMow 0 = .ok (.aload_n 0, 1) := by decide +kernel
theorem dX12_toMow_1 : decode cX12_toMow 1 = .ok (.iconst 0, 1) := by decide +kernel
theorem dX12_toMow_2 : decode cX12_toMow 2 = .ok (.putfield 62, 3) := by decide +kernel
theorem dX12_toMow_5 : decode cX12_toMow 5 = .ok (.aload_n 0, 1) := by decide +kernel
theorem dX12_toMow_6 : decode cX12_toMow 6 = .ok (.getfield 355, 3) := by decide +kernel
theorem dX12_toMow_9 : decode cX12_toMow 9 = .ok (.ifnonnull 11, 3) := by decide +kernel
theorem dX12_toMow_12 : decode cX12_toMow 12 = .ok (.aload_n 0, 1) := by decide +kernel
theorem dX12_toMow_13 : decode cX12_toMow 13 = .ok (.iconst 1, 1) := by decide +kernel
theorem dX12_toMow_14 : decode cX12_toMow 14 = .ok (.invokevirtual 68, 3) := by decide +kernel
theorem dX12_toMow_17 : decode cX12_toMow 17 = .ok (.goto 14, 3) := by decide +kernel
theorem dX12_toMow_20 : decode cX12_toMow 20 = .ok (.aload_n 0, 1) := by decide +kernel
theorem dX12_toMow_21 : decode cX12_toMow 21 = .ok (.aload_n 0, 1) := by decide +kernel
theorem dX12_toMow_22 : decode cX12_toMow 22 = .ok (.invokevirtual 478, 3) := by decide +kernel
theorem dX12_toMow_25 : decode cX12_toMow 25 = .ok (.invokestatic 367, 3) := by decide +kernel
theorem dX12_toMow_28 : decode cX12_toMow 28 = .ok (.invokevirtual 72, 3) := by decide +kernel
theorem dX12_toMow_31 : decode cX12_toMow 31 = .ok (.ireturn, 1) := by decide +kernel
theorem dX12_strokesNow_0 : decode cX12_strokesNow 0 = .ok (.iconst 0, 1) := by decide +kernel
theorem dX12_strokesNow_1 : decode cX12_strokesNow 1 = .ok (.istore_n 1, 1) := by decide +kernel
theorem dX12_strokesNow_2 : decode cX12_strokesNow 2 = .ok (.iconst 0, 1) := by decide +kernel
theorem dX12_strokesNow_3 : decode cX12_strokesNow 3 = .ok (.istore_n 2, 1) := by decide +kernel
theorem dX12_strokesNow_4 : decode cX12_strokesNow 4 = .ok (.iload_n 2, 1) := by decide +kernel
theorem dX12_strokesNow_5 : decode cX12_strokesNow 5 = .ok (.aload_n 0, 1) := by decide +kernel
theorem dX12_strokesNow_6 : decode cX12_strokesNow 6 = .ok (.getfield 355, 3) := by decide +kernel
theorem dX12_strokesNow_9 : decode cX12_strokesNow 9 = .ok (.invokevirtual 381, 3) := by decide +kernel
theorem dX12_strokesNow_12 : decode cX12_strokesNow 12 = .ok (.if_icmp .ge 33, 3) := by decide +kernel
theorem dX12_strokesNow_15 : decode cX12_strokesNow 15 = .ok (.aload_n 0, 1) := by decide +kernel
theorem dX12_strokesNow_16 : decode cX12_strokesNow 16 = .ok (.invokevirtual 478, 3) := by decide +kernel
theorem dX12_strokesNow_19 : decode cX12_strokesNow 19 = .ok (.iload_n 2, 1) := by decide +kernel
theorem dX12_strokesNow_20 : decode cX12_strokesNow 20 = .ok (.invokestatic 75, 3) := by decide +kernel
theorem dX12_strokesNow_23 : decode cX12_strokesNow 23 = .ok (.ifCond .ne 6, 3) := by decide +kernel
theorem dX12_strokesNow_26 : decode cX12_strokesNow 26 = .ok (.goto 13, 3) := by decide +kernel
theorem dX12_strokesNow_29 : decode cX12_strokesNow 29 = .ok (.aload_n 0, 1) := by decide +kernel
theorem dX12_strokesNow_30 : decode cX12_strokesNow 30 = .ok (.getfield 46, 3) := by decide +kernel
theorem dX12_strokesNow_33 : decode cX12_strokesNow 33 = .ok (.iload_n 1, 1) := by decide +kernel
theorem dX12_strokesNow_34 : decode cX12_strokesNow 34 = .ok (.iload_n 2, 1) := by decide +kernel
theorem dX12_strokesNow_35 : decode cX12_strokesNow 35 = .ok (.iastore, 1) := by decide +kernel
theorem dX12_strokesNow_36 : decode cX12_strokesNow 36 = .ok (.iinc 1 1, 3) := by decide +kernel
theorem dX12_strokesNow_39 : decode cX12_strokesNow 39 = .ok (.iinc 2 1, 3) := by decide +kernel
theorem dX12_strokesNow_42 : decode cX12_strokesNow 42 = .ok (.goto (-38), 3) := by decide +kernel
theorem dX12_strokesNow_45 : decode cX12_strokesNow 45 = .ok (.iload_n 1, 1) := by decide +kernel
theorem dX12_strokesNow_46 : decode cX12_strokesNow 46 = .ok (.ifCond .ne 5, 3) := by decide +kernel
theorem dX12_strokesNow_49 : decode cX12_strokesNow 49 = .ok (.iconst 0, 1) := by decide +kernel
theorem dX12_strokesNow_50 : decode cX12_strokesNow 50 = .ok (.ireturn, 1) := by decide +kernel
theorem dX12_strokesNow_51 : decode cX12_strokesNow 51 = .ok (.iload_n 1, 1) := by decide +kernel
theorem dX12_strokesNow_52 : decode cX12_strokesNow 52 = .ok (.istore_n 2, 1) := by decide +kernel
theorem dX12_strokesNow_53 : decode cX12_strokesNow 53 = .ok (.iconst 1, 1) := by decide +kernel
theorem dX12_strokesNow_54 : decode cX12_strokesNow 54 = .ok (.istore_n 3, 1) := by decide +kernel
theorem dX12_strokesNow_55 : decode cX12_strokesNow 55 = .ok (.iload_n 3, 1) := by decide +kernel
theorem dX12_strokesNow_56 : decode cX12_strokesNow 56 = .ok (.iconst 1, 1) := by decide +kernel
theorem dX12_strokesNow_57 : decode cX12_strokesNow 57 = .ok (.iload_n 1, 1) := by decide +kernel
theorem dX12_strokesNow_58 : decode cX12_strokesNow 58 = .ok (.ishl, 1) := by decide +kernel
theorem dX12_strokesNow_59 : decode cX12_strokesNow 59 = .ok (.if_icmp .ge 99, 3) := by decide +kernel
theorem dX12_strokesNow_62 : decode cX12_strokesNow 62 = .ok (.iconst 0, 1) := by decide +kernel
theorem dX12_strokesNow_63 : decode cX12_strokesNow 63 = .ok (.istore 4, 2) := by decide +kernel
theorem dX12_strokesNow_65 : decode cX12_strokesNow 65 = .ok (.iload 4, 2) := by decide +kernel
theorem dX12_strokesNow_67 : decode cX12_strokesNow 67 = .ok (.iload_n 1, 1) := by decide +kernel
theorem dX12_strokesNow_68 : decode cX12_strokesNow 68 = .ok (.if_icmp .ge 84, 3) := by decide +kernel
theorem dX12_strokesNow_71 : decode cX12_strokesNow 71 = .ok (.bipush (-2), 2) := by decide +kernel
theorem dX12_strokesNow_73 : decode cX12_strokesNow 73 = .ok (.istore 5, 2) := by decide +kernel
theorem dX12_strokesNow_75 : decode cX12_strokesNow 75 = .ok (.iload_n 3, 1) := by decide +kernel
theorem dX12_strokesNow_76 : decode cX12_strokesNow 76 = .ok (.iload 4, 2) := by decide +kernel
theorem dX12_strokesNow_78 : decode cX12_strokesNow 78 = .ok (.ishr, 1) := by decide +kernel
theorem dX12_strokesNow_79 : decode cX12_strokesNow 79 = .ok (.iconst 1, 1) := by decide +kernel
theorem dX12_strokesNow_80 : decode cX12_strokesNow 80 = .ok (.iand, 1) := by decide +kernel
theorem dX12_strokesNow_81 : decode cX12_strokesNow 81 = .ok (.iconst 1, 1) := by decide +kernel
theorem dX12_strokesNow_82 : decode cX12_strokesNow 82 = .ok (.if_icmp .ne 32, 3) := by decide +kernel
theorem dX12_strokesNow_85 : decode cX12_strokesNow 85 = .ok (.iload_n 3, 1) := by decide +kernel
theorem dX12_strokesNow_86 : decode cX12_strokesNow 86 = .ok (.iconst 1, 1) := by decide +kernel
theorem dX12_strokesNow_87 : decode cX12_strokesNow 87 = .ok (.iload 4, 2) := by decide +kernel
theorem dX12_strokesNow_89 : decode cX12_strokesNow 89 = .ok (.ishl, 1) := by decide +kernel
theorem dX12_strokesNow_90 : decode cX12_strokesNow 90 = .ok (.if_icmp .ne 7, 3) := by decide +kernel
theorem dX12_strokesNow_93 : decode cX12_strokesNow 93 = .ok (.iconst 1, 1) := by decide +kernel
theorem dX12_strokesNow_94 : decode cX12_strokesNow 94 = .ok (.goto 18, 3) := by decide +kernel
theorem dX12_strokesNow_97 : decode cX12_strokesNow 97 = .ok (.aload_n 0, 1) := by decide +kernel
theorem dX12_strokesNow_98 : decode cX12_strokesNow 98 = .ok (.iload_n 3, 1) := by decide +kernel
theorem dX12_strokesNow_99 : decode cX12_strokesNow 99 = .ok (.iconst 1, 1) := by decide +kernel
theorem dX12_strokesNow_100 : decode cX12_strokesNow 100 = .ok (.iload 4, 2) := by decide +kernel
theorem dX12_strokesNow_102 : decode cX12_strokesNow 102 = .ok (.ishl, 1) := by decide +kernel
theorem dX12_strokesNow_103 : decode cX12_strokesNow 103 = .ok (.iconst (-1), 1) := by decide +kernel
theorem dX12_strokesNow_104 : decode cX12_strokesNow 104 = .ok (.ixor, 1) := by decide +kernel
theorem dX12_strokesNow_105 : decode cX12_strokesNow 105 = .ok (.iand, 1) := by decide +kernel
theorem dX12_strokesNow_106 : decode cX12_strokesNow 106 = .ok (.iload 4, 2) := by decide +kernel
theorem dX12_strokesNow_108 : decode cX12_strokesNow 108 = .ok (.iload_n 1, 1) := by decide +kernel
theorem dX12_strokesNow_109 : decode cX12_strokesNow 109 = .ok (.invokevirtual 481, 3) := by decide +kernel
theorem dX12_strokesNow_112 : decode cX12_strokesNow 112 = .ok (.istore 5, 2) := by decide +kernel
theorem dX12_strokesNow_114 : decode cX12_strokesNow 114 = .ok (.aload_n 0, 1) := by decide +kernel
theorem dX12_strokesNow_115 : decode cX12_strokesNow 115 = .ok (.getfield 43, 3) := by decide +kernel
theorem dX12_strokesNow_118 : decode cX12_strokesNow 118 = .ok (.bipush 12, 2) := by decide +kernel
theorem dX12_strokesNow_120 : decode cX12_strokesNow 120 = .ok (.iload_n 3, 1) := by decide +kernel
theorem dX12_strokesNow_121 : decode cX12_strokesNow 121 = .ok (.imul, 1) := by decide +kernel
theorem dX12_strokesNow_122 : decode cX12_strokesNow 122 = .ok (.iload 4, 2) := by decide +kernel
theorem dX12_strokesNow_124 : decode cX12_strokesNow 124 = .ok (.iadd, 1) := by decide +kernel
theorem dX12_strokesNow_125 : decode cX12_strokesNow 125 = .ok (.iload 5, 2) := by decide +kernel
theorem dX12_strokesNow_127 : decode cX12_strokesNow 127 = .ok (.iastore, 1) := by decide +kernel
theorem dX12_strokesNow_128 : decode cX12_strokesNow 128 = .ok (.iload_n 3, 1) := by decide +kernel
theorem dX12_strokesNow_129 : decode cX12_strokesNow 129 = .ok (.iconst 1, 1) := by decide +kernel
theorem dX12_strokesNow_130 : decode cX12_strokesNow 130 = .ok (.iload_n 1, 1) := by decide +kernel
theorem dX12_strokesNow_131 : decode cX12_strokesNow 131 = .ok (.ishl, 1) := by decide +kernel
theorem dX12_strokesNow_132 : decode cX12_strokesNow 132 = .ok (.iconst 1, 1) := by decide +kernel
theorem dX12_strokesNow_133 : decode cX12_strokesNow 133 = .ok (.isub, 1) := by decide +kernel
theorem dX12_strokesNow_134 : decode cX12_strokesNow 134 = .ok (.if_icmp .ne 12, 3) := by decide +kernel
theorem dX12_strokesNow_137 : decode cX12_strokesNow 137 = .ok (.iload 5, 2) := by decide +kernel
theorem dX12_strokesNow_139 : decode cX12_strokesNow 139 = .ok (.iload_n 2, 1) := by decide +kernel
theorem dX12_strokesNow_140 : decode cX12_strokesNow 140 = .ok (.if_icmp .ge 6, 3) := by decide +kernel
theorem dX12_strokesNow_143 : decode cX12_strokesNow 143 = .ok (.iload 5, 2) := by decide +kernel
theorem dX12_strokesNow_145 : decode cX12_strokesNow 145 = .ok (.istore_n 2, 1) := by decide +kernel
theorem dX12_strokesNow_146 : decode cX12_strokesNow 146 = .ok (.iinc 4 1, 3) := by decide +kernel
theorem dX12_strokesNow_149 : decode cX12_strokesNow 149 = .ok (.goto (-84), 3) := by decide +kernel
theorem dX12_strokesNow_152 : decode cX12_strokesNow 152 = .ok (.iinc 3 1, 3) := by decide +kernel
theorem dX12_strokesNow_155 : decode cX12_strokesNow 155 = .ok (.goto (-100), 3) := by decide +kernel
theorem dX12_strokesNow_158 : decode cX12_strokesNow 158 = .ok (.iload_n 2, 1) := by decide +kernel
theorem dX12_strokesNow_159 : decode cX12_strokesNow 159 = .ok (.ireturn, 1) := by decide +kernel
theorem dX12_strokesTo_0 : decode cX12_strokesTo 0 = .ok (.iload_n 3, 1) := by decide +kernel
theorem dX12_strokesTo_1 : decode cX12_strokesTo 1 = .ok (.iconst 1, 1) := by decide +kernel
theorem dX12_strokesTo_2 : decode cX12_strokesTo 2 = .ok (.iadd, 1) := by decide +kernel
theorem dX12_strokesTo_3 : decode cX12_strokesTo 3 = .ok (.istore 4, 2) := by decide +kernel
theorem dX12_strokesTo_5 : decode cX12_strokesTo 5 = .ok (.iconst 0, 1) := by decide +kernel
theorem dX12_strokesTo_6 : decode cX12_strokesTo 6 = .ok (.istore 5, 2) := by decide +kernel
theorem dX12_strokesTo_8 : decode cX12_strokesTo 8 = .ok (.iload 5, 2) := by decide +kernel
theorem dX12_strokesTo_10 : decode cX12_strokesTo 10 = .ok (.iload_n 3, 1) := by decide +kernel
theorem dX12_strokesTo_11 : decode cX12_strokesTo 11 = .ok (.if_icmp .ge 72, 3) := by decide +kernel
theorem dX12_strokesTo_14 : decode cX12_strokesTo 14 = .ok (.aload_n 0, 1) := by decide +kernel
theorem dX12_strokesTo_15 : decode cX12_strokesTo 15 = .ok (.getfield 43, 3) := by decide +kernel
theorem dX12_strokesTo_18 : decode cX12_strokesTo 18 = .ok (.bipush 12, 2) := by decide +kernel
theorem dX12_strokesTo_20 : decode cX12_strokesTo 20 = .ok (.iload_n 1, 1) := by decide +kernel
theorem dX12_strokesTo_21 : decode cX12_strokesTo 21 = .ok (.imul, 1) := by decide +kernel
theorem dX12_strokesTo_22 : decode cX12_strokesTo 22 = .ok (.iload 5, 2) := by decide +kernel
theorem dX12_strokesTo_24 : decode cX12_strokesTo 24 = .ok (.iadd, 1) := by decide +kernel
theorem dX12_strokesTo_25 : decode cX12_strokesTo 25 = .ok (.iaload, 1) := by decide +kernel
theorem dX12_strokesTo_26 : decode cX12_strokesTo 26 = .ok (.istore 6, 2) := by decide +kernel
theorem dX12_strokesTo_28 : decode cX12_strokesTo 28 = .ok (.iload 6, 2) := by decide +kernel
theorem dX12_strokesTo_30 : decode cX12_strokesTo 30 = .ok (.bipush (-2), 2) := by decide +kernel
theorem dX12_strokesTo_32 : decode cX12_strokesTo 32 = .ok (.if_icmp .ne 6, 3) := by decide +kernel
theorem dX12_strokesTo_35 : decode cX12_strokesTo 35 = .ok (.goto 42, 3) := by decide +kernel
theorem dX12_strokesTo_38 : decode cX12_strokesTo 38 = .ok (.aload_n 0, 1) := by decide +kernel
theorem dX12_strokesTo_39 : decode cX12_strokesTo 39 = .ok (.aload_n 0, 1) := by decide +kernel
theorem dX12_strokesTo_40 : decode cX12_strokesTo 40 = .ok (.getfield 46, 3) := by decide +kernel
theorem dX12_strokesTo_43 : decode cX12_strokesTo 43 = .ok (.iload 5, 2) := by decide +kernel
theorem dX12_strokesTo_45 : decode cX12_strokesTo 45 = .ok (.iaload, 1) := by decide +kernel
theorem dX12_strokesTo_46 : decode cX12_strokesTo 46 = .ok (.aload_n 0, 1) := by decide +kernel
theorem dX12_strokesTo_47 : decode cX12_strokesTo 47 = .ok (.getfield 46, 3) := by decide +kernel
theorem dX12_strokesTo_50 : decode cX12_strokesTo 50 = .ok (.iload_n 2, 1) := by decide +kernel
theorem dX12_strokesTo_51 : decode cX12_strokesTo 51 = .ok (.iaload, 1) := by decide +kernel
theorem dX12_strokesTo_52 : decode cX12_strokesTo 52 = .ok (.invokevirtual 485, 3) := by decide +kernel
theorem dX12_strokesTo_55 : decode cX12_strokesTo 55 = .ok (.ifCond .ne 6, 3) := by decide +kernel
theorem dX12_strokesTo_58 : decode cX12_strokesTo 58 = .ok (.iinc 6 1, 3) := by decide +kernel
theorem dX12_strokesTo_61 : decode cX12_strokesTo 61 = .ok (.iload 6, 2) := by decide +kernel
theorem dX12_strokesTo_63 : decode cX12_strokesTo 63 = .ok (.iload 4, 2) := by decide +kernel
theorem dX12_strokesTo_65 : decode cX12_strokesTo 65 = .ok (.if_icmp .ge 8, 3) := by decide +kernel
theorem dX12_strokesTo_68 : decode cX12_strokesTo 68 = .ok (.iload 6, 2) := by decide +kernel
theorem dX12_strokesTo_70 : decode cX12_strokesTo 70 = .ok (.goto 5, 3) := by decide +kernel
theorem dX12_strokesTo_73 : decode cX12_strokesTo 73 = .ok (.iload 4, 2) := by decide +kernel
theorem dX12_strokesTo_75 : decode cX12_strokesTo 75 = .ok (.istore 4, 2) := by decide +kernel
theorem dX12_strokesTo_77 : decode cX12_strokesTo 77 = .ok (.iinc 5 1, 3) := by decide +kernel
theorem dX12_strokesTo_80 : decode cX12_strokesTo 80 = .ok (.goto (-72), 3) := by decide +kernel
theorem dX12_strokesTo_83 : decode cX12_strokesTo 83 = .ok (.iload 4, 2) := by decide +kernel
theorem dX12_strokesTo_85 : decode cX12_strokesTo 85 = .ok (.ireturn, 1) := by decide +kernel
theorem dX12_isBeside_0 : decode cX12_isBeside 0 = .ok (.iconst 0, 1) := by decide +kernel
theorem dX12_isBeside_1 : decode cX12_isBeside 1 = .ok (.istore_n 3, 1) := by decide +kernel
theorem dX12_isBeside_2 : decode cX12_isBeside 2 = .ok (.iload_n 3, 1) := by decide +kernel
theorem dX12_isBeside_3 : decode cX12_isBeside 3 = .ok (.iconst 4, 1) := by decide +kernel
theorem dX12_isBeside_4 : decode cX12_isBeside 4 = .ok (.if_icmp .ge 24, 3) := by decide +kernel
theorem dX12_isBeside_7 : decode cX12_isBeside 7 = .ok (.aload_n 0, 1) := by decide +kernel
theorem dX12_isBeside_8 : decode cX12_isBeside 8 = .ok (.getfield 355, 3) := by decide +kernel
theorem dX12_isBeside_11 : decode cX12_isBeside 11 = .ok (.iload_n 1, 1) := by decide +kernel
theorem dX12_isBeside_12 : decode cX12_isBeside 12 = .ok (.iload_n 3, 1) := by decide +kernel
theorem dX12_isBeside_13 : decode cX12_isBeside 13 = .ok (.invokevirtual 371, 3) := by decide +kernel
theorem dX12_isBeside_16 : decode cX12_isBeside 16 = .ok (.iload_n 2, 1) := by decide +kernel
theorem dX12_isBeside_17 : decode cX12_isBeside 17 = .ok (.if_icmp .ne 5, 3) := by decide +kernel
theorem dX12_isBeside_20 : decode cX12_isBeside 20 = .ok (.iconst 1, 1) := by decide +kernel
theorem dX12_isBeside_21 : decode cX12_isBeside 21 = .ok (.ireturn, 1) := by decide +kernel
theorem dX12_isBeside_22 : decode cX12_isBeside 22 = .ok (.iinc 3 1, 3) := by decide +kernel
theorem dX12_isBeside_25 : decode cX12_isBeside 25 = .ok (.goto (-23), 3) := by decide +kernel
theorem dX12_isBeside_28 : decode cX12_isBeside 28 = .ok (.iconst 0, 1) := by decide +kernel
theorem dX12_isBeside_29 : decode cX12_isBeside 29 = .ok (.ireturn, 1) := by decide +kernel
theorem dX12_strokes_0 : decode cX12_strokes 0 = .ok (.aload_n 0, 1) := by decide +kernel
theorem dX12_strokes_1 : decode cX12_strokes 1 = .ok (.iconst 0, 1) := by decide +kernel
theorem dX12_strokes_2 : decode cX12_strokes 2 = .ok (.putfield 62, 3) := by decide +kernel
theorem dX12_strokes_5 : decode cX12_strokes 5 = .ok (.aload_n 0, 1) := by decide +kernel
theorem dX12_strokes_6 : decode cX12_strokes 6 = .ok (.getfield 355, 3) := by decide +kernel
theorem dX12_strokes_9 : decode cX12_strokes 9 = .ok (.ifnonnull 9, 3) := by decide +kernel
theorem dX12_strokes_12 : decode cX12_strokes 12 = .ok (.aload_n 0, 1) := by decide +kernel
theorem dX12_strokes_13 : decode cX12_strokes 13 = .ok (.iconst 1, 1) := by decide +kernel
theorem dX12_strokes_14 : decode cX12_strokes 14 = .ok (.invokevirtual 68, 3) := by decide +kernel
theorem dX12_strokes_17 : decode cX12_strokes 17 = .ok (.ireturn, 1) := by decide +kernel
theorem dX12_strokes_18 : decode cX12_strokes 18 = .ok (.aload_n 0, 1) := by decide +kernel
theorem dX12_strokes_19 : decode cX12_strokes 19 = .ok (.invokevirtual 478, 3) := by decide +kernel
theorem dX12_strokes_22 : decode cX12_strokes 22 = .ok (.invokestatic 367, 3) := by decide +kernel
theorem dX12_strokes_25 : decode cX12_strokes 25 = .ok (.bipush 12, 2) := by decide +kernel
theorem dX12_strokes_27 : decode cX12_strokes 27 = .ok (.if_icmp .le 11, 3) := by decide +kernel
theorem dX12_strokes_30 : decode cX12_strokes 30 = .ok (.aload_n 0, 1) := by decide +kernel
theorem dX12_strokes_31 : decode cX12_strokes 31 = .ok (.iconst 3, 1) := by decide +kernel
theorem dX12_strokes_32 : decode cX12_strokes 32 = .ok (.invokevirtual 68, 3) := by decide +kernel
theorem dX12_strokes_35 : decode cX12_strokes 35 = .ok (.goto 11, 3) := by decide +kernel
theorem dX12_strokes_38 : decode cX12_strokes 38 = .ok (.aload_n 0, 1) := by decide +kernel
theorem dX12_strokes_39 : decode cX12_strokes 39 = .ok (.aload_n 0, 1) := by decide +kernel
theorem dX12_strokes_40 : decode cX12_strokes 40 = .ok (.invokevirtual 488, 3) := by decide +kernel
theorem dX12_strokes_43 : decode cX12_strokes 43 = .ok (.invokevirtual 72, 3) := by decide +kernel
theorem dX12_strokes_46 : decode cX12_strokes 46 = .ok (.ireturn, 1) := by decide +kernel
theorem dX12_weekOf_0 : decode cX12_weekOf 0 = .ok (.lload_n 1, 1) := by decide +kernel
theorem dX12_weekOf_1 : decode cX12_weekOf 1 = .ok (.lstore_n 3, 1) := by decide +kernel
theorem dX12_weekOf_2 : decode cX12_weekOf 2 = .ok (.iconst 0, 1) := by decide +kernel
theorem dX12_weekOf_3 : decode cX12_weekOf 3 = .ok (.istore 5, 2) := by decide +kernel
theorem dX12_weekOf_5 : decode cX12_weekOf 5 = .ok (.iload 5, 2) := by decide +kernel
theorem dX12_weekOf_7 : decode cX12_weekOf 7 = .ok (.aload_n 0, 1) := by decide +kernel
theorem dX12_weekOf_8 : decode cX12_weekOf 8 = .ok (.getfield 355, 3) := by decide +kernel
theorem dX12_weekOf_11 : decode cX12_weekOf 11 = .ok (.invokevirtual 381, 3) := by decide +kernel
theorem dX12_weekOf_14 : decode cX12_weekOf 14 = .ok (.if_icmp .ge 60, 3) := by decide +kernel
theorem dX12_weekOf_17 : decode cX12_weekOf 17 = .ok (.lload_n 1, 1) := by decide +kernel
theorem dX12_weekOf_18 : decode cX12_weekOf 18 = .ok (.iload 5, 2) := by decide +kernel
theorem dX12_weekOf_20 : decode cX12_weekOf 20 = .ok (.invokestatic 75, 3) := by decide +kernel
theorem dX12_weekOf_23 : decode cX12_weekOf 23 = .ok (.ifCond .eq 45, 3) := by decide +kernel
theorem dX12_weekOf_26 : decode cX12_weekOf 26 = .ok (.aload_n 0, 1) := by decide +kernel
theorem dX12_weekOf_27 : decode cX12_weekOf 27 = .ok (.iload 5, 2) := by decide +kernel
theorem dX12_weekOf_29 : decode cX12_weekOf 29 = .ok (.invokevirtual 449, 3) := by decide +kernel
theorem dX12_weekOf_32 : decode cX12_weekOf 32 = .ok (.ifCond .ne 36, 3) := by decide +kernel
theorem dX12_weekOf_35 : decode cX12_weekOf 35 = .ok (.iconst 4, 1) := by decide +kernel
theorem dX12_weekOf_36 : decode cX12_weekOf 36 = .ok (.aload_n 0, 1) := by decide +kernel
theorem dX12_weekOf_37 : decode cX12_weekOf 37 = .ok (.lload_n 1, 1) := by decide +kernel
theorem dX12_weekOf_38 : decode cX12_weekOf 38 = .ok (.iload 5, 2) := by decide +kernel
theorem dX12_weekOf_40 : decode cX12_weekOf 40 = .ok (.invokevirtual 396, 3) := by decide +kernel
theorem dX12_weekOf_43 : decode cX12_weekOf 43 = .ok (.invokestatic 367, 3) := by decide +kernel
theorem dX12_weekOf_46 : decode cX12_weekOf 46 = .ok (.isub, 1) := by decide +kernel
theorem dX12_weekOf_47 : decode cX12_weekOf 47 = .ok (.aload_n 0, 1) := by decide +kernel
theorem dX12_weekOf_48 : decode cX12_weekOf 48 = .ok (.getfield 355, 3) := by decide +kernel
theorem dX12_weekOf_51 : decode cX12_weekOf 51 = .ok (.getfield 241, 3) := by decide +kernel
theorem dX12_weekOf_54 : decode cX12_weekOf 54 = .ok (.if_icmp .lt 14, 3) := by decide +kernel
theorem dX12_weekOf_57 : decode cX12_weekOf 57 = .ok (.lload_n 3, 1) := by decide +kernel
theorem dX12_weekOf_58 : decode cX12_weekOf 58 = .ok (.lconst 1, 1) := by decide +kernel
theorem dX12_weekOf_59 : decode cX12_weekOf 59 = .ok (.iload 5, 2) := by decide +kernel
theorem dX12_weekOf_61 : decode cX12_weekOf 61 = .ok (.lshl, 1) := by decide +kernel
theorem dX12_weekOf_62 : decode cX12_weekOf 62 = .ok (.ldc2_w 384, 3) := by decide +kernel
theorem dX12_weekOf_65 : decode cX12_weekOf 65 = .ok (.lxor, 1) := by decide +kernel
theorem dX12_weekOf_66 : decode cX12_weekOf 66 = .ok (.land, 1) := by decide +kernel
theorem dX12_weekOf_67 : decode cX12_weekOf 67 = .ok (.lstore_n 3, 1) := by decide +kernel
theorem dX12_weekOf_68 : decode cX12_weekOf 68 = .ok (.iinc 5 1, 3) := by decide +kernel
theorem dX12_weekOf_71 : decode cX12_weekOf 71 = .ok (.goto (-66), 3) := by decide +kernel
theorem dX12_weekOf_74 : decode cX12_weekOf 74 = .ok (.lload_n 3, 1) := by decide +kernel
theorem dX12_weekOf_75 : decode cX12_weekOf 75 = .ok (.lreturn, 1) := by decide +kernel
theorem dX12_shut_0 : decode cX12_shut 0 = .ok (.aload_n 0, 1) := by decide +kernel
theorem dX12_shut_1 : decode cX12_shut 1 = .ok (.iconst 0, 1) := by decide +kernel
theorem dX12_shut_2 : decode cX12_shut 2 = .ok (.putfield 62, 3) := by decide +kernel
theorem dX12_shut_5 : decode cX12_shut 5 = .ok (.aload_n 0, 1) := by decide +kernel
theorem dX12_shut_6 : decode cX12_shut 6 = .ok (.iload_n 1, 1) := by decide +kernel
theorem dX12_shut_7 : decode cX12_shut 7 = .ok (.iload_n 2, 1) := by decide +kernel
theorem dX12_shut_8 : decode cX12_shut 8 = .ok (.invokevirtual 389, 3) := by decide +kernel
theorem dX12_shut_11 : decode cX12_shut 11 = .ok (.ifCond .ne 9, 3) := by decide +kernel
theorem dX12_shut_14 : decode cX12_shut 14 = .ok (.aload_n 0, 1) := by decide +kernel
theorem dX12_shut_15 : decode cX12_shut 15 = .ok (.iconst 1, 1) := by decide +kernel
theorem dX12_shut_16 : decode cX12_shut 16 = .ok (.invokevirtual 68, 3) := by decide +kernel
theorem dX12_shut_19 : decode cX12_shut 19 = .ok (.ireturn, 1) := by decide +kernel
theorem dX12_shut_20 : decode cX12_shut 20 = .ok (.aload_n 0, 1) := by decide +kernel
theorem dX12_shut_21 : decode cX12_shut 21 = .ok (.getfield 357, 3) := by decide +kernel
theorem dX12_shut_24 : decode cX12_shut 24 = .ok (.aload_n 0, 1) := by decide +kernel
theorem dX12_shut_25 : decode cX12_shut 25 = .ok (.iload_n 1, 1) := by decide +kernel
theorem dX12_shut_26 : decode cX12_shut 26 = .ok (.iload_n 2, 1) := by decide +kernel
theorem dX12_shut_27 : decode cX12_shut 27 = .ok (.invokevirtual 393, 3) := by decide +kernel
theorem dX12_shut_30 : decode cX12_shut 30 = .ok (.invokestatic 75, 3) := by decide +kernel
theorem dX12_shut_33 : decode cX12_shut 33 = .ok (.ifCond .ne 9, 3) := by decide +kernel
theorem dX12_shut_36 : decode cX12_shut 36 = .ok (.aload_n 0, 1) := by decide +kernel
theorem dX12_shut_37 : decode cX12_shut 37 = .ok (.iconst 5, 1) := by decide +kernel
theorem dX12_shut_38 : decode cX12_shut 38 = .ok (.invokevirtual 68, 3) := by decide +kernel
theorem dX12_shut_41 : decode cX12_shut 41 = .ok (.ireturn, 1) := by decide +kernel
theorem dX12_shut_42 : decode cX12_shut 42 = .ok (.aload_n 0, 1) := by decide +kernel
theorem dX12_shut_43 : decode cX12_shut 43 = .ok (.getfield 357, 3) := by decide +kernel
theorem dX12_shut_46 : decode cX12_shut 46 = .ok (.lstore_n 3, 1) := by decide +kernel
theorem dX12_shut_47 : decode cX12_shut 47 = .ok (.iconst 1, 1) := by decide +kernel
theorem dX12_shut_48 : decode cX12_shut 48 = .ok (.istore 5, 2) := by decide +kernel
theorem dX12_shut_50 : decode cX12_shut 50 = .ok (.iload 5, 2) := by decide +kernel
theorem dX12_shut_52 : decode cX12_shut 52 = .ok (.bipush 60, 2) := by decide +kernel
theorem dX12_shut_54 : decode cX12_shut 54 = .ok (.if_icmp .gt 35, 3) := by decide +kernel
theorem dX12_shut_57 : decode cX12_shut 57 = .ok (.aload_n 0, 1) := by decide +kernel
theorem dX12_shut_58 : decode cX12_shut 58 = .ok (.lload_n 3, 1) := by decide +kernel
theorem dX12_shut_59 : decode cX12_shut 59 = .ok (.invokevirtual 491, 3) := by decide +kernel
theorem dX12_shut_62 : decode cX12_shut 62 = .ok (.lstore_n 3, 1) := by decide +kernel
theorem dX12_shut_63 : decode cX12_shut 63 = .ok (.lload_n 3, 1) := by decide +kernel
theorem dX12_shut_64 : decode cX12_shut 64 = .ok (.aload_n 0, 1) := by decide +kernel
theorem dX12_shut_65 : decode cX12_shut 65 = .ok (.iload_n 1, 1) := by decide +kernel
theorem dX12_shut_66 : decode cX12_shut 66 = .ok (.iload_n 2, 1) := by decide +kernel
theorem dX12_shut_67 : decode cX12_shut 67 = .ok (.invokevirtual 393, 3) := by decide +kernel
theorem dX12_shut_70 : decode cX12_shut 70 = .ok (.invokestatic 75, 3) := by decide +kernel
theorem dX12_shut_73 : decode cX12_shut 73 = .ok (.ifCond .ne 10, 3) := by decide +kernel
theorem dX12_shut_76 : decode cX12_shut 76 = .ok (.aload_n 0, 1) := by decide +kernel
theorem dX12_shut_77 : decode cX12_shut 77 = .ok (.iload 5, 2) := by decide +kernel
theorem dX12_shut_79 : decode cX12_shut 79 = .ok (.invokevirtual 72, 3) := by decide +kernel
theorem dX12_shut_82 : decode cX12_shut 82 = .ok (.ireturn, 1) := by decide +kernel
theorem dX12_shut_83 : decode cX12_shut 83 = .ok (.iinc 5 1, 3) := by decide +kernel
theorem dX12_shut_86 : decode cX12_shut 86 = .ok (.goto (-36), 3) := by decide +kernel
theorem dX12_shut_89 : decode cX12_shut 89 = .ok (.aload_n 0, 1) := by decide +kernel
theorem dX12_shut_90 : decode cX12_shut 90 = .ok (.bipush (-2), 2) := by decide +kernel
theorem dX12_shut_92 : decode cX12_shut 92 = .ok (.invokevirtual 72, 3) := by decide +kernel
theorem dX12_shut_95 : decode cX12_shut 95 = .ok (.ireturn, 1) := by decide +kernel
theorem dX12_hasWay_0 : decode cX12_hasWay 0 = .ok (.iconst 0, 1) := by decide +kernel
theorem dX12_hasWay_1 : decode cX12_hasWay 1 = .ok (.istore_n 3, 1) := by decide +kernel
theorem dX12_hasWay_2 : decode cX12_hasWay 2 = .ok (.iload_n 3, 1) := by decide +kernel
theorem dX12_hasWay_3 : decode cX12_hasWay 3 = .ok (.aload_n 0, 1) := by decide +kernel
theorem dX12_hasWay_4 : decode cX12_hasWay 4 = .ok (.getfield 355, 3) := by decide +kernel
theorem dX12_hasWay_7 : decode cX12_hasWay 7 = .ok (.getfield 301, 3) := by decide +kernel
theorem dX12_hasWay_10 : decode cX12_hasWay 10 = .ok (.if_icmp .ge 66, 3) := by decide +kernel
theorem dX12_hasWay_13 : decode cX12_hasWay 13 = .ok (.aload_n 0, 1) := by decide +kernel
theorem dX12_hasWay_14 : decode cX12_hasWay 14 = .ok (.lload_n 1, 1) := by decide +kernel
theorem dX12_hasWay_15 : decode cX12_hasWay 15 = .ok (.aload_n 0, 1) := by decide +kernel
theorem dX12_hasWay_16 : decode cX12_hasWay 16 = .ok (.getfield 355, 3) := by decide +kernel
theorem dX12_hasWay_19 : decode cX12_hasWay 19 = .ok (.getfield 341, 3) := by decide +kernel
theorem dX12_hasWay_22 : decode cX12_hasWay 22 = .ok (.iload_n 3, 1) := by decide +kernel
theorem dX12_hasWay_23 : decode cX12_hasWay 23 = .ok (.iaload, 1) := by decide +kernel
theorem dX12_hasWay_24 : decode cX12_hasWay 24 = .ok (.invokevirtual 377, 3) := by decide +kernel
theorem dX12_hasWay_27 : decode cX12_hasWay 27 = .ok (.iconst 0, 1) := by decide +kernel
theorem dX12_hasWay_28 : decode cX12_hasWay 28 = .ok (.istore 4, 2) := by decide +kernel
theorem dX12_hasWay_30 : decode cX12_hasWay 30 = .ok (.iload 4, 2) := by decide +kernel
theorem dX12_hasWay_32 : decode cX12_hasWay 32 = .ok (.aload_n 0, 1) := by decide +kernel
theorem dX12_hasWay_33 : decode cX12_hasWay 33 = .ok (.getfield 355, 3) := by decide +kernel
theorem dX12_hasWay_36 : decode cX12_hasWay 36 = .ok (.getfield 278, 3) := by decide +kernel
theorem dX12_hasWay_39 : decode cX12_hasWay 39 = .ok (.if_icmp .ge 31, 3) := by decide +kernel
theorem dX12_hasWay_42 : decode cX12_hasWay 42 = .ok (.aload_n 0, 1) := by decide +kernel
theorem dX12_hasWay_43 : decode cX12_hasWay 43 = .ok (.getfield 21, 3) := by decide +kernel
theorem dX12_hasWay_46 : decode cX12_hasWay 46 = .ok (.aload_n 0, 1) := by decide +kernel
theorem dX12_hasWay_47 : decode cX12_hasWay 47 = .ok (.getfield 355, 3) := by decide +kernel
theorem dX12_hasWay_50 : decode cX12_hasWay 50 = .ok (.getfield 284, 3) := by decide +kernel
theorem dX12_hasWay_53 : decode cX12_hasWay 53 = .ok (.iload 4, 2) := by decide +kernel
theorem dX12_hasWay_55 : decode cX12_hasWay 55 = .ok (.iaload, 1) := by decide +kernel
theorem dX12_hasWay_56 : decode cX12_hasWay 56 = .ok (.iaload, 1) := by decide +kernel
theorem dX12_hasWay_57 : decode cX12_hasWay 57 = .ok (.bipush (-2), 2) := by decide +kernel
theorem dX12_hasWay_59 : decode cX12_hasWay 59 = .ok (.if_icmp .eq 5, 3) := by decide +kernel
theorem dX12_hasWay_62 : decode cX12_hasWay 62 = .ok (.iconst 1, 1) := by decide +kernel
theorem dX12_hasWay_63 : decode cX12_hasWay 63 = .ok (.ireturn, 1) := by decide +kernel
theorem dX12_hasWay_64 : decode cX12_hasWay 64 = .ok (.iinc 4 1, 3) := by decide +kernel
theorem dX12_hasWay_67 : decode cX12_hasWay 67 = .ok (.goto (-37), 3) := by decide +kernel
theorem dX12_hasWay_70 : decode cX12_hasWay 70 = .ok (.iinc 3 1, 3) := by decide +kernel
theorem dX12_hasWay_73 : decode cX12_hasWay 73 = .ok (.goto (-71), 3) := by decide +kernel
theorem dX12_hasWay_76 : decode cX12_hasWay 76 = .ok (.iconst 0, 1) := by decide +kernel
theorem dX12_hasWay_77 : decode cX12_hasWay 77 = .ok (.ireturn, 1) := by decide +kernel
theorem dX12_shutWays_0 : decode cX12_shutWays 0 = .ok (.aload_n 0, 1) := by decide +kernel
theorem dX12_shutWays_1 : decode cX12_shutWays 1 = .ok (.iconst 0, 1) := by decide +kernel
theorem dX12_shutWays_2 : decode cX12_shutWays 2 = .ok (.putfield 62, 3) := by decide +kernel
theorem dX12_shutWays_5 : decode cX12_shutWays 5 = .ok (.aload_n 0, 1) := by decide +kernel
theorem dX12_shutWays_6 : decode cX12_shutWays 6 = .ok (.getfield 355, 3) := by decide +kernel
theorem dX12_shutWays_9 : decode cX12_shutWays 9 = .ok (.ifnonnull 9, 3) := by decide +kernel
theorem dX12_shutWays_12 : decode cX12_shutWays 12 = .ok (.aload_n 0, 1) := by decide +kernel
theorem dX12_shutWays_13 : decode cX12_shutWays 13 = .ok (.iconst 1, 1) := by decide +kernel
theorem dX12_shutWays_14 : decode cX12_shutWays 14 = .ok (.invokevirtual 68, 3) := by decide +kernel
theorem dX12_shutWays_17 : decode cX12_shutWays 17 = .ok (.ireturn, 1) := by decide +kernel
theorem dX12_shutWays_18 : decode cX12_shutWays 18 = .ok (.aload_n 0, 1) := by decide +kernel
theorem dX12_shutWays_19 : decode cX12_shutWays 19 = .ok (.getfield 355, 3) := by decide +kernel
theorem dX12_shutWays_22 : decode cX12_shutWays 22 = .ok (.getfield 301, 3) := by decide +kernel
theorem dX12_shutWays_25 : decode cX12_shutWays 25 = .ok (.ifCond .ne 10, 3) := by decide +kernel
theorem dX12_shutWays_28 : decode cX12_shutWays 28 = .ok (.aload_n 0, 1) := by decide +kernel
theorem dX12_shutWays_29 : decode cX12_shutWays 29 = .ok (.bipush 6, 2) := by decide +kernel
theorem dX12_shutWays_31 : decode cX12_shutWays 31 = .ok (.invokevirtual 68, 3) := by decide +kernel
theorem dX12_shutWays_34 : decode cX12_shutWays 34 = .ok (.ireturn, 1) := by decide +kernel
theorem dX12_shutWays_35 : decode cX12_shutWays 35 = .ok (.aload_n 0, 1) := by decide +kernel
theorem dX12_shutWays_36 : decode cX12_shutWays 36 = .ok (.getfield 357, 3) := by decide +kernel
theorem dX12_shutWays_39 : decode cX12_shutWays 39 = .ok (.lstore_n 1, 1) := by decide +kernel
theorem dX12_shutWays_40 : decode cX12_shutWays 40 = .ok (.iconst 0, 1) := by decide +kernel
theorem dX12_shutWays_41 : decode cX12_shutWays 41 = .ok (.istore_n 3, 1) := by decide +kernel
theorem dX12_shutWays_42 : decode cX12_shutWays 42 = .ok (.iload_n 3, 1) := by decide +kernel
theorem dX12_shutWays_43 : decode cX12_shutWays 43 = .ok (.bipush 60, 2) := by decide +kernel
theorem dX12_shutWays_45 : decode cX12_shutWays 45 = .ok (.if_icmp .gt 29, 3) := by decide +kernel
theorem dX12_shutWays_48 : decode cX12_shutWays 48 = .ok (.aload_n 0, 1) := by decide +kernel
theorem dX12_shutWays_49 : decode cX12_shutWays 49 = .ok (.lload_n 1, 1) := by decide +kernel
theorem dX12_shutWays_50 : decode cX12_shutWays 50 = .ok (.invokevirtual 495, 3) := by decide +kernel
theorem dX12_shutWays_53 : decode cX12_shutWays 53 = .ok (.ifCond .ne 9, 3) := by decide +kernel
theorem dX12_shutWays_56 : decode cX12_shutWays 56 = .ok (.aload_n 0, 1) := by decide +kernel
theorem dX12_shutWays_57 : decode cX12_shutWays 57 = .ok (.iload_n 3, 1) := by decide +kernel
theorem dX12_shutWays_58 : decode cX12_shutWays 58 = .ok (.invokevirtual 72, 3) := by decide +kernel
theorem dX12_shutWays_61 : decode cX12_shutWays 61 = .ok (.ireturn, 1) := by decide +kernel
theorem dX12_shutWays_62 : decode cX12_shutWays 62 = .ok (.aload_n 0, 1) := by decide +kernel
theorem dX12_shutWays_63 : decode cX12_shutWays 63 = .ok (.lload_n 1, 1) := by decide +kernel
theorem dX12_shutWays_64 : decode cX12_shutWays 64 = .ok (.invokevirtual 491, 3) := by decide +kernel
theorem dX12_shutWays_67 : decode cX12_shutWays 67 = .ok (.lstore_n 1, 1) := by decide +kernel
theorem dX12_shutWays_68 : decode cX12_shutWays 68 = .ok (.iinc 3 1, 3) := by decide +kernel
theorem dX12_shutWays_71 : decode cX12_shutWays 71 = .ok (.goto (-29), 3) := by decide +kernel
theorem dX12_shutWays_74 : decode cX12_shutWays 74 = .ok (.aload_n 0, 1) := by decide +kernel
theorem dX12_shutWays_75 : decode cX12_shutWays 75 = .ok (.bipush (-2), 2) := by decide +kernel
theorem dX12_shutWays_77 : decode cX12_shutWays 77 = .ok (.invokevirtual 72, 3) := by decide +kernel
theorem dX12_shutWays_80 : decode cX12_shutWays 80 = .ok (.ireturn, 1) := by decide +kernel
theorem dX12_isFree_0 : decode cX12_isFree 0 = .ok (.iload_n 1, 1) := by decide +kernel
theorem dX12_isFree_1 : decode cX12_isFree 1 = .ok (.aload_n 0, 1) := by decide +kernel
theorem dX12_isFree_2 : decode cX12_isFree 2 = .ok (.getfield 355, 3) := by decide +kernel
theorem dX12_isFree_5 : decode cX12_isFree 5 = .ok (.getfield 166, 3) := by decide +kernel
theorem dX12_isFree_8 : decode cX12_isFree 8 = .ok (.irem, 1) := by decide +kernel
theorem dX12_isFree_9 : decode cX12_isFree 9 = .ok (.iload_n 2, 1) := by decide +kernel
theorem dX12_isFree_10 : decode cX12_isFree 10 = .ok (.iadd, 1) := by decide +kernel
theorem dX12_isFree_11 : decode cX12_isFree 11 = .ok (.istore_n 3, 1) := by decide +kernel
theorem dX12_isFree_12 : decode cX12_isFree 12 = .ok (.iload_n 1, 1) := by decide +kernel
theorem dX12_isFree_13 : decode cX12_isFree 13 = .ok (.aload_n 0, 1) := by decide +kernel
theorem dX12_isFree_14 : decode cX12_isFree 14 = .ok (.getfield 355, 3) := by decide +kernel
theorem dX12_isFree_17 : decode cX12_isFree 17 = .ok (.getfield 166, 3) := by decide +kernel
theorem dX12_isFree_20 : decode cX12_isFree 20 = .ok (.idiv, 1) := by decide +kernel
theorem dX12_isFree_21 : decode cX12_isFree 21 = .ok (.iconst 1, 1) := by decide +kernel
theorem dX12_isFree_22 : decode cX12_isFree 22 = .ok (.isub, 1) := by decide +kernel
theorem dX12_isFree_23 : decode cX12_isFree 23 = .ok (.istore 4, 2) := by decide +kernel
theorem dX12_isFree_25 : decode cX12_isFree 25 = .ok (.iload 4, 2) := by decide +kernel
theorem dX12_isFree_27 : decode cX12_isFree 27 = .ok (.ifCond .lt 49, 3) := by decide +kernel
theorem dX12_isFree_30 : decode cX12_isFree 30 = .ok (.iload_n 3, 1) := by decide +kernel
theorem dX12_isFree_31 : decode cX12_isFree 31 = .ok (.iconst 0, 1) := by decide +kernel
theorem dX12_isFree_32 : decode cX12_isFree 32 = .ok (.aload_n 0, 1) := by decide +kernel
theorem dX12_isFree_33 : decode cX12_isFree 33 = .ok (.getfield 355, 3) := by decide +kernel
theorem dX12_isFree_36 : decode cX12_isFree 36 = .ok (.getfield 166, 3) := by decide +kernel
theorem dX12_isFree_39 : decode cX12_isFree 39 = .ok (.iconst 1, 1) := by decide +kernel
theorem dX12_isFree_40 : decode cX12_isFree 40 = .ok (.isub, 1) := by decide +kernel
theorem dX12_isFree_41 : decode cX12_isFree 41 = .ok (.invokestatic 147, 3) := by decide +kernel
theorem dX12_isFree_44 : decode cX12_isFree 44 = .ok (.ifCond .eq 32, 3) := by decide +kernel
theorem dX12_isFree_47 : decode cX12_isFree 47 = .ok (.aload_n 0, 1) := by decide +kernel
theorem dX12_isFree_48 : decode cX12_isFree 48 = .ok (.getfield 357, 3) := by decide +kernel
theorem dX12_isFree_51 : decode cX12_isFree 51 = .ok (.aload_n 0, 1) := by decide +kernel
theorem dX12_isFree_52 : decode cX12_isFree 52 = .ok (.iload_n 3, 1) := by decide +kernel
theorem dX12_isFree_53 : decode cX12_isFree 53 = .ok (.iload 4, 2) := by decide +kernel
theorem dX12_isFree_55 : decode cX12_isFree 55 = .ok (.invokevirtual 393, 3) := by decide +kernel
theorem dX12_isFree_58 : decode cX12_isFree 58 = .ok (.invokestatic 75, 3) := by decide +kernel
theorem dX12_isFree_61 : decode cX12_isFree 61 = .ok (.ifCond .ne 5, 3) := by decide +kernel
theorem dX12_isFree_64 : decode cX12_isFree 64 = .ok (.iconst 0, 1) := by decide +kernel
theorem dX12_isFree_65 : decode cX12_isFree 65 = .ok (.ireturn, 1) := by decide +kernel
theorem dX12_isFree_66 : decode cX12_isFree 66 = .ok (.iload_n 3, 1) := by decide +kernel
theorem dX12_isFree_67 : decode cX12_isFree 67 = .ok (.iload_n 2, 1) := by decide +kernel
theorem dX12_isFree_68 : decode cX12_isFree 68 = .ok (.iadd, 1) := by decide +kernel
theorem dX12_isFree_69 : decode cX12_isFree 69 = .ok (.istore_n 3, 1) := by decide +kernel
theorem dX12_isFree_70 : decode cX12_isFree 70 = .ok (.iinc 4 (-1), 3) := by decide +kernel
theorem dX12_isFree_73 : decode cX12_isFree 73 = .ok (.goto (-48), 3) := by decide +kernel
theorem dX12_isFree_76 : decode cX12_isFree 76 = .ok (.iconst 1, 1) := by decide +kernel
theorem dX12_isFree_77 : decode cX12_isFree 77 = .ok (.ireturn, 1) := by decide +kernel
theorem dX12_seenNow_0 : decode cX12_seenNow 0 = .ok (.aload_n 0, 1) := by decide +kernel
theorem dX12_seenNow_1 : decode cX12_seenNow 1 = .ok (.iload_n 1, 1) := by decide +kernel
theorem dX12_seenNow_2 : decode cX12_seenNow 2 = .ok (.iconst 0, 1) := by decide +kernel
theorem dX12_seenNow_3 : decode cX12_seenNow 3 = .ok (.invokevirtual 499, 3) := by decide +kernel
theorem dX12_seenNow_6 : decode cX12_seenNow 6 = .ok (.ifCond .eq 7, 3) := by decide +kernel
theorem dX12_seenNow_9 : decode cX12_seenNow 9 = .ok (.iconst 1, 1) := by decide +kernel
theorem dX12_seenNow_10 : decode cX12_seenNow 10 = .ok (.goto 4, 3) := by decide +kernel
theorem dX12_seenNow_13 : decode cX12_seenNow 13 = .ok (.iconst 0, 1) := by decide +kernel
theorem dX12_seenNow_14 : decode cX12_seenNow 14 = .ok (.aload_n 0, 1) := by decide +kernel
theorem dX12_seenNow_15 : decode cX12_seenNow 15 = .ok (.iload_n 1, 1) := by decide +kernel
theorem dX12_seenNow_16 : decode cX12_seenNow 16 = .ok (.iconst (-1), 1) := by decide +kernel
theorem dX12_seenNow_17 : decode cX12_seenNow 17 = .ok (.invokevirtual 499, 3) := by decide +kernel
theorem dX12_seenNow_20 : decode cX12_seenNow 20 = .ok (.ifCond .eq 7, 3) := by decide +kernel
theorem dX12_seenNow_23 : decode cX12_seenNow 23 = .ok (.iconst 2, 1) := by decide +kernel
theorem dX12_seenNow_24 : decode cX12_seenNow 24 = .ok (.goto 4, 3) := by decide +kernel
theorem dX12_seenNow_27 : decode cX12_seenNow 27 = .ok (.iconst 0, 1) := by decide +kernel
theorem dX12_seenNow_28 : decode cX12_seenNow 28 = .ok (.ior, 1) := by decide +kernel
theorem dX12_seenNow_29 : decode cX12_seenNow 29 = .ok (.aload_n 0, 1) := by decide +kernel
theorem dX12_seenNow_30 : decode cX12_seenNow 30 = .ok (.iload_n 1, 1) := by decide +kernel
theorem dX12_seenNow_31 : decode cX12_seenNow 31 = .ok (.iconst 1, 1) := by decide +kernel
theorem dX12_seenNow_32 : decode cX12_seenNow 32 = .ok (.invokevirtual 499, 3) := by decide +kernel
theorem dX12_seenNow_35 : decode cX12_seenNow 35 = .ok (.ifCond .eq 7, 3) := by decide +kernel
theorem dX12_seenNow_38 : decode cX12_seenNow 38 = .ok (.iconst 4, 1) := by decide +kernel
theorem dX12_seenNow_39 : decode cX12_seenNow 39 = .ok (.goto 4, 3) := by decide +kernel
theorem dX12_seenNow_42 : decode cX12_seenNow 42 = .ok (.iconst 0, 1) := by decide +kernel
theorem dX12_seenNow_43 : decode cX12_seenNow 43 = .ok (.ior, 1) := by decide +kernel
theorem dX12_seenNow_44 : decode cX12_seenNow 44 = .ok (.ireturn, 1) := by decide +kernel
theorem dX12_seen_0 : decode cX12_seen 0 = .ok (.aload_n 0, 1) := by decide +kernel
theorem dX12_seen_1 : decode cX12_seen 1 = .ok (.iconst 0, 1) := by decide +kernel
theorem dX12_seen_2 : decode cX12_seen 2 = .ok (.putfield 62, 3) := by decide +kernel
theorem dX12_seen_5 : decode cX12_seen 5 = .ok (.aload_n 0, 1) := by decide +kernel
theorem dX12_seen_6 : decode cX12_seen 6 = .ok (.iload_n 1, 1) := by decide +kernel
theorem dX12_seen_7 : decode cX12_seen 7 = .ok (.iload_n 2, 1) := by decide +kernel
theorem dX12_seen_8 : decode cX12_seen 8 = .ok (.invokevirtual 389, 3) := by decide +kernel
theorem dX12_seen_11 : decode cX12_seen 11 = .ok (.ifCond .eq 20, 3) := by decide +kernel
theorem dX12_seen_14 : decode cX12_seen 14 = .ok (.aload_n 0, 1) := by decide +kernel
theorem dX12_seen_15 : decode cX12_seen 15 = .ok (.aload_n 0, 1) := by decide +kernel
theorem dX12_seen_16 : decode cX12_seen 16 = .ok (.aload_n 0, 1) := by decide +kernel
theorem dX12_seen_17 : decode cX12_seen 17 = .ok (.iload_n 1, 1) := by decide +kernel
theorem dX12_seen_18 : decode cX12_seen 18 = .ok (.iload_n 2, 1) := by decide +kernel
theorem dX12_seen_19 : decode cX12_seen 19 = .ok (.invokevirtual 393, 3) := by decide +kernel
theorem dX12_seen_22 : decode cX12_seen 22 = .ok (.invokevirtual 502, 3) := by decide +kernel
theorem dX12_seen_25 : decode cX12_seen 25 = .ok (.invokevirtual 72, 3) := by decide +kernel
theorem dX12_seen_28 : decode cX12_seen 28 = .ok (.goto 8, 3) := by decide +kernel
theorem dX12_seen_31 : decode cX12_seen 31 = .ok (.aload_n 0, 1) := by decide +kernel
theorem dX12_seen_32 : decode cX12_seen 32 = .ok (.iconst 1, 1) := by decide +kernel
theorem dX12_seen_33 : decode cX12_seen 33 = .ok (.invokevirtual 68, 3) := by decide +kernel
theorem dX12_seen_36 : decode cX12_seen 36 = .ok (.ireturn, 1) := by decide +kernel
theorem dX12_gatesSeen_0 : decode cX12_gatesSeen 0 = .ok (.aload_n 0, 1) := by decide +kernel
theorem dX12_gatesSeen_1 : decode cX12_gatesSeen 1 = .ok (.iconst 0, 1) := by decide +kernel
theorem dX12_gatesSeen_2 : decode cX12_gatesSeen 2 = .ok (.putfield 62, 3) := by decide +kernel
theorem dX12_gatesSeen_5 : decode cX12_gatesSeen 5 = .ok (.aload_n 0, 1) := by decide +kernel
theorem dX12_gatesSeen_6 : decode cX12_gatesSeen 6 = .ok (.getfield 355, 3) := by decide +kernel
theorem dX12_gatesSeen_9 : decode cX12_gatesSeen 9 = .ok (.ifnonnull 9, 3) := by decide +kernel
theorem dX12_gatesSeen_12 : decode cX12_gatesSeen 12 = .ok (.aload_n 0, 1) := by decide +kernel
theorem dX12_gatesSeen_13 : decode cX12_gatesSeen 13 = .ok (.iconst 1, 1) := by decide +kernel
theorem dX12_gatesSeen_14 : decode cX12_gatesSeen 14 = .ok (.invokevirtual 68, 3) := by decide +kernel
theorem dX12_gatesSeen_17 : decode cX12_gatesSeen 17 = .ok (.ireturn, 1) := by decide +kernel
theorem dX12_gatesSeen_18 : decode cX12_gatesSeen 18 = .ok (.iconst 0, 1) := by decide +kernel
theorem dX12_gatesSeen_19 : decode cX12_gatesSeen 19 = .ok (.istore_n 1, 1) := by decide +kernel
theorem dX12_gatesSeen_20 : decode cX12_gatesSeen 20 = .ok (.iconst 0, 1) := by decide +kernel
theorem dX12_gatesSeen_21 : decode cX12_gatesSeen 21 = .ok (.istore_n 2, 1) := by decide +kernel
theorem dX12_gatesSeen_22 : decode cX12_gatesSeen 22 = .ok (.iload_n 2, 1) := by decide +kernel
theorem dX12_gatesSeen_23 : decode cX12_gatesSeen 23 = .ok (.aload_n 0, 1) := by decide +kernel
theorem dX12_gatesSeen_24 : decode cX12_gatesSeen 24 = .ok (.getfield 355, 3) := by decide +kernel
theorem dX12_gatesSeen_27 : decode cX12_gatesSeen 27 = .ok (.getfield 278, 3) := by decide +kernel
theorem dX12_gatesSeen_30 : decode cX12_gatesSeen 30 = .ok (.if_icmp .ge 35, 3) := by decide +kernel
theorem dX12_gatesSeen_33 : decode cX12_gatesSeen 33 = .ok (.iload_n 1, 1) := by decide +kernel
theorem dX12_gatesSeen_34 : decode cX12_gatesSeen 34 = .ok (.aload_n 0, 1) := by decide +kernel
theorem dX12_gatesSeen_35 : decode cX12_gatesSeen 35 = .ok (.aload_n 0, 1) := by decide +kernel
theorem dX12_gatesSeen_36 : decode cX12_gatesSeen 36 = .ok (.getfield 355, 3) := by decide +kernel
theorem dX12_gatesSeen_39 : decode cX12_gatesSeen 39 = .ok (.getfield 284, 3) := by decide +kernel
theorem dX12_gatesSeen_42 : decode cX12_gatesSeen 42 = .ok (.iload_n 2, 1) := by decide +kernel
theorem dX12_gatesSeen_43 : decode cX12_gatesSeen 43 = .ok (.iaload, 1) := by decide +kernel
theorem dX12_gatesSeen_44 : decode cX12_gatesSeen 44 = .ok (.invokevirtual 502, 3) := by decide +kernel
theorem dX12_gatesSeen_47 : decode cX12_gatesSeen 47 = .ok (.ifCond .eq 9, 3) := by decide +kernel
theorem dX12_gatesSeen_50 : decode cX12_gatesSeen 50 = .ok (.iconst 1, 1) := by decide +kernel
theorem dX12_gatesSeen_51 : decode cX12_gatesSeen 51 = .ok (.iload_n 2, 1) := by decide +kernel
theorem dX12_gatesSeen_52 : decode cX12_gatesSeen 52 = .ok (.ishl, 1) := by decide +kernel
theorem dX12_gatesSeen_53 : decode cX12_gatesSeen 53 = .ok (.goto 4, 3) := by decide +kernel
theorem dX12_gatesSeen_56 : decode cX12_gatesSeen 56 = .ok (.iconst 0, 1) := by decide +kernel
theorem dX12_gatesSeen_57 : decode cX12_gatesSeen 57 = .ok (.ior, 1) := by decide +kernel
theorem dX12_gatesSeen_58 : decode cX12_gatesSeen 58 = .ok (.istore_n 1, 1) := by decide +kernel
theorem dX12_gatesSeen_59 : decode cX12_gatesSeen 59 = .ok (.iinc 2 1, 3) := by decide +kernel
theorem dX12_gatesSeen_62 : decode cX12_gatesSeen 62 = .ok (.goto (-40), 3) := by decide +kernel
theorem dX12_gatesSeen_65 : decode cX12_gatesSeen 65 = .ok (.aload_n 0, 1) := by decide +kernel
theorem dX12_gatesSeen_66 : decode cX12_gatesSeen 66 = .ok (.iload_n 1, 1) := by decide +kernel
theorem dX12_gatesSeen_67 : decode cX12_gatesSeen 67 = .ok (.invokevirtual 72, 3) := by decide +kernel
theorem dX12_gatesSeen_70 : decode cX12_gatesSeen 70 = .ok (.ireturn, 1) := by decide +kernel
theorem dX12_placesNow_0 : decode cX12_placesNow 0 = .ok (.aload_n 0, 1) := by decide +kernel
theorem dX12_placesNow_1 : decode cX12_placesNow 1 = .ok (.getfield 357, 3) := by decide +kernel
theorem dX12_placesNow_4 : decode cX12_placesNow 4 = .ok (.lstore_n 1, 1) := by decide +kernel
theorem dX12_placesNow_5 : decode cX12_placesNow 5 = .ok (.iconst 0, 1) := by decide +kernel
theorem dX12_placesNow_6 : decode cX12_placesNow 6 = .ok (.istore_n 3, 1) := by decide +kernel
theorem dX12_placesNow_7 : decode cX12_placesNow 7 = .ok (.iload_n 3, 1) := by decide +kernel
theorem dX12_placesNow_8 : decode cX12_placesNow 8 = .ok (.aload_n 0, 1) := by decide +kernel
theorem dX12_placesNow_9 : decode cX12_placesNow 9 = .ok (.getfield 355, 3) := by decide +kernel
theorem dX12_placesNow_12 : decode cX12_placesNow 12 = .ok (.getfield 291, 3) := by decide +kernel
theorem dX12_placesNow_15 : decode cX12_placesNow 15 = .ok (.if_icmp .ge 77, 3) := by decide +kernel
theorem dX12_placesNow_18 : decode cX12_placesNow 18 = .ok (.aload_n 0, 1) := by decide +kernel
theorem dX12_placesNow_19 : decode cX12_placesNow 19 = .ok (.aload_n 0, 1) := by decide +kernel
theorem dX12_placesNow_20 : decode cX12_placesNow 20 = .ok (.getfield 357, 3) := by decide +kernel
theorem dX12_placesNow_23 : decode cX12_placesNow 23 = .ok (.aload_n 0, 1) := by decide +kernel
theorem dX12_placesNow_24 : decode cX12_placesNow 24 = .ok (.getfield 355, 3) := by decide +kernel
theorem dX12_placesNow_27 : decode cX12_placesNow 27 = .ok (.getfield 298, 3) := by decide +kernel
theorem dX12_placesNow_30 : decode cX12_placesNow 30 = .ok (.iload_n 3, 1) := by decide +kernel
theorem dX12_placesNow_31 : decode cX12_placesNow 31 = .ok (.iaload, 1) := by decide +kernel
theorem dX12_placesNow_32 : decode cX12_placesNow 32 = .ok (.invokevirtual 377, 3) := by decide +kernel
theorem dX12_placesNow_35 : decode cX12_placesNow 35 = .ok (.iconst 0, 1) := by decide +kernel
theorem dX12_placesNow_36 : decode cX12_placesNow 36 = .ok (.istore 4, 2) := by decide +kernel
theorem dX12_placesNow_38 : decode cX12_placesNow 38 = .ok (.iload 4, 2) := by decide +kernel
theorem dX12_placesNow_40 : decode cX12_placesNow 40 = .ok (.aload_n 0, 1) := by decide +kernel
theorem dX12_placesNow_41 : decode cX12_placesNow 41 = .ok (.getfield 355, 3) := by decide +kernel
theorem dX12_placesNow_44 : decode cX12_placesNow 44 = .ok (.invokevirtual 381, 3) := by decide +kernel
theorem dX12_placesNow_47 : decode cX12_placesNow 47 = .ok (.if_icmp .ge 39, 3) := by decide +kernel
theorem dX12_placesNow_50 : decode cX12_placesNow 50 = .ok (.aload_n 0, 1) := by decide +kernel
theorem dX12_placesNow_51 : decode cX12_placesNow 51 = .ok (.getfield 21, 3) := by decide +kernel
theorem dX12_placesNow_54 : decode cX12_placesNow 54 = .ok (.iload 4, 2) := by decide +kernel
theorem dX12_placesNow_56 : decode cX12_placesNow 56 = .ok (.iaload, 1) := by decide +kernel
theorem dX12_placesNow_57 : decode cX12_placesNow 57 = .ok (.aload_n 0, 1) := by decide +kernel
theorem dX12_placesNow_58 : decode cX12_placesNow 58 = .ok (.getfield 355, 3) := by decide +kernel
theorem dX12_placesNow_61 : decode cX12_placesNow 61 = .ok (.getfield 296, 3) := by decide +kernel
theorem dX12_placesNow_64 : decode cX12_placesNow 64 = .ok (.iload_n 3, 1) := by decide +kernel
theorem dX12_placesNow_65 : decode cX12_placesNow 65 = .ok (.iaload, 1) := by decide +kernel
theorem dX12_placesNow_66 : decode cX12_placesNow 66 = .ok (.if_icmp .eq 14, 3) := by decide +kernel
theorem dX12_placesNow_69 : decode cX12_placesNow 69 = .ok (.lload_n 1, 1) := by decide +kernel
theorem dX12_placesNow_70 : decode cX12_placesNow 70 = .ok (.lconst 1, 1) := by decide +kernel
theorem dX12_placesNow_71 : decode cX12_placesNow 71 = .ok (.iload 4, 2) := by decide +kernel
theorem dX12_placesNow_73 : decode cX12_placesNow 73 = .ok (.lshl, 1) := by decide +kernel
theorem dX12_placesNow_74 : decode cX12_placesNow 74 = .ok (.ldc2_w 384, 3) := by decide +kernel
theorem dX12_placesNow_77 : decode cX12_placesNow 77 = .ok (.lxor, 1) := by decide +kernel
theorem dX12_placesNow_78 : decode cX12_placesNow 78 = .ok (.land, 1) := by decide +kernel
theorem dX12_placesNow_79 : decode cX12_placesNow 79 = .ok (.lstore_n 1, 1) := by decide +kernel
theorem dX12_placesNow_80 : decode cX12_placesNow 80 = .ok (.iinc 4 1, 3) := by decide +kernel
theorem dX12_placesNow_83 : decode cX12_placesNow 83 = .ok (.goto (-45), 3) := by decide +kernel
theorem dX12_placesNow_86 : decode cX12_placesNow 86 = .ok (.iinc 3 1, 3) := by decide +kernel
theorem dX12_placesNow_89 : decode cX12_placesNow 89 = .ok (.goto (-82), 3) := by decide +kernel
theorem dX12_placesNow_92 : decode cX12_placesNow 92 = .ok (.lload_n 1, 1) := by decide +kernel
theorem dX12_placesNow_93 : decode cX12_placesNow 93 = .ok (.lreturn, 1) := by decide +kernel
theorem dX12_places_0 : decode cX12_places 0 = .ok (.aload_n 0, 1) := by decide +kernel
theorem dX12_places_1 : decode cX12_places 1 = .ok (.iconst 0, 1) := by decide +kernel
theorem dX12_places_2 : decode cX12_places 2 = .ok (.putfield 62, 3) := by decide +kernel
theorem dX12_places_5 : decode cX12_places 5 = .ok (.aload_n 0, 1) := by decide +kernel
theorem dX12_places_6 : decode cX12_places 6 = .ok (.getfield 355, 3) := by decide +kernel
theorem dX12_places_9 : decode cX12_places 9 = .ok (.ifnonnull 11, 3) := by decide +kernel
theorem dX12_places_12 : decode cX12_places 12 = .ok (.aload_n 0, 1) := by decide +kernel
theorem dX12_places_13 : decode cX12_places 13 = .ok (.iconst 1, 1) := by decide +kernel
theorem dX12_places_14 : decode cX12_places 14 = .ok (.invokevirtual 68, 3) := by decide +kernel
theorem dX12_places_17 : decode cX12_places 17 = .ok (.goto 14, 3) := by decide +kernel
theorem dX12_places_20 : decode cX12_places 20 = .ok (.aload_n 0, 1) := by decide +kernel
theorem dX12_places_21 : decode cX12_places 21 = .ok (.aload_n 0, 1) := by decide +kernel
theorem dX12_places_22 : decode cX12_places 22 = .ok (.invokevirtual 505, 3) := by decide +kernel
theorem dX12_places_25 : decode cX12_places 25 = .ok (.invokestatic 367, 3) := by decide +kernel
theorem dX12_places_28 : decode cX12_places 28 = .ok (.invokevirtual 72, 3) := by decide +kernel
theorem dX12_places_31 : decode cX12_places 31 = .ok (.ireturn, 1) := by decide +kernel
theorem dX12_place_0 : decode cX12_place 0 = .ok (.aload_n 0, 1) := by decide +kernel
theorem dX12_place_1 : decode cX12_place 1 = .ok (.iconst 0, 1) := by decide +kernel
theorem dX12_place_2 : decode cX12_place 2 = .ok (.putfield 62, 3) := by decide +kernel
theorem dX12_place_5 : decode cX12_place 5 = .ok (.aload_n 0, 1) := by decide +kernel
theorem dX12_place_6 : decode cX12_place 6 = .ok (.getfield 355, 3) := by decide +kernel
theorem dX12_place_9 : decode cX12_place 9 = .ok (.ifnonnull 9, 3) := by decide +kernel
theorem dX12_place_12 : decode cX12_place 12 = .ok (.aload_n 0, 1) := by decide +kernel
theorem dX12_place_13 : decode cX12_place 13 = .ok (.iconst 1, 1) := by decide +kernel
theorem dX12_place_14 : decode cX12_place 14 = .ok (.invokevirtual 68, 3) := by decide +kernel
theorem dX12_place_17 : decode cX12_place 17 = .ok (.ireturn, 1) := by decide +kernel
theorem dX12_place_18 : decode cX12_place 18 = .ok (.aload_n 0, 1) := by decide +kernel
theorem dX12_place_19 : decode cX12_place 19 = .ok (.invokevirtual 505, 3) := by decide +kernel
theorem dX12_place_22 : decode cX12_place 22 = .ok (.lstore_n 2, 1) := by decide +kernel
theorem dX12_place_23 : decode cX12_place 23 = .ok (.iload_n 1, 1) := by decide +kernel
theorem dX12_place_24 : decode cX12_place 24 = .ok (.ifCond .lt 11, 3) := by decide +kernel
theorem dX12_place_27 : decode cX12_place 27 = .ok (.iload_n 1, 1) := by decide +kernel
theorem dX12_place_28 : decode cX12_place 28 = .ok (.lload_n 2, 1) := by decide +kernel
theorem dX12_place_29 : decode cX12_place 29 = .ok (.invokestatic 367, 3) := by decide +kernel
theorem dX12_place_32 : decode cX12_place 32 = .ok (.if_icmp .lt 9, 3) := by decide +kernel
theorem dX12_place_35 : decode cX12_place 35 = .ok (.aload_n 0, 1) := by decide +kernel
theorem dX12_place_36 : decode cX12_place 36 = .ok (.iconst 1, 1) := by decide +kernel
theorem dX12_place_37 : decode cX12_place 37 = .ok (.invokevirtual 68, 3) := by decide +kernel
theorem dX12_place_40 : decode cX12_place 40 = .ok (.ireturn, 1) := by decide +kernel
theorem dX12_place_41 : decode cX12_place 41 = .ok (.iconst 0, 1) := by decide +kernel
theorem dX12_place_42 : decode cX12_place 42 = .ok (.istore 4, 2) := by decide +kernel
theorem dX12_place_44 : decode cX12_place 44 = .ok (.iload 4, 2) := by decide +kernel
theorem dX12_place_46 : decode cX12_place 46 = .ok (.iload_n 1, 1) := by decide +kernel
theorem dX12_place_47 : decode cX12_place 47 = .ok (.if_icmp .ge 15, 3) := by decide +kernel
theorem dX12_place_50 : decode cX12_place 50 = .ok (.lload_n 2, 1) := by decide +kernel
theorem dX12_place_51 : decode cX12_place 51 = .ok (.lload_n 2, 1) := by decide +kernel
theorem dX12_place_52 : decode cX12_place 52 = .ok (.lconst 1, 1) := by decide +kernel
theorem dX12_place_53 : decode cX12_place 53 = .ok (.lsub, 1) := by decide +kernel
theorem dX12_place_54 : decode cX12_place 54 = .ok (.land, 1) := by decide +kernel
theorem dX12_place_55 : decode cX12_place 55 = .ok (.lstore_n 2, 1) := by decide +kernel
theorem dX12_place_56 : decode cX12_place 56 = .ok (.iinc 4 1, 3) := by decide +kernel
theorem dX12_place_59 : decode cX12_place 59 = .ok (.goto (-15), 3) := by decide +kernel
theorem dX12_place_62 : decode cX12_place 62 = .ok (.aload_n 0, 1) := by decide +kernel
theorem dX12_place_63 : decode cX12_place 63 = .ok (.lload_n 2, 1) := by decide +kernel
theorem dX12_place_64 : decode cX12_place 64 = .ok (.invokestatic 374, 3) := by decide +kernel
theorem dX12_place_67 : decode cX12_place 67 = .ok (.invokevirtual 72, 3) := by decide +kernel
theorem dX12_place_70 : decode cX12_place 70 = .ok (.ireturn, 1) := by decide +kernel
theorem dX12_bestNow_0 : decode cX12_bestNow 0 = .ok (.bipush (-2), 2) := by decide +kernel
theorem dX12_bestNow_2 : decode cX12_bestNow 2 = .ok (.istore_n 1, 1) := by decide +kernel
theorem dX12_bestNow_3 : decode cX12_bestNow 3 = .ok (.iconst 0, 1) := by decide +kernel
theorem dX12_bestNow_4 : decode cX12_bestNow 4 = .ok (.istore_n 2, 1) := by decide +kernel
theorem dX12_bestNow_5 : decode cX12_bestNow 5 = .ok (.iload_n 2, 1) := by decide +kernel
theorem dX12_bestNow_6 : decode cX12_bestNow 6 = .ok (.aload_n 0, 1) := by decide +kernel
theorem dX12_bestNow_7 : decode cX12_bestNow 7 = .ok (.getfield 355, 3) := by decide +kernel
theorem dX12_bestNow_10 : decode cX12_bestNow 10 = .ok (.invokevirtual 381, 3) := by decide +kernel
theorem dX12_bestNow_13 : decode cX12_bestNow 13 = .ok (.if_icmp .ge 91, 3) := by decide +kernel
theorem dX12_bestNow_16 : decode cX12_bestNow 16 = .ok (.aload_n 0, 1) := by decide +kernel
theorem dX12_bestNow_17 : decode cX12_bestNow 17 = .ok (.iload_n 2, 1) := by decide +kernel
theorem dX12_bestNow_18 : decode cX12_bestNow 18 = .ok (.invokevirtual 449, 3) := by decide +kernel
theorem dX12_bestNow_21 : decode cX12_bestNow 21 = .ok (.ifCond .ne 77, 3) := by decide +kernel
theorem dX12_bestNow_24 : decode cX12_bestNow 24 = .ok (.aload_n 0, 1) := by decide +kernel
theorem dX12_bestNow_25 : decode cX12_bestNow 25 = .ok (.getfield 355, 3) := by decide +kernel
theorem dX12_bestNow_28 : decode cX12_bestNow 28 = .ok (.iload_n 2, 1) := by decide +kernel
theorem dX12_bestNow_29 : decode cX12_bestNow 29 = .ok (.invokevirtual 508, 3) := by decide +kernel
theorem dX12_bestNow_32 : decode cX12_bestNow 32 = .ok (.ifCond .eq 6, 3) := by decide +kernel
theorem dX12_bestNow_35 : decode cX12_bestNow 35 = .ok (.goto 63, 3) := by decide +kernel
theorem dX12_bestNow_38 : decode cX12_bestNow 38 = .ok (.aload_n 0, 1) := by decide +kernel
theorem dX12_bestNow_39 : decode cX12_bestNow 39 = .ok (.dup, 1) := by decide +kernel
theorem dX12_bestNow_40 : decode cX12_bestNow 40 = .ok (.getfield 357, 3) := by decide +kernel
theorem dX12_bestNow_43 : decode cX12_bestNow 43 = .ok (.lconst 1, 1) := by decide +kernel
theorem dX12_bestNow_44 : decode cX12_bestNow 44 = .ok (.iload_n 2, 1) := by decide +kernel
theorem dX12_bestNow_45 : decode cX12_bestNow 45 = .ok (.lshl, 1) := by decide +kernel
theorem dX12_bestNow_46 : decode cX12_bestNow 46 = .ok (.lxor, 1) := by decide +kernel
theorem dX12_bestNow_47 : decode cX12_bestNow 47 = .ok (.putfield 357, 3) := by decide +kernel
theorem dX12_bestNow_50 : decode cX12_bestNow 50 = .ok (.aload_n 0, 1) := by decide +kernel
theorem dX12_bestNow_51 : decode cX12_bestNow 51 = .ok (.invokevirtual 467, 3) := by decide +kernel
theorem dX12_bestNow_54 : decode cX12_bestNow 54 = .ok (.istore_n 3, 1) := by decide +kernel
theorem dX12_bestNow_55 : decode cX12_bestNow 55 = .ok (.aload_n 0, 1) := by decide +kernel
theorem dX12_bestNow_56 : decode cX12_bestNow 56 = .ok (.dup, 1) := by decide +kernel
theorem dX12_bestNow_57 : decode cX12_bestNow 57 = .ok (.getfield 357, 3) := by decide +kernel
theorem dX12_bestNow_60 : decode cX12_bestNow 60 = .ok (.lconst 1, 1) := by decide +kernel
theorem dX12_bestNow_61 : decode cX12_bestNow 61 = .ok (.iload_n 2, 1) := by decide +kernel
theorem dX12_bestNow_62 : decode cX12_bestNow 62 = .ok (.lshl, 1) := by decide +kernel
theorem dX12_bestNow_63 : decode cX12_bestNow 63 = .ok (.lxor, 1) := by decide +kernel
theorem dX12_bestNow_64 : decode cX12_bestNow 64 = .ok (.putfield 357, 3) := by decide +kernel
theorem dX12_bestNow_67 : decode cX12_bestNow 67 = .ok (.aload_n 0, 1) := by decide +kernel
theorem dX12_bestNow_68 : decode cX12_bestNow 68 = .ok (.getfield 464, 3) := by decide +kernel
theorem dX12_bestNow_71 : decode cX12_bestNow 71 = .ok (.ifCond .ne 27, 3) := by decide +kernel
theorem dX12_bestNow_74 : decode cX12_bestNow 74 = .ok (.iload_n 1, 1) := by decide +kernel
theorem dX12_bestNow_75 : decode cX12_bestNow 75 = .ok (.bipush (-2), 2) := by decide +kernel
theorem dX12_bestNow_77 : decode cX12_bestNow 77 = .ok (.if_icmp .eq 14, 3) := by decide +kernel
theorem dX12_bestNow_80 : decode cX12_bestNow 80 = .ok (.iload_n 3, 1) := by decide +kernel
theorem dX12_bestNow_81 : decode cX12_bestNow 81 = .ok (.aload_n 0, 1) := by decide +kernel
theorem dX12_bestNow_82 : decode cX12_bestNow 82 = .ok (.getfield 511, 3) := by decide +kernel
theorem dX12_bestNow_85 : decode cX12_bestNow 85 = .ok (.if_icmp .gt 6, 3) := by decide +kernel
theorem dX12_bestNow_88 : decode cX12_bestNow 88 = .ok (.goto 10, 3) := by decide +kernel
theorem dX12_bestNow_91 : decode cX12_bestNow 91 = .ok (.iload_n 2, 1) := by decide +kernel
theorem dX12_bestNow_92 : decode cX12_bestNow 92 = .ok (.istore_n 1, 1) := by decide +kernel
theorem dX12_bestNow_93 : decode cX12_bestNow 93 = .ok (.aload_n 0, 1) := by decide +kernel
theorem dX12_bestNow_94 : decode cX12_bestNow 94 = .ok (.iload_n 3, 1) := by decide +kernel
theorem dX12_bestNow_95 : decode cX12_bestNow 95 = .ok (.putfield 511, 3) := by decide +kernel
theorem dX12_bestNow_98 : decode cX12_bestNow 98 = .ok (.iinc 2 1, 3) := by decide +kernel
theorem dX12_bestNow_101 : decode cX12_bestNow 101 = .ok (.goto (-96), 3) := by decide +kernel
theorem dX12_bestNow_104 : decode cX12_bestNow 104 = .ok (.iload_n 1, 1) := by decide +kernel
theorem dX12_bestNow_105 : decode cX12_bestNow 105 = .ok (.ireturn, 1) := by decide +kernel
theorem dX12_best_0 : decode cX12_best 0 = .ok (.aload_n 0, 1) := by decide +kernel
theorem dX12_best_1 : decode cX12_best 1 = .ok (.iconst 0, 1) := by decide +kernel
theorem dX12_best_2 : decode cX12_best 2 = .ok (.putfield 62, 3) := by decide +kernel
theorem dX12_best_5 : decode cX12_best 5 = .ok (.aload_n 0, 1) := by decide +kernel
theorem dX12_best_6 : decode cX12_best 6 = .ok (.getfield 355, 3) := by decide +kernel
theorem dX12_best_9 : decode cX12_best 9 = .ok (.ifnonnull 11, 3) := by decide +kernel
theorem dX12_best_12 : decode cX12_best 12 = .ok (.aload_n 0, 1) := by decide +kernel
theorem dX12_best_13 : decode cX12_best 13 = .ok (.iconst 1, 1) := by decide +kernel
theorem dX12_best_14 : decode cX12_best 14 = .ok (.invokevirtual 68, 3) := by decide +kernel
theorem dX12_best_17 : decode cX12_best 17 = .ok (.goto 11, 3) := by decide +kernel
theorem dX12_best_20 : decode cX12_best 20 = .ok (.aload_n 0, 1) := by decide +kernel
theorem dX12_best_21 : decode cX12_best 21 = .ok (.aload_n 0, 1) := by decide +kernel
theorem dX12_best_22 : decode cX12_best 22 = .ok (.invokevirtual 514, 3) := by decide +kernel
theorem dX12_best_25 : decode cX12_best 25 = .ok (.invokevirtual 72, 3) := by decide +kernel
theorem dX12_best_28 : decode cX12_best 28 = .ok (.ireturn, 1) := by decide +kernel
theorem dX12_bestPaid_0 : decode cX12_bestPaid 0 = .ok (.aload_n 0, 1) := by decide +kernel
theorem dX12_bestPaid_1 : decode cX12_bestPaid 1 = .ok (.iconst 0, 1) := by decide +kernel
theorem dX12_bestPaid_2 : decode cX12_bestPaid 2 = .ok (.putfield 62, 3) := by decide +kernel
theorem dX12_bestPaid_5 : decode cX12_bestPaid 5 = .ok (.aload_n 0, 1) := by decide +kernel
theorem dX12_bestPaid_6 : decode cX12_bestPaid 6 = .ok (.getfield 355, 3) := by decide +kernel
theorem dX12_bestPaid_9 : decode cX12_bestPaid 9 = .ok (.ifnonnull 9, 3) := by decide +kernel
theorem dX12_bestPaid_12 : decode cX12_bestPaid 12 = .ok (.aload_n 0, 1) := by decide +kernel
theorem dX12_bestPaid_13 : decode cX12_bestPaid 13 = .ok (.iconst 1, 1) := by decide +kernel
theorem dX12_bestPaid_14 : decode cX12_bestPaid 14 = .ok (.invokevirtual 68, 3) := by decide +kernel
theorem dX12_bestPaid_17 : decode cX12_bestPaid 17 = .ok (.ireturn, 1) := by decide +kernel
theorem dX12_bestPaid_18 : decode cX12_bestPaid 18 = .ok (.aload_n 0, 1) := by decide +kernel
theorem dX12_bestPaid_19 : decode cX12_bestPaid 19 = .ok (.invokevirtual 514, 3) := by decide +kernel
theorem dX12_bestPaid_22 : decode cX12_bestPaid 22 = .ok (.bipush (-2), 2) := by decide +kernel
theorem dX12_bestPaid_24 : decode cX12_bestPaid 24 = .ok (.if_icmp .ne 12, 3) := by decide +kernel
theorem dX12_bestPaid_27 : decode cX12_bestPaid 27 = .ok (.aload_n 0, 1) := by decide +kernel
theorem dX12_bestPaid_28 : decode cX12_bestPaid 28 = .ok (.bipush 6, 2) := by decide +kernel
theorem dX12_bestPaid_30 : decode cX12_bestPaid 30 = .ok (.invokevirtual 68, 3) := by decide +kernel
theorem dX12_bestPaid_33 : decode cX12_bestPaid 33 = .ok (.goto 11, 3) := by decide +kernel
theorem dX12_bestPaid_36 : decode cX12_bestPaid 36 = .ok (.aload_n 0, 1) := by decide +kernel
theorem dX12_bestPaid_37 : decode cX12_bestPaid 37 = .ok (.aload_n 0, 1) := by decide +kernel
theorem dX12_bestPaid_38 : decode cX12_bestPaid 38 = .ok (.getfield 511, 3) := by decide +kernel
theorem dX12_bestPaid_41 : decode cX12_bestPaid 41 = .ok (.invokevirtual 72, 3) := by decide +kernel
theorem dX12_bestPaid_44 : decode cX12_bestPaid 44 = .ok (.ireturn, 1) := by decide +kernel
theorem dX12_keeps_0 : decode cX12_keeps 0 = .ok (.aload_n 0, 1) := by decide +kernel
theorem dX12_keeps_1 : decode cX12_keeps 1 = .ok (.getfield 361, 3) := by decide +kernel
theorem dX12_keeps_4 : decode cX12_keeps 4 = .ok (.bipush 20, 2) := by decide +kernel
theorem dX12_keeps_6 : decode cX12_keeps 6 = .ok (.if_icmp .ne 57, 3) := by decide +kernel
theorem dX12_keeps_9 : decode cX12_keeps 9 = .ok (.iconst 0, 1) := by decide +kernel
theorem dX12_keeps_10 : decode cX12_keeps 10 = .ok (.istore_n 1, 1) := by decide +kernel
theorem dX12_keeps_11 : decode cX12_keeps 11 = .ok (.iload_n 1, 1) := by decide +kernel
theorem dX12_keeps_12 : decode cX12_keeps 12 = .ok (.iconst 1, 1) := by decide +kernel
theorem dX12_keeps_13 : decode cX12_keeps 13 = .ok (.iadd, 1) := by decide +kernel
theorem dX12_keeps_14 : decode cX12_keeps 14 = .ok (.bipush 20, 2) := by decide +kernel
theorem dX12_keeps_16 : decode cX12_keeps 16 = .ok (.if_icmp .ge 37, 3) := by decide +kernel
theorem dX12_keeps_19 : decode cX12_keeps 19 = .ok (.aload_n 0, 1) := by decide +kernel
theorem dX12_keeps_20 : decode cX12_keeps 20 = .ok (.getfield 49, 3) := by decide +kernel
theorem dX12_keeps_23 : decode cX12_keeps 23 = .ok (.iload_n 1, 1) := by decide +kernel
theorem dX12_keeps_24 : decode cX12_keeps 24 = .ok (.aload_n 0, 1) := by decide +kernel
theorem dX12_keeps_25 : decode cX12_keeps 25 = .ok (.getfield 49, 3) := by decide +kernel
theorem dX12_keeps_28 : decode cX12_keeps 28 = .ok (.iload_n 1, 1) := by decide +kernel
theorem dX12_keeps_29 : decode cX12_keeps 29 = .ok (.iconst 1, 1) := by decide +kernel
theorem dX12_keeps_30 : decode cX12_keeps 30 = .ok (.iadd, 1) := by decide +kernel
theorem dX12_keeps_31 : decode cX12_keeps 31 = .ok (.laload, 1) := by decide +kernel
theorem dX12_keeps_32 : decode cX12_keeps 32 = .ok (.lastore, 1) := by decide +kernel
theorem dX12_keeps_33 : decode cX12_keeps 33 = .ok (.aload_n 0, 1) := by decide +kernel
theorem dX12_keeps_34 : decode cX12_keeps 34 = .ok (.getfield 56, 3) := by decide +kernel
theorem dX12_keeps_37 : decode cX12_keeps 37 = .ok (.iload_n 1, 1) := by decide +kernel
theorem dX12_keeps_38 : decode cX12_keeps 38 = .ok (.aload_n 0, 1) := by decide +kernel
theorem dX12_keeps_39 : decode cX12_keeps 39 = .ok (.getfield 56, 3) := by decide +kernel
theorem dX12_keeps_42 : decode cX12_keeps 42 = .ok (.iload_n 1, 1) := by decide +kernel
theorem dX12_keeps_43 : decode cX12_keeps 43 = .ok (.iconst 1, 1) := by decide +kernel
theorem dX12_keeps_44 : decode cX12_keeps 44 = .ok (.iadd, 1) := by decide +kernel
theorem dX12_keeps_45 : decode cX12_keeps 45 = .ok (.iaload, 1) := by decide +kernel
theorem dX12_keeps_46 : decode cX12_keeps 46 = .ok (.iastore, 1) := by decide +kernel
theorem dX12_keeps_47 : decode cX12_keeps 47 = .ok (.iinc 1 1, 3) := by decide +kernel
theorem dX12_keeps_50 : decode cX12_keeps 50 = .ok (.goto (-39), 3) := by decide +kernel
theorem dX12_keeps_53 : decode cX12_keeps 53 = .ok (.aload_n 0, 1) := by decide +kernel
theorem dX12_keeps_54 : decode cX12_keeps 54 = .ok (.dup, 1) := by decide +kernel
theorem dX12_keeps_55 : decode cX12_keeps 55 = .ok (.getfield 361, 3) := by decide +kernel
theorem dX12_keeps_58 : decode cX12_keeps 58 = .ok (.iconst 1, 1) := by decide +kernel
theorem dX12_keeps_59 : decode cX12_keeps 59 = .ok (.isub, 1) := by decide +kernel
theorem dX12_keeps_60 : decode cX12_keeps 60 = .ok (.putfield 361, 3) := by decide +kernel
theorem dX12_keeps_63 : decode cX12_keeps 63 = .ok (.aload_n 0, 1) := by decide +kernel
theorem dX12_keeps_64 : decode cX12_keeps 64 = .ok (.getfield 49, 3) := by decide +kernel
theorem dX12_keeps_67 : decode cX12_keeps 67 = .ok (.aload_n 0, 1) := by decide +kernel
theorem dX12_keeps_68 : decode cX12_keeps 68 = .ok (.getfield 361, 3) := by decide +kernel
theorem dX12_keeps_71 : decode cX12_keeps 71 = .ok (.aload_n 0, 1) := by decide +kernel
theorem dX12_keeps_72 : decode cX12_keeps 72 = .ok (.getfield 357, 3) := by decide +kernel
theorem dX12_keeps_75 : decode cX12_keeps 75 = .ok (.lastore, 1) := by decide +kernel
theorem dX12_keeps_76 : decode cX12_keeps 76 = .ok (.aload_n 0, 1) := by decide +kernel
theorem dX12_keeps_77 : decode cX12_keeps 77 = .ok (.getfield 56, 3) := by decide +kernel
theorem dX12_keeps_80 : decode cX12_keeps 80 = .ok (.aload_n 0, 1) := by decide +kernel
theorem dX12_keeps_81 : decode cX12_keeps 81 = .ok (.getfield 361, 3) := by decide +kernel
theorem dX12_keeps_84 : decode cX12_keeps 84 = .ok (.aload_n 0, 1) := by decide +kernel
theorem dX12_keeps_85 : decode cX12_keeps 85 = .ok (.getfield 358, 3) := by decide +kernel
theorem dX12_keeps_88 : decode cX12_keeps 88 = .ok (.iastore, 1) := by decide +kernel
theorem dX12_keeps_89 : decode cX12_keeps 89 = .ok (.aload_n 0, 1) := by decide +kernel
theorem dX12_keeps_90 : decode cX12_keeps 90 = .ok (.dup, 1) := by decide +kernel
theorem dX12_keeps_91 : decode cX12_keeps 91 = .ok (.getfield 361, 3) := by decide +kernel
theorem dX12_keeps_94 : decode cX12_keeps 94 = .ok (.iconst 1, 1) := by decide +kernel
theorem dX12_keeps_95 : decode cX12_keeps 95 = .ok (.iadd, 1) := by decide +kernel
theorem dX12_keeps_96 : decode cX12_keeps 96 = .ok (.putfield 361, 3) := by decide +kernel
theorem dX12_keeps_99 : decode cX12_keeps 99 = .ok (.return_, 1) := by decide +kernel
theorem dX12_changesTo_0 : decode cX12_changesTo 0 = .ok (.aload_n 0, 1) := by decide +kernel
theorem dX12_changesTo_1 : decode cX12_changesTo 1 = .ok (.iload_n 1, 1) := by decide +kernel
theorem dX12_changesTo_2 : decode cX12_changesTo 2 = .ok (.iload_n 2, 1) := by decide +kernel
theorem dX12_changesTo_3 : decode cX12_changesTo 3 = .ok (.invokevirtual 389, 3) := by decide +kernel
theorem dX12_changesTo_6 : decode cX12_changesTo 6 = .ok (.ifCond .ne 9, 3) := by decide +kernel
theorem dX12_changesTo_9 : decode cX12_changesTo 9 = .ok (.aload_n 0, 1) := by decide +kernel
theorem dX12_changesTo_10 : decode cX12_changesTo 10 = .ok (.iconst 1, 1) := by decide +kernel
theorem dX12_changesTo_11 : decode cX12_changesTo 11 = .ok (.invokevirtual 517, 3) := by decide +kernel
theorem dX12_changesTo_14 : decode cX12_changesTo 14 = .ok (.ireturn, 1) := by decide +kernel
theorem dX12_changesTo_15 : decode cX12_changesTo 15 = .ok (.aload_n 0, 1) := by decide +kernel
theorem dX12_changesTo_16 : decode cX12_changesTo 16 = .ok (.getfield 357, 3) := by decide +kernel
theorem dX12_changesTo_19 : decode cX12_changesTo 19 = .ok (.aload_n 0, 1) := by decide +kernel
theorem dX12_changesTo_20 : decode cX12_changesTo 20 = .ok (.iload_n 1, 1) := by decide +kernel
theorem dX12_changesTo_21 : decode cX12_changesTo 21 = .ok (.iload_n 2, 1) := by decide +kernel
theorem dX12_changesTo_22 : decode cX12_changesTo 22 = .ok (.invokevirtual 393, 3) := by decide +kernel
theorem dX12_changesTo_25 : decode cX12_changesTo 25 = .ok (.invokestatic 75, 3) := by decide +kernel
theorem dX12_changesTo_28 : decode cX12_changesTo 28 = .ok (.iload_n 3, 1) := by decide +kernel
theorem dX12_changesTo_29 : decode cX12_changesTo 29 = .ok (.if_icmp .ne 9, 3) := by decide +kernel
theorem dX12_changesTo_32 : decode cX12_changesTo 32 = .ok (.aload_n 0, 1) := by decide +kernel
theorem dX12_changesTo_33 : decode cX12_changesTo 33 = .ok (.iconst 5, 1) := by decide +kernel
theorem dX12_changesTo_34 : decode cX12_changesTo 34 = .ok (.invokevirtual 517, 3) := by decide +kernel
theorem dX12_changesTo_37 : decode cX12_changesTo 37 = .ok (.ireturn, 1) := by decide +kernel
theorem dX12_changesTo_38 : decode cX12_changesTo 38 = .ok (.aload_n 0, 1) := by decide +kernel
theorem dX12_changesTo_39 : decode cX12_changesTo 39 = .ok (.invokevirtual 520, 3) := by decide +kernel
theorem dX12_changesTo_42 : decode cX12_changesTo 42 = .ok (.aload_n 0, 1) := by decide +kernel
theorem dX12_changesTo_43 : decode cX12_changesTo 43 = .ok (.dup, 1) := by decide +kernel
theorem dX12_changesTo_44 : decode cX12_changesTo 44 = .ok (.getfield 357, 3) := by decide +kernel
theorem dX12_changesTo_47 : decode cX12_changesTo 47 = .ok (.lconst 1, 1) := by decide +kernel
theorem dX12_changesTo_48 : decode cX12_changesTo 48 = .ok (.aload_n 0, 1) := by decide +kernel
theorem dX12_changesTo_49 : decode cX12_changesTo 49 = .ok (.iload_n 1, 1) := by decide +kernel
theorem dX12_changesTo_50 : decode cX12_changesTo 50 = .ok (.iload_n 2, 1) := by decide +kernel
theorem dX12_changesTo_51 : decode cX12_changesTo 51 = .ok (.invokevirtual 393, 3) := by decide +kernel
theorem dX12_changesTo_54 : decode cX12_changesTo 54 = .ok (.lshl, 1) := by decide +kernel
theorem dX12_changesTo_55 : decode cX12_changesTo 55 = .ok (.lxor, 1) := by decide +kernel
theorem dX12_changesTo_56 : decode cX12_changesTo 56 = .ok (.putfield 357, 3) := by decide +kernel
theorem dX12_changesTo_59 : decode cX12_changesTo 59 = .ok (.aload_n 0, 1) := by decide +kernel
theorem dX12_changesTo_60 : decode cX12_changesTo 60 = .ok (.invokevirtual 523, 3) := by decide +kernel
theorem dX12_changesTo_63 : decode cX12_changesTo 63 = .ok (.ireturn, 1) := by decide +kernel
theorem dX12_mow_0 : decode cX12_mow 0 = .ok (.aload_n 0, 1) := by decide +kernel
theorem dX12_mow_1 : decode cX12_mow 1 = .ok (.iconst 0, 1) := by decide +kernel
theorem dX12_mow_2 : decode cX12_mow 2 = .ok (.putfield 62, 3) := by decide +kernel
theorem dX12_mow_5 : decode cX12_mow 5 = .ok (.aload_n 0, 1) := by decide +kernel
theorem dX12_mow_6 : decode cX12_mow 6 = .ok (.iload_n 1, 1) := by decide +kernel
theorem dX12_mow_7 : decode cX12_mow 7 = .ok (.iload_n 2, 1) := by decide +kernel
theorem dX12_mow_8 : decode cX12_mow 8 = .ok (.iconst 1, 1) := by decide +kernel
theorem dX12_mow_9 : decode cX12_mow 9 = .ok (.invokevirtual 526, 3) := by decide +kernel
theorem dX12_mow_12 : decode cX12_mow 12 = .ok (.ireturn, 1) := by decide +kernel
theorem dX12_stand_0 : decode cX12_stand 0 = .ok (.aload_n 0, 1) := by decide +kernel
theorem dX12_stand_1 : decode cX12_stand 1 = .ok (.iconst 0, 1) := by decide +kernel
theorem dX12_stand_2 : decode cX12_stand 2 = .ok (.putfield 62, 3) := by decide +kernel
theorem dX12_stand_5 : decode cX12_stand 5 = .ok (.aload_n 0, 1) := by decide +kernel
theorem dX12_stand_6 : decode cX12_stand 6 = .ok (.iload_n 1, 1) := by decide +kernel
theorem dX12_stand_7 : decode cX12_stand 7 = .ok (.iload_n 2, 1) := by decide +kernel
theorem dX12_stand_8 : decode cX12_stand 8 = .ok (.iconst 0, 1) := by decide +kernel
theorem dX12_stand_9 : decode cX12_stand 9 = .ok (.invokevirtual 526, 3) := by decide +kernel
theorem dX12_stand_12 : decode cX12_stand 12 = .ok (.ireturn, 1) := by decide +kernel
theorem dX12_week_0 : decode cX12_week 0 = .ok (.aload_n 0, 1) := by decide +kernel
theorem dX12_week_1 : decode cX12_week 1 = .ok (.iconst 0, 1) := by decide +kernel
theorem dX12_week_2 : decode cX12_week 2 = .ok (.putfield 62, 3) := by decide +kernel
theorem dX12_week_5 : decode cX12_week 5 = .ok (.aload_n 0, 1) := by decide +kernel
theorem dX12_week_6 : decode cX12_week 6 = .ok (.getfield 355, 3) := by decide +kernel
theorem dX12_week_9 : decode cX12_week 9 = .ok (.ifnonnull 9, 3) := by decide +kernel
theorem dX12_week_12 : decode cX12_week 12 = .ok (.aload_n 0, 1) := by decide +kernel
theorem dX12_week_13 : decode cX12_week 13 = .ok (.iconst 1, 1) := by decide +kernel
theorem dX12_week_14 : decode cX12_week 14 = .ok (.invokevirtual 68, 3) := by decide +kernel
theorem dX12_week_17 : decode cX12_week 17 = .ok (.ireturn, 1) := by decide +kernel
theorem dX12_week_18 : decode cX12_week 18 = .ok (.aload_n 0, 1) := by decide +kernel
theorem dX12_week_19 : decode cX12_week 19 = .ok (.invokevirtual 520, 3) := by decide +kernel
theorem dX12_week_22 : decode cX12_week 22 = .ok (.aload_n 0, 1) := by decide +kernel
theorem dX12_week_23 : decode cX12_week 23 = .ok (.getfield 357, 3) := by decide +kernel
theorem dX12_week_26 : decode cX12_week 26 = .ok (.invokestatic 367, 3) := by decide +kernel
theorem dX12_week_29 : decode cX12_week 29 = .ok (.istore_n 1, 1) := by decide +kernel
theorem dX12_week_30 : decode cX12_week 30 = .ok (.aload_n 0, 1) := by decide +kernel
theorem dX12_week_31 : decode cX12_week 31 = .ok (.aload_n 0, 1) := by decide +kernel
theorem dX12_week_32 : decode cX12_week 32 = .ok (.aload_n 0, 1) := by decide +kernel
theorem dX12_week_33 : decode cX12_week 33 = .ok (.getfield 357, 3) := by decide +kernel
theorem dX12_week_36 : decode cX12_week 36 = .ok (.invokevirtual 491, 3) := by decide +kernel
theorem dX12_week_39 : decode cX12_week 39 = .ok (.putfield 357, 3) := by decide +kernel
theorem dX12_week_42 : decode cX12_week 42 = .ok (.aload_n 0, 1) := by decide +kernel
theorem dX12_week_43 : decode cX12_week 43 = .ok (.iload_n 1, 1) := by decide +kernel
theorem dX12_week_44 : decode cX12_week 44 = .ok (.aload_n 0, 1) := by decide +kernel
theorem dX12_week_45 : decode cX12_week 45 = .ok (.getfield 357, 3) := by decide +kernel
theorem dX12_week_48 : decode cX12_week 48 = .ok (.invokestatic 367, 3) := by decide +kernel
theorem dX12_week_51 : decode cX12_week 51 = .ok (.isub, 1) := by decide +kernel
theorem dX12_week_52 : decode cX12_week 52 = .ok (.invokevirtual 72, 3) := by decide +kernel
theorem dX12_week_55 : decode cX12_week 55 = .ok (.ireturn, 1) := by decide +kernel
theorem dX12_thin_0 : decode cX12_thin 0 = .ok (.aload_n 0, 1) := by decide +kernel
theorem dX12_thin_1 : decode cX12_thin 1 = .ok (.iconst 0, 1) := by decide +kernel
theorem dX12_thin_2 : decode cX12_thin 2 = .ok (.putfield 62, 3) := by decide +kernel
theorem dX12_thin_5 : decode cX12_thin 5 = .ok (.aload_n 0, 1) := by decide +kernel
theorem dX12_thin_6 : decode cX12_thin 6 = .ok (.getfield 355, 3) := by decide +kernel
theorem dX12_thin_9 : decode cX12_thin 9 = .ok (.ifnonnull 9, 3) := by decide +kernel
theorem dX12_thin_12 : decode cX12_thin 12 = .ok (.aload_n 0, 1) := by decide +kernel
theorem dX12_thin_13 : decode cX12_thin 13 = .ok (.iconst 1, 1) := by decide +kernel
theorem dX12_thin_14 : decode cX12_thin 14 = .ok (.invokevirtual 68, 3) := by decide +kernel
theorem dX12_thin_17 : decode cX12_thin 17 = .ok (.ireturn, 1) := by decide +kernel
theorem dX12_thin_18 : decode cX12_thin 18 = .ok (.lconst 0, 1) := by decide +kernel
theorem dX12_thin_19 : decode cX12_thin 19 = .ok (.lstore_n 1, 1) := by decide +kernel
theorem dX12_thin_20 : decode cX12_thin 20 = .ok (.iconst 0, 1) := by decide +kernel
theorem dX12_thin_21 : decode cX12_thin 21 = .ok (.istore_n 3, 1) := by decide +kernel
theorem dX12_thin_22 : decode cX12_thin 22 = .ok (.iload_n 3, 1) := by decide +kernel
theorem dX12_thin_23 : decode cX12_thin 23 = .ok (.aload_n 0, 1) := by decide +kernel
theorem dX12_thin_24 : decode cX12_thin 24 = .ok (.getfield 355, 3) := by decide +kernel
theorem dX12_thin_27 : decode cX12_thin 27 = .ok (.invokevirtual 381, 3) := by decide +kernel
theorem dX12_thin_30 : decode cX12_thin 30 = .ok (.if_icmp .ge 69, 3) := by decide +kernel
theorem dX12_thin_33 : decode cX12_thin 33 = .ok (.aload_n 0, 1) := by decide +kernel
theorem dX12_thin_34 : decode cX12_thin 34 = .ok (.getfield 357, 3) := by decide +kernel
theorem dX12_thin_37 : decode cX12_thin 37 = .ok (.iload_n 3, 1) := by decide +kernel
theorem dX12_thin_38 : decode cX12_thin 38 = .ok (.invokestatic 75, 3) := by decide +kernel
theorem dX12_thin_41 : decode cX12_thin 41 = .ok (.ifCond .eq 52, 3) := by decide +kernel
theorem dX12_thin_44 : decode cX12_thin 44 = .ok (.aload_n 0, 1) := by decide +kernel
theorem dX12_thin_45 : decode cX12_thin 45 = .ok (.iload_n 3, 1) := by decide +kernel
theorem dX12_thin_46 : decode cX12_thin 46 = .ok (.invokevirtual 449, 3) := by decide +kernel
theorem dX12_thin_49 : decode cX12_thin 49 = .ok (.ifCond .ne 44, 3) := by decide +kernel
theorem dX12_thin_52 : decode cX12_thin 52 = .ok (.aload_n 0, 1) := by decide +kernel
theorem dX12_thin_53 : decode cX12_thin 53 = .ok (.getfield 355, 3) := by decide +kernel
theorem dX12_thin_56 : decode cX12_thin 56 = .ok (.iload_n 3, 1) := by decide +kernel
theorem dX12_thin_57 : decode cX12_thin 57 = .ok (.invokevirtual 508, 3) := by decide +kernel
theorem dX12_thin_60 : decode cX12_thin 60 = .ok (.ifCond .ne 33, 3) := by decide +kernel
theorem dX12_thin_63 : decode cX12_thin 63 = .ok (.aload_n 0, 1) := by decide +kernel
theorem dX12_thin_64 : decode cX12_thin 64 = .ok (.aload_n 0, 1) := by decide +kernel
theorem dX12_thin_65 : decode cX12_thin 65 = .ok (.getfield 357, 3) := by decide +kernel
theorem dX12_thin_68 : decode cX12_thin 68 = .ok (.iload_n 3, 1) := by decide +kernel
theorem dX12_thin_69 : decode cX12_thin 69 = .ok (.invokevirtual 396, 3) := by decide +kernel
theorem dX12_thin_72 : decode cX12_thin 72 = .ok (.invokestatic 367, 3) := by decide +kernel
theorem dX12_thin_75 : decode cX12_thin 75 = .ok (.iconst 1, 1) := by decide +kernel
theorem dX12_thin_76 : decode cX12_thin 76 = .ok (.if_icmp .le 17, 3) := by decide +kernel
theorem dX12_thin_79 : decode cX12_thin 79 = .ok (.aload_n 0, 1) := by decide +kernel
theorem dX12_thin_80 : decode cX12_thin 80 = .ok (.iload_n 3, 1) := by decide +kernel
theorem dX12_thin_81 : decode cX12_thin 81 = .ok (.invokevirtual 403, 3) := by decide +kernel
theorem dX12_thin_84 : decode cX12_thin 84 = .ok (.ifCond .ne 9, 3) := by decide +kernel
theorem dX12_thin_87 : decode cX12_thin 87 = .ok (.lload_n 1, 1) := by decide +kernel
theorem dX12_thin_88 : decode cX12_thin 88 = .ok (.lconst 1, 1) := by decide +kernel
theorem dX12_thin_89 : decode cX12_thin 89 = .ok (.iload_n 3, 1) := by decide +kernel
theorem dX12_thin_90 : decode cX12_thin 90 = .ok (.lshl, 1) := by decide +kernel
theorem dX12_thin_91 : decode cX12_thin 91 = .ok (.lor, 1) := by decide +kernel
theorem dX12_thin_92 : decode cX12_thin 92 = .ok (.lstore_n 1, 1) := by decide +kernel
theorem dX12_thin_93 : decode cX12_thin 93 = .ok (.iinc 3 1, 3) := by decide +kernel
theorem dX12_thin_96 : decode cX12_thin 96 = .ok (.goto (-74), 3) := by decide +kernel
theorem dX12_thin_99 : decode cX12_thin 99 = .ok (.lload_n 1, 1) := by decide +kernel
theorem dX12_thin_100 : decode cX12_thin 100 = .ok (.lconst 0, 1) := by decide +kernel
theorem dX12_thin_101 : decode cX12_thin 101 = .ok (.lcmp, 1) := by decide +kernel
theorem dX12_thin_102 : decode cX12_thin 102 = .ok (.ifCond .ne 10, 3) := by decide +kernel
theorem dX12_thin_105 : decode cX12_thin 105 = .ok (.aload_n 0, 1) := by decide +kernel
theorem dX12_thin_106 : decode cX12_thin 106 = .ok (.bipush 6, 2) := by decide +kernel
theorem dX12_thin_108 : decode cX12_thin 108 = .ok (.invokevirtual 68, 3) := by decide +kernel
theorem dX12_thin_111 : decode cX12_thin 111 = .ok (.ireturn, 1) := by decide +kernel
theorem dX12_thin_112 : decode cX12_thin 112 = .ok (.aload_n 0, 1) := by decide +kernel
theorem dX12_thin_113 : decode cX12_thin 113 = .ok (.invokevirtual 520, 3) := by decide +kernel
theorem dX12_thin_116 : decode cX12_thin 116 = .ok (.aload_n 0, 1) := by decide +kernel
theorem dX12_thin_117 : decode cX12_thin 117 = .ok (.aload_n 0, 1) := by decide +kernel
theorem dX12_thin_118 : decode cX12_thin 118 = .ok (.getfield 358, 3) := by decide +kernel
theorem dX12_thin_121 : decode cX12_thin 121 = .ok (.invokestatic 437, 3) := by decide +kernel
theorem dX12_thin_124 : decode cX12_thin 124 = .ok (.putfield 358, 3) := by decide +kernel
theorem dX12_thin_127 : decode cX12_thin 127 = .ok (.aload_n 0, 1) := by decide +kernel
theorem dX12_thin_128 : decode cX12_thin 128 = .ok (.getfield 358, 3) := by decide +kernel
theorem dX12_thin_131 : decode cX12_thin 131 = .ok (.lload_n 1, 1) := by decide +kernel
theorem dX12_thin_132 : decode cX12_thin 132 = .ok (.invokestatic 367, 3) := by decide +kernel
theorem dX12_thin_135 : decode cX12_thin 135 = .ok (.irem, 1) := by decide +kernel
theorem dX12_thin_136 : decode cX12_thin 136 = .ok (.istore_n 3, 1) := by decide +kernel
theorem dX12_thin_137 : decode cX12_thin 137 = .ok (.iconst 0, 1) := by decide +kernel
theorem dX12_thin_138 : decode cX12_thin 138 = .ok (.istore 4, 2) := by decide +kernel
theorem dX12_thin_140 : decode cX12_thin 140 = .ok (.iload 4, 2) := by decide +kernel
theorem dX12_thin_142 : decode cX12_thin 142 = .ok (.iload_n 3, 1) := by decide +kernel
theorem dX12_thin_143 : decode cX12_thin 143 = .ok (.if_icmp .ge 15, 3) := by decide +kernel
theorem dX12_thin_146 : decode cX12_thin 146 = .ok (.lload_n 1, 1) := by decide +kernel
theorem dX12_thin_147 : decode cX12_thin 147 = .ok (.lload_n 1, 1) := by decide +kernel
theorem dX12_thin_148 : decode cX12_thin 148 = .ok (.lconst 1, 1) := by decide +kernel
theorem dX12_thin_149 : decode cX12_thin 149 = .ok (.lsub, 1) := by decide +kernel
theorem dX12_thin_150 : decode cX12_thin 150 = .ok (.land, 1) := by decide +kernel
theorem dX12_thin_151 : decode cX12_thin 151 = .ok (.lstore_n 1, 1) := by decide +kernel
theorem dX12_thin_152 : decode cX12_thin 152 = .ok (.iinc 4 1, 3) := by decide +kernel
theorem dX12_thin_155 : decode cX12_thin 155 = .ok (.goto (-15), 3) := by decide +kernel
theorem dX12_thin_158 : decode cX12_thin 158 = .ok (.lload_n 1, 1) := by decide +kernel
theorem dX12_thin_159 : decode cX12_thin 159 = .ok (.invokestatic 374, 3) := by decide +kernel
theorem dX12_thin_162 : decode cX12_thin 162 = .ok (.istore 4, 2) := by decide +kernel
theorem dX12_thin_164 : decode cX12_thin 164 = .ok (.aload_n 0, 1) := by decide +kernel
theorem dX12_thin_165 : decode cX12_thin 165 = .ok (.dup, 1) := by decide +kernel
theorem dX12_thin_166 : decode cX12_thin 166 = .ok (.getfield 357, 3) := by decide +kernel
theorem dX12_thin_169 : decode cX12_thin 169 = .ok (.lconst 1, 1) := by decide +kernel
theorem dX12_thin_170 : decode cX12_thin 170 = .ok (.iload 4, 2) := by decide +kernel
theorem dX12_thin_172 : decode cX12_thin 172 = .ok (.lshl, 1) := by decide +kernel
theorem dX12_thin_173 : decode cX12_thin 173 = .ok (.ldc2_w 384, 3) := by decide +kernel
theorem dX12_thin_176 : decode cX12_thin 176 = .ok (.lxor, 1) := by decide +kernel
theorem dX12_thin_177 : decode cX12_thin 177 = .ok (.land, 1) := by decide +kernel
theorem dX12_thin_178 : decode cX12_thin 178 = .ok (.putfield 357, 3) := by decide +kernel
theorem dX12_thin_181 : decode cX12_thin 181 = .ok (.aload_n 0, 1) := by decide +kernel
theorem dX12_thin_182 : decode cX12_thin 182 = .ok (.iload 4, 2) := by decide +kernel
theorem dX12_thin_184 : decode cX12_thin 184 = .ok (.invokevirtual 72, 3) := by decide +kernel
theorem dX12_thin_187 : decode cX12_thin 187 = .ok (.ireturn, 1) := by decide +kernel
theorem dX12_seed_0 : decode cX12_seed 0 = .ok (.aload_n 0, 1) := by decide +kernel
theorem dX12_seed_1 : decode cX12_seed 1 = .ok (.iconst 0, 1) := by decide +kernel
theorem dX12_seed_2 : decode cX12_seed 2 = .ok (.putfield 62, 3) := by decide +kernel
theorem dX12_seed_5 : decode cX12_seed 5 = .ok (.aload_n 0, 1) := by decide +kernel
theorem dX12_seed_6 : decode cX12_seed 6 = .ok (.getfield 355, 3) := by decide +kernel
theorem dX12_seed_9 : decode cX12_seed 9 = .ok (.ifnonnull 9, 3) := by decide +kernel
theorem dX12_seed_12 : decode cX12_seed 12 = .ok (.aload_n 0, 1) := by decide +kernel
theorem dX12_seed_13 : decode cX12_seed 13 = .ok (.iconst 1, 1) := by decide +kernel
theorem dX12_seed_14 : decode cX12_seed 14 = .ok (.invokevirtual 517, 3) := by decide +kernel
theorem dX12_seed_17 : decode cX12_seed 17 = .ok (.ireturn, 1) := by decide +kernel
theorem dX12_seed_18 : decode cX12_seed 18 = .ok (.iload_n 1, 1) := by decide +kernel
theorem dX12_seed_19 : decode cX12_seed 19 = .ok (.iconst 0, 1) := by decide +kernel
theorem dX12_seed_20 : decode cX12_seed 20 = .ok (.ldc_w 530, 3) := by decide +kernel
theorem dX12_seed_23 : decode cX12_seed 23 = .ok (.invokestatic 147, 3) := by decide +kernel
theorem dX12_seed_26 : decode cX12_seed 26 = .ok (.ifCond .ne 9, 3) := by decide +kernel
theorem dX12_seed_29 : decode cX12_seed 29 = .ok (.aload_n 0, 1) := by decide +kernel
theorem dX12_seed_30 : decode cX12_seed 30 = .ok (.iconst 2, 1) := by decide +kernel
theorem dX12_seed_31 : decode cX12_seed 31 = .ok (.invokevirtual 517, 3) := by decide +kernel
theorem dX12_seed_34 : decode cX12_seed 34 = .ok (.ireturn, 1) := by decide +kernel
theorem dX12_seed_35 : decode cX12_seed 35 = .ok (.aload_n 0, 1) := by decide +kernel
theorem dX12_seed_36 : decode cX12_seed 36 = .ok (.iload_n 1, 1) := by decide +kernel
theorem dX12_seed_37 : decode cX12_seed 37 = .ok (.putfield 358, 3) := by decide +kernel
theorem dX12_seed_40 : decode cX12_seed 40 = .ok (.aload_n 0, 1) := by decide +kernel
theorem dX12_seed_41 : decode cX12_seed 41 = .ok (.invokevirtual 523, 3) := by decide +kernel
theorem dX12_seed_44 : decode cX12_seed 44 = .ok (.ireturn, 1) := by decide +kernel
theorem dX12_undo_0 : decode cX12_undo 0 = .ok (.aload_n 0, 1) := by decide +kernel
theorem dX12_undo_1 : decode cX12_undo 1 = .ok (.iconst 0, 1) := by decide +kernel
theorem dX12_undo_2 : decode cX12_undo 2 = .ok (.putfield 62, 3) := by decide +kernel
theorem dX12_undo_5 : decode cX12_undo 5 = .ok (.aload_n 0, 1) := by decide +kernel
theorem dX12_undo_6 : decode cX12_undo 6 = .ok (.getfield 355, 3) := by decide +kernel
theorem dX12_undo_9 : decode cX12_undo 9 = .ok (.ifnull 10, 3) := by decide +kernel
theorem dX12_undo_12 : decode cX12_undo 12 = .ok (.aload_n 0, 1) := by decide +kernel
theorem dX12_undo_13 : decode cX12_undo 13 = .ok (.getfield 361, 3) := by decide +kernel
theorem dX12_undo_16 : decode cX12_undo 16 = .ok (.ifCond .ne 10, 3) := by decide +kernel
theorem dX12_undo_19 : decode cX12_undo 19 = .ok (.aload_n 0, 1) := by decide +kernel
theorem dX12_undo_20 : decode cX12_undo 20 = .ok (.bipush 6, 2) := by decide +kernel
theorem dX12_undo_22 : decode cX12_undo 22 = .ok (.invokevirtual 517, 3) := by decide +kernel
theorem dX12_undo_25 : decode cX12_undo 25 = .ok (.ireturn, 1) := by decide +kernel
theorem dX12_undo_26 : decode cX12_undo 26 = .ok (.aload_n 0, 1) := by decide +kernel
theorem dX12_undo_27 : decode cX12_undo 27 = .ok (.dup, 1) := by decide +kernel
theorem dX12_undo_28 : decode cX12_undo 28 = .ok (.getfield 361, 3) := by decide +kernel
theorem dX12_undo_31 : decode cX12_undo 31 = .ok (.iconst 1, 1) := by decide +kernel
theorem dX12_undo_32 : decode cX12_undo 32 = .ok (.isub, 1) := by decide +kernel
theorem dX12_undo_33 : decode cX12_undo 33 = .ok (.putfield 361, 3) := by decide +kernel
theorem dX12_undo_36 : decode cX12_undo 36 = .ok (.aload_n 0, 1) := by decide +kernel
theorem dX12_undo_37 : decode cX12_undo 37 = .ok (.aload_n 0, 1) := by decide +kernel
theorem dX12_undo_38 : decode cX12_undo 38 = .ok (.getfield 49, 3) := by decide +kernel
theorem dX12_undo_41 : decode cX12_undo 41 = .ok (.aload_n 0, 1) := by decide +kernel
theorem dX12_undo_42 : decode cX12_undo 42 = .ok (.getfield 361, 3) := by decide +kernel
theorem dX12_undo_45 : decode cX12_undo 45 = .ok (.laload, 1) := by decide +kernel
theorem dX12_undo_46 : decode cX12_undo 46 = .ok (.putfield 357, 3) := by decide +kernel
theorem dX12_undo_49 : decode cX12_undo 49 = .ok (.aload_n 0, 1) := by decide +kernel
theorem dX12_undo_50 : decode cX12_undo 50 = .ok (.aload_n 0, 1) := by decide +kernel
theorem dX12_undo_51 : decode cX12_undo 51 = .ok (.getfield 56, 3) := by decide +kernel
theorem dX12_undo_54 : decode cX12_undo 54 = .ok (.aload_n 0, 1) := by decide +kernel
theorem dX12_undo_55 : decode cX12_undo 55 = .ok (.getfield 361, 3) := by decide +kernel
theorem dX12_undo_58 : decode cX12_undo 58 = .ok (.iaload, 1) := by decide +kernel
theorem dX12_undo_59 : decode cX12_undo 59 = .ok (.putfield 358, 3) := by decide +kernel
theorem dX12_undo_62 : decode cX12_undo 62 = .ok (.aload_n 0, 1) := by decide +kernel
theorem dX12_undo_63 : decode cX12_undo 63 = .ok (.invokevirtual 523, 3) := by decide +kernel
theorem dX12_undo_66 : decode cX12_undo 66 = .ok (.ireturn, 1) := by decide +kernel
theorem dX12_mark_0 : decode cX12_mark 0 = .ok (.aload_n 0, 1) := by decide +kernel
theorem dX12_mark_1 : decode cX12_mark 1 = .ok (.iconst 0, 1) := by decide +kernel
theorem dX12_mark_2 : decode cX12_mark 2 = .ok (.putfield 62, 3) := by decide +kernel
theorem dX12_mark_5 : decode cX12_mark 5 = .ok (.aload_n 0, 1) := by decide +kernel
theorem dX12_mark_6 : decode cX12_mark 6 = .ok (.getfield 355, 3) := by decide +kernel
theorem dX12_mark_9 : decode cX12_mark 9 = .ok (.ifnonnull 9, 3) := by decide +kernel
theorem dX12_mark_12 : decode cX12_mark 12 = .ok (.aload_n 0, 1) := by decide +kernel
theorem dX12_mark_13 : decode cX12_mark 13 = .ok (.iconst 1, 1) := by decide +kernel
theorem dX12_mark_14 : decode cX12_mark 14 = .ok (.invokevirtual 68, 3) := by decide +kernel
theorem dX12_mark_17 : decode cX12_mark 17 = .ok (.ireturn, 1) := by decide +kernel
theorem dX12_mark_18 : decode cX12_mark 18 = .ok (.aload_n 0, 1) := by decide +kernel
theorem dX12_mark_19 : decode cX12_mark 19 = .ok (.getfield 364, 3) := by decide +kernel
theorem dX12_mark_22 : decode cX12_mark 22 = .ok (.iconst 3, 1) := by decide +kernel
theorem dX12_mark_23 : decode cX12_mark 23 = .ok (.if_icmp .ne 9, 3) := by decide +kernel
theorem dX12_mark_26 : decode cX12_mark 26 = .ok (.aload_n 0, 1) := by decide +kernel
theorem dX12_mark_27 : decode cX12_mark 27 = .ok (.iconst 3, 1) := by decide +kernel
theorem dX12_mark_28 : decode cX12_mark 28 = .ok (.invokevirtual 68, 3) := by decide +kernel
theorem dX12_mark_31 : decode cX12_mark 31 = .ok (.ireturn, 1) := by decide +kernel
theorem dX12_mark_32 : decode cX12_mark 32 = .ok (.aload_n 0, 1) := by decide +kernel
theorem dX12_mark_33 : decode cX12_mark 33 = .ok (.getfield 53, 3) := by decide +kernel
theorem dX12_mark_36 : decode cX12_mark 36 = .ok (.aload_n 0, 1) := by decide +kernel
theorem dX12_mark_37 : decode cX12_mark 37 = .ok (.getfield 364, 3) := by decide +kernel
theorem dX12_mark_40 : decode cX12_mark 40 = .ok (.aload_n 0, 1) := by decide +kernel
theorem dX12_mark_41 : decode cX12_mark 41 = .ok (.getfield 357, 3) := by decide +kernel
theorem dX12_mark_44 : decode cX12_mark 44 = .ok (.lastore, 1) := by decide +kernel
theorem dX12_mark_45 : decode cX12_mark 45 = .ok (.aload_n 0, 1) := by decide +kernel
theorem dX12_mark_46 : decode cX12_mark 46 = .ok (.getfield 59, 3) := by decide +kernel
theorem dX12_mark_49 : decode cX12_mark 49 = .ok (.aload_n 0, 1) := by decide +kernel
theorem dX12_mark_50 : decode cX12_mark 50 = .ok (.getfield 364, 3) := by decide +kernel
theorem dX12_mark_53 : decode cX12_mark 53 = .ok (.aload_n 0, 1) := by decide +kernel
theorem dX12_mark_54 : decode cX12_mark 54 = .ok (.getfield 358, 3) := by decide +kernel
theorem dX12_mark_57 : decode cX12_mark 57 = .ok (.iastore, 1) := by decide +kernel
theorem dX12_mark_58 : decode cX12_mark 58 = .ok (.aload_n 0, 1) := by decide +kernel
theorem dX12_mark_59 : decode cX12_mark 59 = .ok (.dup, 1) := by decide +kernel
theorem dX12_mark_60 : decode cX12_mark 60 = .ok (.getfield 364, 3) := by decide +kernel
theorem dX12_mark_63 : decode cX12_mark 63 = .ok (.iconst 1, 1) := by decide +kernel
theorem dX12_mark_64 : decode cX12_mark 64 = .ok (.iadd, 1) := by decide +kernel
theorem dX12_mark_65 : decode cX12_mark 65 = .ok (.putfield 364, 3) := by decide +kernel
theorem dX12_mark_68 : decode cX12_mark 68 = .ok (.aload_n 0, 1) := by decide +kernel
theorem dX12_mark_69 : decode cX12_mark 69 = .ok (.aload_n 0, 1) := by decide +kernel
theorem dX12_mark_70 : decode cX12_mark 70 = .ok (.getfield 364, 3) := by decide +kernel
theorem dX12_mark_73 : decode cX12_mark 73 = .ok (.iconst 1, 1) := by decide +kernel
theorem dX12_mark_74 : decode cX12_mark 74 = .ok (.isub, 1) := by decide +kernel
theorem dX12_mark_75 : decode cX12_mark 75 = .ok (.invokevirtual 72, 3) := by decide +kernel
theorem dX12_mark_78 : decode cX12_mark 78 = .ok (.ireturn, 1) := by decide +kernel
theorem dX12_back_0 : decode cX12_back 0 = .ok (.aload_n 0, 1) := by decide +kernel
theorem dX12_back_1 : decode cX12_back 1 = .ok (.iconst 0, 1) := by decide +kernel
theorem dX12_back_2 : decode cX12_back 2 = .ok (.putfield 62, 3) := by decide +kernel
theorem dX12_back_5 : decode cX12_back 5 = .ok (.aload_n 0, 1) := by decide +kernel
theorem dX12_back_6 : decode cX12_back 6 = .ok (.getfield 355, 3) := by decide +kernel
theorem dX12_back_9 : decode cX12_back 9 = .ok (.ifnull 15, 3) := by decide +kernel
theorem dX12_back_12 : decode cX12_back 12 = .ok (.iload_n 1, 1) := by decide +kernel
theorem dX12_back_13 : decode cX12_back 13 = .ok (.ifCond .lt 11, 3) := by decide +kernel
theorem dX12_back_16 : decode cX12_back 16 = .ok (.iload_n 1, 1) := by decide +kernel
theorem dX12_back_17 : decode cX12_back 17 = .ok (.aload_n 0, 1) := by decide +kernel
theorem dX12_back_18 : decode cX12_back 18 = .ok (.getfield 364, 3) := by decide +kernel
theorem dX12_back_21 : decode cX12_back 21 = .ok (.if_icmp .lt 9, 3) := by decide +kernel
theorem dX12_back_24 : decode cX12_back 24 = .ok (.aload_n 0, 1) := by decide +kernel
theorem dX12_back_25 : decode cX12_back 25 = .ok (.iconst 1, 1) := by decide +kernel
theorem dX12_back_26 : decode cX12_back 26 = .ok (.invokevirtual 517, 3) := by decide +kernel
theorem dX12_back_29 : decode cX12_back 29 = .ok (.ireturn, 1) := by decide +kernel
theorem dX12_back_30 : decode cX12_back 30 = .ok (.aload_n 0, 1) := by decide +kernel
theorem dX12_back_31 : decode cX12_back 31 = .ok (.aload_n 0, 1) := by decide +kernel
theorem dX12_back_32 : decode cX12_back 32 = .ok (.getfield 53, 3) := by decide +kernel
theorem dX12_back_35 : decode cX12_back 35 = .ok (.iload_n 1, 1) := by decide +kernel
theorem dX12_back_36 : decode cX12_back 36 = .ok (.laload, 1) := by decide +kernel
theorem dX12_back_37 : decode cX12_back 37 = .ok (.putfield 357, 3) := by decide +kernel
theorem dX12_back_40 : decode cX12_back 40 = .ok (.aload_n 0, 1) := by decide +kernel
theorem dX12_back_41 : decode cX12_back 41 = .ok (.aload_n 0, 1) := by decide +kernel
theorem dX12_back_42 : decode cX12_back 42 = .ok (.getfield 59, 3) := by decide +kernel
theorem dX12_back_45 : decode cX12_back 45 = .ok (.iload_n 1, 1) := by decide +kernel
theorem dX12_back_46 : decode cX12_back 46 = .ok (.iaload, 1) := by decide +kernel
theorem dX12_back_47 : decode cX12_back 47 = .ok (.putfield 358, 3) := by decide +kernel
theorem dX12_back_50 : decode cX12_back 50 = .ok (.aload_n 0, 1) := by decide +kernel
theorem dX12_back_51 : decode cX12_back 51 = .ok (.iconst 0, 1) := by decide +kernel
theorem dX12_back_52 : decode cX12_back 52 = .ok (.putfield 361, 3) := by decide +kernel
theorem dX12_back_55 : decode cX12_back 55 = .ok (.aload_n 0, 1) := by decide +kernel
theorem dX12_back_56 : decode cX12_back 56 = .ok (.invokevirtual 523, 3) := by decide +kernel
theorem dX12_back_59 : decode cX12_back 59 = .ok (.ireturn, 1) := by decide +kernel
theorem dX12_led_0 : decode cX12_led 0 = .ok (.aload_n 0, 1) := by decide +kernel
theorem dX12_led_1 : decode cX12_led 1 = .ok (.iconst 0, 1) := by decide +kernel
theorem dX12_led_2 : decode cX12_led 2 = .ok (.putfield 62, 3) := by decide +kernel
theorem dX12_led_5 : decode cX12_led 5 = .ok (.iconst 0, 1) := by decide +kernel
theorem dX12_led_6 : decode cX12_led 6 = .ok (.istore_n 2, 1) := by decide +kernel
theorem dX12_led_7 : decode cX12_led 7 = .ok (.iconst 0, 1) := by decide +kernel
theorem dX12_led_8 : decode cX12_led 8 = .ok (.istore_n 3, 1) := by decide +kernel
theorem dX12_led_9 : decode cX12_led 9 = .ok (.aload_n 0, 1) := by decide +kernel
theorem dX12_led_10 : decode cX12_led 10 = .ok (.getfield 355, 3) := by decide +kernel
theorem dX12_led_13 : decode cX12_led 13 = .ok (.ifnull 49, 3) := by decide +kernel
theorem dX12_led_16 : decode cX12_led 16 = .ok (.iload_n 3, 1) := by decide +kernel
theorem dX12_led_17 : decode cX12_led 17 = .ok (.aload_n 0, 1) := by decide +kernel
theorem dX12_led_18 : decode cX12_led 18 = .ok (.getfield 355, 3) := by decide +kernel
theorem dX12_led_21 : decode cX12_led 21 = .ok (.getfield 278, 3) := by decide +kernel
theorem dX12_led_24 : decode cX12_led 24 = .ok (.if_icmp .ge 38, 3) := by decide +kernel
theorem dX12_led_27 : decode cX12_led 27 = .ok (.aload_n 0, 1) := by decide +kernel
theorem dX12_led_28 : decode cX12_led 28 = .ok (.aload_n 0, 1) := by decide +kernel
theorem dX12_led_29 : decode cX12_led 29 = .ok (.getfield 355, 3) := by decide +kernel
theorem dX12_led_32 : decode cX12_led 32 = .ok (.getfield 284, 3) := by decide +kernel
theorem dX12_led_35 : decode cX12_led 35 = .ok (.iload_n 3, 1) := by decide +kernel
theorem dX12_led_36 : decode cX12_led 36 = .ok (.iaload, 1) := by decide +kernel
theorem dX12_led_37 : decode cX12_led 37 = .ok (.invokevirtual 502, 3) := by decide +kernel
theorem dX12_led_40 : decode cX12_led 40 = .ok (.ifCond .eq 6, 3) := by decide +kernel
theorem dX12_led_43 : decode cX12_led 43 = .ok (.goto 13, 3) := by decide +kernel
theorem dX12_led_46 : decode cX12_led 46 = .ok (.iload_n 2, 1) := by decide +kernel
theorem dX12_led_47 : decode cX12_led 47 = .ok (.iload_n 1, 1) := by decide +kernel
theorem dX12_led_48 : decode cX12_led 48 = .ok (.if_icmp .ne 5, 3) := by decide +kernel
theorem dX12_led_51 : decode cX12_led 51 = .ok (.iload_n 3, 1) := by decide +kernel
theorem dX12_led_52 : decode cX12_led 52 = .ok (.ireturn, 1) := by decide +kernel
theorem dX12_led_53 : decode cX12_led 53 = .ok (.iinc 2 1, 3) := by decide +kernel
theorem dX12_led_56 : decode cX12_led 56 = .ok (.iinc 3 1, 3) := by decide +kernel
theorem dX12_led_59 : decode cX12_led 59 = .ok (.goto (-50), 3) := by decide +kernel
theorem dX12_led_62 : decode cX12_led 62 = .ok (.aload_n 0, 1) := by decide +kernel
theorem dX12_led_63 : decode cX12_led 63 = .ok (.iconst 1, 1) := by decide +kernel
theorem dX12_led_64 : decode cX12_led 64 = .ok (.putfield 62, 3) := by decide +kernel
theorem dX12_led_67 : decode cX12_led 67 = .ok (.iconst 0, 1) := by decide +kernel
theorem dX12_led_68 : decode cX12_led 68 = .ok (.ireturn, 1) := by decide +kernel
theorem dX12_size_0 : decode cX12_size 0 = .ok (.aload_n 0, 1) := by decide +kernel
theorem dX12_size_1 : decode cX12_size 1 = .ok (.iconst 0, 1) := by decide +kernel
theorem dX12_size_2 : decode cX12_size 2 = .ok (.putfield 62, 3) := by decide +kernel
theorem dX12_size_5 : decode cX12_size 5 = .ok (.iload_n 1, 1) := by decide +kernel
theorem dX12_size_6 : decode cX12_size 6 = .ok (.bipush 12, 2) := by decide +kernel
theorem dX12_size_8 : decode cX12_size 8 = .ok (.if_icmp .ne 8, 3) := by decide +kernel
theorem dX12_size_11 : decode cX12_size 11 = .ok (.aload_n 0, 1) := by decide +kernel
theorem dX12_size_12 : decode cX12_size 12 = .ok (.getfield 348, 3) := by decide +kernel
theorem dX12_size_15 : decode cX12_size 15 = .ok (.ireturn, 1) := by decide +kernel
theorem dX12_size_16 : decode cX12_size 16 = .ok (.iload_n 1, 1) := by decide +kernel
theorem dX12_size_17 : decode cX12_size 17 = .ok (.iconst 0, 1) := by decide +kernel
theorem dX12_size_18 : decode cX12_size 18 = .ok (.bipush 11, 2) := by decide +kernel
theorem dX12_size_20 : decode cX12_size 20 = .ok (.invokestatic 147, 3) := by decide +kernel
theorem dX12_size_23 : decode cX12_size 23 = .ok (.ifCond .ne 5, 3) := by decide +kernel
theorem dX12_size_26 : decode cX12_size 26 = .ok (.iconst (-1), 1) := by decide +kernel
theorem dX12_size_27 : decode cX12_size 27 = .ok (.ireturn, 1) := by decide +kernel
theorem dX12_size_28 : decode cX12_size 28 = .ok (.aload_n 0, 1) := by decide +kernel
theorem dX12_size_29 : decode cX12_size 29 = .ok (.getfield 355, 3) := by decide +kernel
theorem dX12_size_32 : decode cX12_size 32 = .ok (.ifnonnull 5, 3) := by decide +kernel
theorem dX12_size_35 : decode cX12_size 35 = .ok (.iconst 0, 1) := by decide +kernel
theorem dX12_size_36 : decode cX12_size 36 = .ok (.ireturn, 1) := by decide +kernel
theorem dX12_size_37 : decode cX12_size 37 = .ok (.iload_n 1, 1) := by decide +kernel
theorem dX12_size_38 : decode cX12_size 38 = .ok (.tableswitch 140 0 10 #[58, 66, 74, 82, 90, 98, 106, 114, 122, 130, 135], 58) := by decide +kernel
theorem dX12_size_96 : decode cX12_size 96 = .ok (.aload_n 0, 1) := by decide +kernel
theorem dX12_size_97 : decode cX12_size 97 = .ok (.getfield 355, 3) := by decide +kernel
theorem dX12_size_100 : decode cX12_size 100 = .ok (.getfield 166, 3) := by decide +kernel
theorem dX12_size_103 : decode cX12_size 103 = .ok (.ireturn, 1) := by decide +kernel
theorem dX12_size_104 : decode cX12_size 104 = .ok (.aload_n 0, 1) := by decide +kernel
theorem dX12_size_105 : decode cX12_size 105 = .ok (.getfield 355, 3) := by decide +kernel
theorem dX12_size_108 : decode cX12_size 108 = .ok (.getfield 174, 3) := by decide +kernel
theorem dX12_size_111 : decode cX12_size 111 = .ok (.ireturn, 1) := by decide +kernel
theorem dX12_size_112 : decode cX12_size 112 = .ok (.aload_n 0, 1) := by decide +kernel
theorem dX12_size_113 : decode cX12_size 113 = .ok (.getfield 355, 3) := by decide +kernel
theorem dX12_size_116 : decode cX12_size 116 = .ok (.getfield 237, 3) := by decide +kernel
theorem dX12_size_119 : decode cX12_size 119 = .ok (.ireturn, 1) := by decide +kernel
theorem dX12_size_120 : decode cX12_size 120 = .ok (.aload_n 0, 1) := by decide +kernel
theorem dX12_size_121 : decode cX12_size 121 = .ok (.getfield 355, 3) := by decide +kernel
theorem dX12_size_124 : decode cX12_size 124 = .ok (.getfield 239, 3) := by decide +kernel
theorem dX12_size_127 : decode cX12_size 127 = .ok (.ireturn, 1) := by decide +kernel
theorem dX12_size_128 : decode cX12_size 128 = .ok (.aload_n 0, 1) := by decide +kernel
theorem dX12_size_129 : decode cX12_size 129 = .ok (.getfield 355, 3) := by decide +kernel
theorem dX12_size_132 : decode cX12_size 132 = .ok (.getfield 278, 3) := by decide +kernel
theorem dX12_size_135 : decode cX12_size 135 = .ok (.ireturn, 1) := by decide +kernel
theorem dX12_size_136 : decode cX12_size 136 = .ok (.aload_n 0, 1) := by decide +kernel
theorem dX12_size_137 : decode cX12_size 137 = .ok (.getfield 355, 3) := by decide +kernel
theorem dX12_size_140 : decode cX12_size 140 = .ok (.getfield 301, 3) := by decide +kernel
theorem dX12_size_143 : decode cX12_size 143 = .ok (.ireturn, 1) := by decide +kernel
theorem dX12_size_144 : decode cX12_size 144 = .ok (.aload_n 0, 1) := by decide +kernel
theorem dX12_size_145 : decode cX12_size 145 = .ok (.getfield 355, 3) := by decide +kernel
theorem dX12_size_148 : decode cX12_size 148 = .ok (.getfield 291, 3) := by decide +kernel
theorem dX12_size_151 : decode cX12_size 151 = .ok (.ireturn, 1) := by decide +kernel
theorem dX12_size_152 : decode cX12_size 152 = .ok (.aload_n 0, 1) := by decide +kernel
theorem dX12_size_153 : decode cX12_size 153 = .ok (.getfield 355, 3) := by decide +kernel
theorem dX12_size_156 : decode cX12_size 156 = .ok (.getfield 286, 3) := by decide +kernel
theorem dX12_size_159 : decode cX12_size 159 = .ok (.ireturn, 1) := by decide +kernel
theorem dX12_size_160 : decode cX12_size 160 = .ok (.aload_n 0, 1) := by decide +kernel
theorem dX12_size_161 : decode cX12_size 161 = .ok (.getfield 357, 3) := by decide +kernel
theorem dX12_size_164 : decode cX12_size 164 = .ok (.invokestatic 367, 3) := by decide +kernel
theorem dX12_size_167 : decode cX12_size 167 = .ok (.ireturn, 1) := by decide +kernel
theorem dX12_size_168 : decode cX12_size 168 = .ok (.aload_n 0, 1) := by decide +kernel
theorem dX12_size_169 : decode cX12_size 169 = .ok (.getfield 358, 3) := by decide +kernel
theorem dX12_size_172 : decode cX12_size 172 = .ok (.ireturn, 1) := by decide +kernel
theorem dX12_size_173 : decode cX12_size 173 = .ok (.aload_n 0, 1) := by decide +kernel
theorem dX12_size_174 : decode cX12_size 174 = .ok (.getfield 361, 3) := by decide +kernel
theorem dX12_size_177 : decode cX12_size 177 = .ok (.ireturn, 1) := by decide +kernel
theorem dX12_size_178 : decode cX12_size 178 = .ok (.aload_n 0, 1) := by decide +kernel
theorem dX12_size_179 : decode cX12_size 179 = .ok (.getfield 364, 3) := by decide +kernel
theorem dX12_size_182 : decode cX12_size 182 = .ok (.ireturn, 1) := by decide +kernel
theorem dX12_trouble_0 : decode cX12_trouble 0 = .ok (.aload_n 0, 1) := by decide +kernel
theorem dX12_trouble_1 : decode cX12_trouble 1 = .ok (.iconst 0, 1) := by decide +kernel
theorem dX12_trouble_2 : decode cX12_trouble 2 = .ok (.putfield 62, 3) := by decide +kernel
theorem dX12_trouble_5 : decode cX12_trouble 5 = .ok (.aload_n 0, 1) := by decide +kernel
theorem dX12_trouble_6 : decode cX12_trouble 6 = .ok (.getfield 65, 3) := by decide +kernel
theorem dX12_trouble_9 : decode cX12_trouble 9 = .ok (.ireturn, 1) := by decide +kernel
theorem dJ13_bitCount_95d88_0 : decode cJ13_bitCount_95d88 0 = .ok (.lload_n 0, 1) := by decide +kernel
theorem dJ13_bitCount_95d88_1 : decode cJ13_bitCount_95d88 1 = .ok (.lload_n 0, 1) := by decide +kernel
theorem dJ13_bitCount_95d88_2 : decode cJ13_bitCount_95d88 2 = .ok (.iconst 1, 1) := by decide +kernel
theorem dJ13_bitCount_95d88_3 : decode cJ13_bitCount_95d88 3 = .ok (.lushr, 1) := by decide +kernel
theorem dJ13_bitCount_95d88_4 : decode cJ13_bitCount_95d88 4 = .ok (.ldc2_w 314, 3) := by decide +kernel
theorem dJ13_bitCount_95d88_7 : decode cJ13_bitCount_95d88 7 = .ok (.land, 1) := by decide +kernel
theorem dJ13_bitCount_95d88_8 : decode cJ13_bitCount_95d88 8 = .ok (.lsub, 1) := by decide +kernel
theorem dJ13_bitCount_95d88_9 : decode cJ13_bitCount_95d88 9 = .ok (.lstore_n 0, 1) := by decide +kernel
theorem dJ13_bitCount_95d88_10 : decode cJ13_bitCount_95d88 10 = .ok (.lload_n 0, 1) := by decide +kernel
theorem dJ13_bitCount_95d88_11 : decode cJ13_bitCount_95d88 11 = .ok (.ldc2_w 316, 3) := by decide +kernel
theorem dJ13_bitCount_95d88_14 : decode cJ13_bitCount_95d88 14 = .ok (.land, 1) := by decide +kernel
theorem dJ13_bitCount_95d88_15 : decode cJ13_bitCount_95d88 15 = .ok (.lload_n 0, 1) := by decide +kernel
theorem dJ13_bitCount_95d88_16 : decode cJ13_bitCount_95d88 16 = .ok (.iconst 2, 1) := by decide +kernel
theorem dJ13_bitCount_95d88_17 : decode cJ13_bitCount_95d88 17 = .ok (.lushr, 1) := by decide +kernel
theorem dJ13_bitCount_95d88_18 : decode cJ13_bitCount_95d88 18 = .ok (.ldc2_w 316, 3) := by decide +kernel
theorem dJ13_bitCount_95d88_21 : decode cJ13_bitCount_95d88 21 = .ok (.land, 1) := by decide +kernel
theorem dJ13_bitCount_95d88_22 : decode cJ13_bitCount_95d88 22 = .ok (.ladd, 1) := by decide +kernel
theorem dJ13_bitCount_95d88_23 : decode cJ13_bitCount_95d88 23 = .ok (.lstore_n 0, 1) := by decide +kernel
theorem dJ13_bitCount_95d88_24 : decode cJ13_bitCount_95d88 24 = .ok (.lload_n 0, 1) := by decide +kernel
theorem dJ13_bitCount_95d88_25 : decode cJ13_bitCount_95d88 25 = .ok (.lload_n 0, 1) := by decide +kernel
theorem dJ13_bitCount_95d88_26 : decode cJ13_bitCount_95d88 26 = .ok (.iconst 4, 1) := by decide +kernel
theorem dJ13_bitCount_95d88_27 : decode cJ13_bitCount_95d88 27 = .ok (.lushr, 1) := by decide +kernel
theorem dJ13_bitCount_95d88_28 : decode cJ13_bitCount_95d88 28 = .ok (.ladd, 1) := by decide +kernel
theorem dJ13_bitCount_95d88_29 : decode cJ13_bitCount_95d88 29 = .ok (.ldc2_w 318, 3) := by decide +kernel
theorem dJ13_bitCount_95d88_32 : decode cJ13_bitCount_95d88 32 = .ok (.land, 1) := by decide +kernel
theorem dJ13_bitCount_95d88_33 : decode cJ13_bitCount_95d88 33 = .ok (.lstore_n 0, 1) := by decide +kernel
theorem dJ13_bitCount_95d88_34 : decode cJ13_bitCount_95d88 34 = .ok (.lload_n 0, 1) := by decide +kernel
theorem dJ13_bitCount_95d88_35 : decode cJ13_bitCount_95d88 35 = .ok (.lload_n 0, 1) := by decide +kernel
theorem dJ13_bitCount_95d88_36 : decode cJ13_bitCount_95d88 36 = .ok (.bipush 8, 2) := by decide +kernel
theorem dJ13_bitCount_95d88_38 : decode cJ13_bitCount_95d88 38 = .ok (.lushr, 1) := by decide +kernel
theorem dJ13_bitCount_95d88_39 : decode cJ13_bitCount_95d88 39 = .ok (.ladd, 1) := by decide +kernel
theorem dJ13_bitCount_95d88_40 : decode cJ13_bitCount_95d88 40 = .ok (.lstore_n 0, 1) := by decide +kernel
theorem dJ13_bitCount_95d88_41 : decode cJ13_bitCount_95d88 41 = .ok (.lload_n 0, 1) := by decide +kernel
theorem dJ13_bitCount_95d88_42 : decode cJ13_bitCount_95d88 42 = .ok (.lload_n 0, 1) := by decide +kernel
theorem dJ13_bitCount_95d88_43 : decode cJ13_bitCount_95d88 43 = .ok (.bipush 16, 2) := by decide +kernel
theorem dJ13_bitCount_95d88_45 : decode cJ13_bitCount_95d88 45 = .ok (.lushr, 1) := by decide +kernel
theorem dJ13_bitCount_95d88_46 : decode cJ13_bitCount_95d88 46 = .ok (.ladd, 1) := by decide +kernel
theorem dJ13_bitCount_95d88_47 : decode cJ13_bitCount_95d88 47 = .ok (.lstore_n 0, 1) := by decide +kernel
theorem dJ13_bitCount_95d88_48 : decode cJ13_bitCount_95d88 48 = .ok (.lload_n 0, 1) := by decide +kernel
theorem dJ13_bitCount_95d88_49 : decode cJ13_bitCount_95d88 49 = .ok (.lload_n 0, 1) := by decide +kernel
theorem dJ13_bitCount_95d88_50 : decode cJ13_bitCount_95d88 50 = .ok (.bipush 32, 2) := by decide +kernel
theorem dJ13_bitCount_95d88_52 : decode cJ13_bitCount_95d88 52 = .ok (.lushr, 1) := by decide +kernel
theorem dJ13_bitCount_95d88_53 : decode cJ13_bitCount_95d88 53 = .ok (.ladd, 1) := by decide +kernel
theorem dJ13_bitCount_95d88_54 : decode cJ13_bitCount_95d88 54 = .ok (.lstore_n 0, 1) := by decide +kernel
theorem dJ13_bitCount_95d88_55 : decode cJ13_bitCount_95d88 55 = .ok (.lload_n 0, 1) := by decide +kernel
theorem dJ13_bitCount_95d88_56 : decode cJ13_bitCount_95d88 56 = .ok (.l2i, 1) := by decide +kernel
theorem dJ13_bitCount_95d88_57 : decode cJ13_bitCount_95d88 57 = .ok (.bipush 127, 2) := by decide +kernel
theorem dJ13_bitCount_95d88_59 : decode cJ13_bitCount_95d88 59 = .ok (.iand, 1) := by decide +kernel
theorem dJ13_bitCount_95d88_60 : decode cJ13_bitCount_95d88 60 = .ok (.ireturn, 1) := by decide +kernel
theorem dJ9_max_7cf53_0 : decode cJ9_max_7cf53 0 = .ok (.iload_n 0, 1) := by decide +kernel
theorem dJ9_max_7cf53_1 : decode cJ9_max_7cf53 1 = .ok (.iload_n 1, 1) := by decide +kernel
theorem dJ9_max_7cf53_2 : decode cJ9_max_7cf53 2 = .ok (.if_icmp .lt 7, 3) := by decide +kernel
theorem dJ9_max_7cf53_5 : decode cJ9_max_7cf53 5 = .ok (.iload_n 0, 1) := by decide +kernel
theorem dJ9_max_7cf53_6 : decode cJ9_max_7cf53 6 = .ok (.goto 4, 3) := by decide +kernel
theorem dJ9_max_7cf53_9 : decode cJ9_max_7cf53 9 = .ok (.iload_n 1, 1) := by decide +kernel
theorem dJ9_max_7cf53_10 : decode cJ9_max_7cf53 10 = .ok (.ireturn, 1) := by decide +kernel
theorem dJ9_min_7cf53_0 : decode cJ9_min_7cf53 0 = .ok (.iload_n 0, 1) := by decide +kernel
theorem dJ9_min_7cf53_1 : decode cJ9_min_7cf53 1 = .ok (.iload_n 1, 1) := by decide +kernel
theorem dJ9_min_7cf53_2 : decode cJ9_min_7cf53 2 = .ok (.if_icmp .gt 7, 3) := by decide +kernel
theorem dJ9_min_7cf53_5 : decode cJ9_min_7cf53 5 = .ok (.iload_n 0, 1) := by decide +kernel
theorem dJ9_min_7cf53_6 : decode cJ9_min_7cf53 6 = .ok (.goto 4, 3) := by decide +kernel
theorem dJ9_min_7cf53_9 : decode cJ9_min_7cf53 9 = .ok (.iload_n 1, 1) := by decide +kernel
theorem dJ9_min_7cf53_10 : decode cJ9_min_7cf53 10 = .ok (.ireturn, 1) := by decide +kernel
theorem dJ0_length_8abf5_0 : decode cJ0_length_8abf5 0 = .ok (.aload_n 0, 1) := by decide +kernel
theorem dJ0_length_8abf5_1 : decode cJ0_length_8abf5 1 = .ok (.getfield 9, 3) := by decide +kernel
theorem dJ0_length_8abf5_4 : decode cJ0_length_8abf5 4 = .ok (.arraylength, 1) := by decide +kernel
theorem dJ0_length_8abf5_5 : decode cJ0_length_8abf5 5 = .ok (.aload_n 0, 1) := by decide +kernel
theorem dJ0_length_8abf5_6 : decode cJ0_length_8abf5 6 = .ok (.invokevirtual 335, 3) := by decide +kernel
theorem dJ0_length_8abf5_9 : decode cJ0_length_8abf5 9 = .ok (.ishr, 1) := by decide +kernel
theorem dJ0_length_8abf5_10 : decode cJ0_length_8abf5 10 = .ok (.ireturn, 1) := by decide +kernel
theorem dJ0_charAt_5068e_0 : decode cJ0_charAt_5068e 0 = .ok (.aload_n 0, 1) := by decide +kernel
theorem dJ0_charAt_5068e_1 : decode cJ0_charAt_5068e 1 = .ok (.invokevirtual 492, 3) := by decide +kernel
theorem dJ0_charAt_5068e_4 : decode cJ0_charAt_5068e 4 = .ok (.ifCond .eq 12, 3) := by decide +kernel
theorem dJ0_charAt_5068e_7 : decode cJ0_charAt_5068e 7 = .ok (.aload_n 0, 1) := by decide +kernel
theorem dJ0_charAt_5068e_8 : decode cJ0_charAt_5068e 8 = .ok (.getfield 9, 3) := by decide +kernel
theorem dJ0_charAt_5068e_11 : decode cJ0_charAt_5068e 11 = .ok (.iload_n 1, 1) := by decide +kernel
theorem dJ0_charAt_5068e_12 : decode cJ0_charAt_5068e 12 = .ok (.invokestatic 495, 3) := by decide +kernel
theorem dJ0_charAt_5068e_15 : decode cJ0_charAt_5068e 15 = .ok (.ireturn, 1) := by decide +kernel
theorem dJ0_charAt_5068e_16 : decode cJ0_charAt_5068e 16 = .ok (.aload_n 0, 1) := by decide +kernel
theorem dJ0_charAt_5068e_17 : decode cJ0_charAt_5068e 17 = .ok (.getfield 9, 3) := by decide +kernel
theorem dJ0_charAt_5068e_20 : decode cJ0_charAt_5068e 20 = .ok (.iload_n 1, 1) := by decide +kernel
theorem dJ0_charAt_5068e_21 : decode cJ0_charAt_5068e 21 = .ok (.invokestatic 498, 3) := by decide +kernel
theorem dJ0_charAt_5068e_24 : decode cJ0_charAt_5068e 24 = .ok (.ireturn, 1) := by decide +kernel
theorem dJ0_coder_7d493_0 : decode cJ0_coder_7d493 0 = .ok (.getstatic 38, 3) := by decide +kernel
theorem dJ0_coder_7d493_3 : decode cJ0_coder_7d493 3 = .ok (.ifCond .eq 10, 3) := by decide +kernel
theorem dJ0_coder_7d493_6 : decode cJ0_coder_7d493 6 = .ok (.aload_n 0, 1) := by decide +kernel
theorem dJ0_coder_7d493_7 : decode cJ0_coder_7d493 7 = .ok (.getfield 15, 3) := by decide +kernel
theorem dJ0_coder_7d493_10 : decode cJ0_coder_7d493 10 = .ok (.goto 4, 3) := by decide +kernel
theorem dJ0_coder_7d493_13 : decode cJ0_coder_7d493 13 = .ok (.iconst 1, 1) := by decide +kernel
theorem dJ0_coder_7d493_14 : decode cJ0_coder_7d493 14 = .ok (.ireturn, 1) := by decide +kernel
theorem dJ0_isLatin1_aae02_0 : decode cJ0_isLatin1_aae02 0 = .ok (.getstatic 38, 3) := by decide +kernel
theorem dJ0_isLatin1_aae02_3 : decode cJ0_isLatin1_aae02 3 = .ok (.ifCond .eq 14, 3) := by decide +kernel
theorem dJ0_isLatin1_aae02_6 : decode cJ0_isLatin1_aae02 6 = .ok (.aload_n 0, 1) := by decide +kernel
theorem dJ0_isLatin1_aae02_7 : decode cJ0_isLatin1_aae02 7 = .ok (.getfield 15, 3) := by decide +kernel
theorem dJ0_isLatin1_aae02_10 : decode cJ0_isLatin1_aae02 10 = .ok (.ifCond .ne 7, 3) := by decide +kernel
theorem dJ0_isLatin1_aae02_13 : decode cJ0_isLatin1_aae02 13 = .ok (.iconst 1, 1) := by decide +kernel
theorem dJ0_isLatin1_aae02_14 : decode cJ0_isLatin1_aae02 14 = .ok (.goto 4, 3) := by decide +kernel
theorem dJ0_isLatin1_aae02_17 : decode cJ0_isLatin1_aae02 17 = .ok (.iconst 0, 1) := by decide +kernel
theorem dJ0_isLatin1_aae02_18 : decode cJ0_isLatin1_aae02 18 = .ok (.ireturn, 1) := by decide +kernel
theorem dJ0_checkIndex_df160_0 : decode cJ0_checkIndex_df160 0 = .ok (.iload_n 0, 1) := by decide +kernel
theorem dJ0_checkIndex_df160_1 : decode cJ0_checkIndex_df160 1 = .ok (.iload_n 1, 1) := by decide +kernel
theorem dJ0_checkIndex_df160_2 : decode cJ0_checkIndex_df160 2 = .ok (.getstatic 1053, 3) := by decide +kernel
theorem dJ0_checkIndex_df160_5 : decode cJ0_checkIndex_df160 5 = .ok (.invokestatic 1059, 3) := by decide +kernel
theorem dJ0_checkIndex_df160_8 : decode cJ0_checkIndex_df160 8 = .ok (.pop, 1) := by decide +kernel
theorem dJ0_checkIndex_df160_9 : decode cJ0_checkIndex_df160 9 = .ok (.return_, 1) := by decide +kernel
theorem dJ1_charAt_3b067_0 : decode cJ1_charAt_3b067 0 = .ok (.iload_n 1, 1) := by decide +kernel
theorem dJ1_charAt_3b067_1 : decode cJ1_charAt_3b067 1 = .ok (.aload_n 0, 1) := by decide +kernel
theorem dJ1_charAt_3b067_2 : decode cJ1_charAt_3b067 2 = .ok (.arraylength, 1) := by decide +kernel
theorem dJ1_charAt_3b067_3 : decode cJ1_charAt_3b067 3 = .ok (.invokestatic 9, 3) := by decide +kernel
theorem dJ1_charAt_3b067_6 : decode cJ1_charAt_3b067 6 = .ok (.aload_n 0, 1) := by decide +kernel
theorem dJ1_charAt_3b067_7 : decode cJ1_charAt_3b067 7 = .ok (.iload_n 1, 1) := by decide +kernel
theorem dJ1_charAt_3b067_8 : decode cJ1_charAt_3b067 8 = .ok (.baload, 1) := by decide +kernel
theorem dJ1_charAt_3b067_9 : decode cJ1_charAt_3b067 9 = .ok (.sipush 255, 3) := by decide +kernel
theorem dJ1_charAt_3b067_12 : decode cJ1_charAt_3b067 12 = .ok (.iand, 1) := by decide +kernel
theorem dJ1_charAt_3b067_13 : decode cJ1_charAt_3b067 13 = .ok (.i2c, 1) := by decide +kernel
theorem dJ1_charAt_3b067_14 : decode cJ1_charAt_3b067 14 = .ok (.ireturn, 1) := by decide +kernel
theorem dJ2_getChar_3b067_0 : decode cJ2_getChar_3b067 0 = .ok (.getstatic 44, 3) := by decide +kernel
theorem dJ2_getChar_3b067_3 : decode cJ2_getChar_3b067 3 = .ok (.ifCond .ne 25, 3) := by decide +kernel
theorem dJ2_getChar_3b067_6 : decode cJ2_getChar_3b067 6 = .ok (.iload_n 1, 1) := by decide +kernel
theorem dJ2_getChar_3b067_7 : decode cJ2_getChar_3b067 7 = .ok (.ifCond .lt 11, 3) := by decide +kernel
theorem dJ2_getChar_3b067_10 : decode cJ2_getChar_3b067 10 = .ok (.iload_n 1, 1) := by decide +kernel
theorem dJ2_getChar_3b067_11 : decode cJ2_getChar_3b067 11 = .ok (.aload_n 0, 1) := by decide +kernel
theorem dJ2_getChar_3b067_12 : decode cJ2_getChar_3b067 12 = .ok (.invokestatic 48, 3) := by decide +kernel
theorem dJ2_getChar_3b067_15 : decode cJ2_getChar_3b067 15 = .ok (.if_icmp .lt 13, 3) := by decide +kernel
theorem dJ2_getChar_3b067_18 : decode cJ2_getChar_3b067 18 = .ok (.new 52, 3) := by decide +kernel
theorem dJ2_getChar_3b067_21 : decode cJ2_getChar_3b067 21 = .ok (.dup, 1) := by decide +kernel
theorem dJ2_getChar_3b067_22 : decode cJ2_getChar_3b067 22 = .ok (.ldc 54, 2) := by decide +kernel
theorem dJ2_getChar_3b067_24 : decode cJ2_getChar_3b067 24 = .ok (.invokespecial 56, 3) := by decide +kernel
theorem dJ2_getChar_3b067_27 : decode cJ2_getChar_3b067 27 = .ok (.athrow, 1) := by decide +kernel
theorem dJ2_getChar_3b067_28 : decode cJ2_getChar_3b067 28 = .ok (.iload_n 1, 1) := by decide +kernel
theorem dJ2_getChar_3b067_29 : decode cJ2_getChar_3b067 29 = .ok (.iconst 1, 1) := by decide +kernel
theorem dJ2_getChar_3b067_30 : decode cJ2_getChar_3b067 30 = .ok (.ishl, 1) := by decide +kernel
theorem dJ2_getChar_3b067_31 : decode cJ2_getChar_3b067 31 = .ok (.istore_n 1, 1) := by decide +kernel
theorem dJ2_getChar_3b067_32 : decode cJ2_getChar_3b067 32 = .ok (.aload_n 0, 1) := by decide +kernel
theorem dJ2_getChar_3b067_33 : decode cJ2_getChar_3b067 33 = .ok (.iload_n 1, 1) := by decide +kernel
theorem dJ2_getChar_3b067_34 : decode cJ2_getChar_3b067 34 = .ok (.iinc 1 1, 3) := by decide +kernel
theorem dJ2_getChar_3b067_37 : decode cJ2_getChar_3b067 37 = .ok (.baload, 1) := by decide +kernel
theorem dJ2_getChar_3b067_38 : decode cJ2_getChar_3b067 38 = .ok (.sipush 255, 3) := by decide +kernel
theorem dJ2_getChar_3b067_41 : decode cJ2_getChar_3b067 41 = .ok (.iand, 1) := by decide +kernel
theorem dJ2_getChar_3b067_42 : decode cJ2_getChar_3b067 42 = .ok (.getstatic 59, 3) := by decide +kernel
theorem dJ2_getChar_3b067_45 : decode cJ2_getChar_3b067 45 = .ok (.ishl, 1) := by decide +kernel
theorem dJ2_getChar_3b067_46 : decode cJ2_getChar_3b067 46 = .ok (.aload_n 0, 1) := by decide +kernel
theorem dJ2_getChar_3b067_47 : decode cJ2_getChar_3b067 47 = .ok (.iload_n 1, 1) := by decide +kernel
theorem dJ2_getChar_3b067_48 : decode cJ2_getChar_3b067 48 = .ok (.baload, 1) := by decide +kernel
theorem dJ2_getChar_3b067_49 : decode cJ2_getChar_3b067 49 = .ok (.sipush 255, 3) := by decide +kernel
theorem dJ2_getChar_3b067_52 : decode cJ2_getChar_3b067 52 = .ok (.iand, 1) := by decide +kernel
theorem dJ2_getChar_3b067_53 : decode cJ2_getChar_3b067 53 = .ok (.getstatic 63, 3) := by decide +kernel
theorem dJ2_getChar_3b067_56 : decode cJ2_getChar_3b067 56 = .ok (.ishl, 1) := by decide +kernel
theorem dJ2_getChar_3b067_57 : decode cJ2_getChar_3b067 57 = .ok (.ior, 1) := by decide +kernel
theorem dJ2_getChar_3b067_58 : decode cJ2_getChar_3b067 58 = .ok (.i2c, 1) := by decide +kernel
theorem dJ2_getChar_3b067_59 : decode cJ2_getChar_3b067 59 = .ok (.ireturn, 1) := by decide +kernel
theorem dJ2_length_9d52b_0 : decode cJ2_length_9d52b 0 = .ok (.aload_n 0, 1) := by decide +kernel
theorem dJ2_length_9d52b_1 : decode cJ2_length_9d52b 1 = .ok (.arraylength, 1) := by decide +kernel
theorem dJ2_length_9d52b_2 : decode cJ2_length_9d52b 2 = .ok (.iconst 1, 1) := by decide +kernel
theorem dJ2_length_9d52b_3 : decode cJ2_length_9d52b 3 = .ok (.ishr, 1) := by decide +kernel
theorem dJ2_length_9d52b_4 : decode cJ2_length_9d52b 4 = .ok (.ireturn, 1) := by decide +kernel
theorem dJ2_charAt_3b067_0 : decode cJ2_charAt_3b067 0 = .ok (.iload_n 1, 1) := by decide +kernel
theorem dJ2_charAt_3b067_1 : decode cJ2_charAt_3b067 1 = .ok (.aload_n 0, 1) := by decide +kernel
theorem dJ2_charAt_3b067_2 : decode cJ2_charAt_3b067 2 = .ok (.invokestatic 67, 3) := by decide +kernel
theorem dJ2_charAt_3b067_5 : decode cJ2_charAt_3b067 5 = .ok (.aload_n 0, 1) := by decide +kernel
theorem dJ2_charAt_3b067_6 : decode cJ2_charAt_3b067 6 = .ok (.iload_n 1, 1) := by decide +kernel
theorem dJ2_charAt_3b067_7 : decode cJ2_charAt_3b067 7 = .ok (.invokestatic 71, 3) := by decide +kernel
theorem dJ2_charAt_3b067_10 : decode cJ2_charAt_3b067 10 = .ok (.ireturn, 1) := by decide +kernel
theorem dJ2_checkIndex_2214a_0 : decode cJ2_checkIndex_2214a 0 = .ok (.iload_n 0, 1) := by decide +kernel
theorem dJ2_checkIndex_2214a_1 : decode cJ2_checkIndex_2214a 1 = .ok (.aload_n 1, 1) := by decide +kernel
theorem dJ2_checkIndex_2214a_2 : decode cJ2_checkIndex_2214a 2 = .ok (.invokestatic 48, 3) := by decide +kernel
theorem dJ2_checkIndex_2214a_5 : decode cJ2_checkIndex_2214a 5 = .ok (.invokestatic 414, 3) := by decide +kernel
theorem dJ2_checkIndex_2214a_8 : decode cJ2_checkIndex_2214a 8 = .ok (.return_, 1) := by decide +kernel
theorem dJ3_checkIndex_8e157_0 : decode cJ3_checkIndex_8e157 0 = .ok (.iload_n 0, 1) := by decide +kernel
theorem dJ3_checkIndex_8e157_1 : decode cJ3_checkIndex_8e157 1 = .ok (.ifCond .lt 8, 3) := by decide +kernel
theorem dJ3_checkIndex_8e157_4 : decode cJ3_checkIndex_8e157 4 = .ok (.iload_n 0, 1) := by decide +kernel
theorem dJ3_checkIndex_8e157_5 : decode cJ3_checkIndex_8e157 5 = .ok (.iload_n 1, 1) := by decide +kernel
theorem dJ3_checkIndex_8e157_6 : decode cJ3_checkIndex_8e157 6 = .ok (.if_icmp .lt 10, 3) := by decide +kernel
theorem dJ3_checkIndex_8e157_9 : decode cJ3_checkIndex_8e157 9 = .ok (.aload_n 2, 1) := by decide +kernel
theorem dJ3_checkIndex_8e157_10 : decode cJ3_checkIndex_8e157 10 = .ok (.iload_n 0, 1) := by decide +kernel
theorem dJ3_checkIndex_8e157_11 : decode cJ3_checkIndex_8e157 11 = .ok (.iload_n 1, 1) := by decide +kernel
theorem dJ3_checkIndex_8e157_12 : decode cJ3_checkIndex_8e157 12 = .ok (.invokestatic 95, 3) := by decide +kernel
theorem dJ3_checkIndex_8e157_15 : decode cJ3_checkIndex_8e157 15 = .ok (.athrow, 1) := by decide +kernel
theorem dJ3_checkIndex_8e157_16 : decode cJ3_checkIndex_8e157 16 = .ok (.iload_n 0, 1) := by decide +kernel
theorem dJ3_checkIndex_8e157_17 : decode cJ3_checkIndex_8e157 17 = .ok (.ireturn, 1) := by decide +kernel
theorem dL_led_0 : decode cL_led 0 = .ok (.aload_n 2, 1) := by decide +kernel
theorem dL_led_1 : decode cL_led 1 = .ok (.iconst 0, 1) := by decide +kernel
theorem dL_led_2 : decode cL_led 2 = .ok (.aload_n 0, 1) := by decide +kernel
theorem dL_led_3 : decode cL_led 3 = .ok (.iload_n 1, 1) := by decide +kernel
theorem dL_led_4 : decode cL_led 4 = .ok (.invokevirtual 7, 3) := by decide +kernel
theorem dL_led_7 : decode cL_led 7 = .ok (.i2l, 1) := by decide +kernel
theorem dL_led_8 : decode cL_led 8 = .ok (.lastore, 1) := by decide +kernel
theorem dL_led_9 : decode cL_led 9 = .ok (.goto 6, 3) := by decide +kernel
theorem dL_led_12 : decode cL_led 12 = .ok (.astore_n 3, 1) := by decide +kernel
theorem dL_led_13 : decode cL_led 13 = .ok (.iconst 1, 1) := by decide +kernel
theorem dL_led_14 : decode cL_led 14 = .ok (.ireturn, 1) := by decide +kernel
theorem dL_led_15 : decode cL_led 15 = .ok (.iconst 0, 1) := by decide +kernel
theorem dL_led_16 : decode cL_led 16 = .ok (.ireturn, 1) := by decide +kernel
theorem dL_law_0 : decode cL_law 0 = .ok (.new 8, 3) := by decide +kernel
theorem dL_law_3 : decode cL_law 3 = .ok (.dup, 1) := by decide +kernel
theorem dL_law_4 : decode cL_law 4 = .ok (.invokespecial 15, 3) := by decide +kernel
theorem dL_law_7 : decode cL_law 7 = .ok (.astore_n 1, 1) := by decide +kernel
theorem dL_law_8 : decode cL_law 8 = .ok (.new 16, 3) := by decide +kernel
theorem dL_law_11 : decode cL_law 11 = .ok (.dup, 1) := by decide +kernel
theorem dL_law_12 : decode cL_law 12 = .ok (.invokespecial 18, 3) := by decide +kernel
theorem dL_law_15 : decode cL_law 15 = .ok (.astore_n 2, 1) := by decide +kernel
theorem dL_law_16 : decode cL_law 16 = .ok (.iconst 1, 1) := by decide +kernel
theorem dL_law_17 : decode cL_law 17 = .ok (.newarray .long, 2) := by decide +kernel
theorem dL_law_19 : decode cL_law 19 = .ok (.astore_n 3, 1) := by decide +kernel
theorem dL_law_20 : decode cL_law 20 = .ok (.iconst 0, 1) := by decide +kernel
theorem dL_law_21 : decode cL_law 21 = .ok (.istore 4, 2) := by decide +kernel
theorem dL_law_23 : decode cL_law 23 = .ok (.iload 4, 2) := by decide +kernel
theorem dL_law_25 : decode cL_law 25 = .ok (.aload_n 0, 1) := by decide +kernel
theorem dL_law_26 : decode cL_law 26 = .ok (.arraylength, 1) := by decide +kernel
theorem dL_law_27 : decode cL_law 27 = .ok (.bipush 6, 2) := by decide +kernel
theorem dL_law_29 : decode cL_law 29 = .ok (.isub, 1) := by decide +kernel
theorem dL_law_30 : decode cL_law 30 = .ok (.if_icmp .gt 1415, 3) := by decide +kernel
theorem dL_law_33 : decode cL_law 33 = .ok (.aload_n 0, 1) := by decide +kernel
theorem dL_law_34 : decode cL_law 34 = .ok (.iload 4, 2) := by decide +kernel
theorem dL_law_36 : decode cL_law 36 = .ok (.iaload, 1) := by decide +kernel
theorem dL_law_37 : decode cL_law 37 = .ok (.bipush 63, 2) := by decide +kernel
theorem dL_law_39 : decode cL_law 39 = .ok (.iand, 1) := by decide +kernel
theorem dL_law_40 : decode cL_law 40 = .ok (.tableswitch 1399 0 47 #[208, 281, 306, 319, 332, 369, 406, 419, 432, 445, 482, 495, 532, 569, 594, 619, 644, 681, 706, 731, 756, 769, 782, 831, 872, 913, 926, 939, 952, 965, 1002, 1015, 1052, 1065, 1078, 1103, 1116, 1129, 1166, 1203, 1216, 1229, 1254, 1267, 1280, 1305, 1361, 1386], 208) := by decide +kernel
theorem dL_law_248 : decode cL_law 248 = .ok (.aload_n 1, 1) := by decide +kernel
theorem dL_law_249 : decode cL_law 249 = .ok (.aload_n 0, 1) := by decide +kernel
theorem dL_law_250 : decode cL_law 250 = .ok (.iload 4, 2) := by decide +kernel
theorem dL_law_252 : decode cL_law 252 = .ok (.iconst 1, 1) := by decide +kernel
theorem dL_law_253 : decode cL_law 253 = .ok (.iadd, 1) := by decide +kernel
theorem dL_law_254 : decode cL_law 254 = .ok (.iaload, 1) := by decide +kernel
theorem dL_law_255 : decode cL_law 255 = .ok (.aload_n 0, 1) := by decide +kernel
theorem dL_law_256 : decode cL_law 256 = .ok (.iload 4, 2) := by decide +kernel
theorem dL_law_258 : decode cL_law 258 = .ok (.iconst 2, 1) := by decide +kernel
theorem dL_law_259 : decode cL_law 259 = .ok (.iadd, 1) := by decide +kernel
theorem dL_law_260 : decode cL_law 260 = .ok (.iaload, 1) := by decide +kernel
theorem dL_law_261 : decode cL_law 261 = .ok (.aload_n 0, 1) := by decide +kernel
theorem dL_law_262 : decode cL_law 262 = .ok (.iload 4, 2) := by decide +kernel
theorem dL_law_264 : decode cL_law 264 = .ok (.iconst 3, 1) := by decide +kernel
theorem dL_law_265 : decode cL_law 265 = .ok (.iadd, 1) := by decide +kernel
theorem dL_law_266 : decode cL_law 266 = .ok (.iaload, 1) := by decide +kernel
theorem dL_law_267 : decode cL_law 267 = .ok (.aload_n 0, 1) := by decide +kernel
theorem dL_law_268 : decode cL_law 268 = .ok (.iload 4, 2) := by decide +kernel
theorem dL_law_270 : decode cL_law 270 = .ok (.iconst 4, 1) := by decide +kernel
theorem dL_law_271 : decode cL_law 271 = .ok (.iadd, 1) := by decide +kernel
theorem dL_law_272 : decode cL_law 272 = .ok (.iaload, 1) := by decide +kernel
theorem dL_law_273 : decode cL_law 273 = .ok (.aload_n 0, 1) := by decide +kernel
theorem dL_law_274 : decode cL_law 274 = .ok (.iload 4, 2) := by decide +kernel
theorem dL_law_276 : decode cL_law 276 = .ok (.iconst 5, 1) := by decide +kernel
theorem dL_law_277 : decode cL_law 277 = .ok (.iadd, 1) := by decide +kernel
theorem dL_law_278 : decode cL_law 278 = .ok (.iaload, 1) := by decide +kernel
theorem dL_law_279 : decode cL_law 279 = .ok (.invokevirtual 19, 3) := by decide +kernel
theorem dL_law_282 : decode cL_law 282 = .ok (.aload_n 2, 1) := by decide +kernel
theorem dL_law_283 : decode cL_law 283 = .ok (.aload_n 0, 1) := by decide +kernel
theorem dL_law_284 : decode cL_law 284 = .ok (.iload 4, 2) := by decide +kernel
theorem dL_law_286 : decode cL_law 286 = .ok (.iconst 1, 1) := by decide +kernel
theorem dL_law_287 : decode cL_law 287 = .ok (.iadd, 1) := by decide +kernel
theorem dL_law_288 : decode cL_law 288 = .ok (.iaload, 1) := by decide +kernel
theorem dL_law_289 : decode cL_law 289 = .ok (.aload_n 0, 1) := by decide +kernel
theorem dL_law_290 : decode cL_law 290 = .ok (.iload 4, 2) := by decide +kernel
theorem dL_law_292 : decode cL_law 292 = .ok (.iconst 2, 1) := by decide +kernel
theorem dL_law_293 : decode cL_law 293 = .ok (.iadd, 1) := by decide +kernel
theorem dL_law_294 : decode cL_law 294 = .ok (.iaload, 1) := by decide +kernel
theorem dL_law_295 : decode cL_law 295 = .ok (.aload_n 0, 1) := by decide +kernel
theorem dL_law_296 : decode cL_law 296 = .ok (.iload 4, 2) := by decide +kernel
theorem dL_law_298 : decode cL_law 298 = .ok (.iconst 3, 1) := by decide +kernel
theorem dL_law_299 : decode cL_law 299 = .ok (.iadd, 1) := by decide +kernel
theorem dL_law_300 : decode cL_law 300 = .ok (.iaload, 1) := by decide +kernel
theorem dL_law_301 : decode cL_law 301 = .ok (.aload_n 0, 1) := by decide +kernel
theorem dL_law_302 : decode cL_law 302 = .ok (.iload 4, 2) := by decide +kernel
theorem dL_law_304 : decode cL_law 304 = .ok (.iconst 4, 1) := by decide +kernel
theorem dL_law_305 : decode cL_law 305 = .ok (.iadd, 1) := by decide +kernel
theorem dL_law_306 : decode cL_law 306 = .ok (.iaload, 1) := by decide +kernel
theorem dL_law_307 : decode cL_law 307 = .ok (.aload_n 0, 1) := by decide +kernel
theorem dL_law_308 : decode cL_law 308 = .ok (.iload 4, 2) := by decide +kernel
theorem dL_law_310 : decode cL_law 310 = .ok (.iconst 5, 1) := by decide +kernel
theorem dL_law_311 : decode cL_law 311 = .ok (.iadd, 1) := by decide +kernel
theorem dL_law_312 : decode cL_law 312 = .ok (.iaload, 1) := by decide +kernel
theorem dL_law_313 : decode cL_law 313 = .ok (.invokevirtual 23, 3) := by decide +kernel
theorem dL_law_316 : decode cL_law 316 = .ok (.if_icmp .eq 1123, 3) := by decide +kernel
theorem dL_law_319 : decode cL_law 319 = .ok (.iconst 0, 1) := by decide +kernel
theorem dL_law_320 : decode cL_law 320 = .ok (.ireturn, 1) := by decide +kernel
theorem dL_law_321 : decode cL_law 321 = .ok (.aload_n 1, 1) := by decide +kernel
theorem dL_law_322 : decode cL_law 322 = .ok (.aload_n 0, 1) := by decide +kernel
theorem dL_law_323 : decode cL_law 323 = .ok (.iload 4, 2) := by decide +kernel
theorem dL_law_325 : decode cL_law 325 = .ok (.iconst 1, 1) := by decide +kernel
theorem dL_law_326 : decode cL_law 326 = .ok (.iadd, 1) := by decide +kernel
theorem dL_law_327 : decode cL_law 327 = .ok (.iaload, 1) := by decide +kernel
theorem dL_law_328 : decode cL_law 328 = .ok (.invokevirtual 24, 3) := by decide +kernel
theorem dL_law_331 : decode cL_law 331 = .ok (.aload_n 2, 1) := by decide +kernel
theorem dL_law_332 : decode cL_law 332 = .ok (.aload_n 0, 1) := by decide +kernel
theorem dL_law_333 : decode cL_law 333 = .ok (.iload 4, 2) := by decide +kernel
theorem dL_law_335 : decode cL_law 335 = .ok (.iconst 1, 1) := by decide +kernel
theorem dL_law_336 : decode cL_law 336 = .ok (.iadd, 1) := by decide +kernel
theorem dL_law_337 : decode cL_law 337 = .ok (.iaload, 1) := by decide +kernel
theorem dL_law_338 : decode cL_law 338 = .ok (.invokevirtual 27, 3) := by decide +kernel
theorem dL_law_341 : decode cL_law 341 = .ok (.if_icmp .eq 1098, 3) := by decide +kernel
theorem dL_law_344 : decode cL_law 344 = .ok (.iconst 0, 1) := by decide +kernel
theorem dL_law_345 : decode cL_law 345 = .ok (.ireturn, 1) := by decide +kernel
theorem dL_law_346 : decode cL_law 346 = .ok (.aload_n 1, 1) := by decide +kernel
theorem dL_law_347 : decode cL_law 347 = .ok (.invokevirtual 28, 3) := by decide +kernel
theorem dL_law_350 : decode cL_law 350 = .ok (.aload_n 2, 1) := by decide +kernel
theorem dL_law_351 : decode cL_law 351 = .ok (.invokevirtual 32, 3) := by decide +kernel
theorem dL_law_354 : decode cL_law 354 = .ok (.if_icmp .eq 1085, 3) := by decide +kernel
theorem dL_law_357 : decode cL_law 357 = .ok (.iconst 0, 1) := by decide +kernel
theorem dL_law_358 : decode cL_law 358 = .ok (.ireturn, 1) := by decide +kernel
theorem dL_law_359 : decode cL_law 359 = .ok (.aload_n 1, 1) := by decide +kernel
theorem dL_law_360 : decode cL_law 360 = .ok (.invokevirtual 33, 3) := by decide +kernel
theorem dL_law_363 : decode cL_law 363 = .ok (.aload_n 2, 1) := by decide +kernel
theorem dL_law_364 : decode cL_law 364 = .ok (.invokevirtual 36, 3) := by decide +kernel
theorem dL_law_367 : decode cL_law 367 = .ok (.if_icmp .eq 1072, 3) := by decide +kernel
theorem dL_law_370 : decode cL_law 370 = .ok (.iconst 0, 1) := by decide +kernel
theorem dL_law_371 : decode cL_law 371 = .ok (.ireturn, 1) := by decide +kernel
theorem dL_law_372 : decode cL_law 372 = .ok (.aload_n 1, 1) := by decide +kernel
theorem dL_law_373 : decode cL_law 373 = .ok (.aload_n 0, 1) := by decide +kernel
theorem dL_law_374 : decode cL_law 374 = .ok (.iload 4, 2) := by decide +kernel
theorem dL_law_376 : decode cL_law 376 = .ok (.iconst 1, 1) := by decide +kernel
theorem dL_law_377 : decode cL_law 377 = .ok (.iadd, 1) := by decide +kernel
theorem dL_law_378 : decode cL_law 378 = .ok (.iaload, 1) := by decide +kernel
theorem dL_law_379 : decode cL_law 379 = .ok (.aload_n 0, 1) := by decide +kernel
theorem dL_law_380 : decode cL_law 380 = .ok (.iload 4, 2) := by decide +kernel
theorem dL_law_382 : decode cL_law 382 = .ok (.iconst 2, 1) := by decide +kernel
theorem dL_law_383 : decode cL_law 383 = .ok (.iadd, 1) := by decide +kernel
theorem dL_law_384 : decode cL_law 384 = .ok (.iaload, 1) := by decide +kernel
theorem dL_law_385 : decode cL_law 385 = .ok (.invokevirtual 37, 3) := by decide +kernel
theorem dL_law_388 : decode cL_law 388 = .ok (.aload_n 2, 1) := by decide +kernel
theorem dL_law_389 : decode cL_law 389 = .ok (.aload_n 0, 1) := by decide +kernel
theorem dL_law_390 : decode cL_law 390 = .ok (.iload 4, 2) := by decide +kernel
theorem dL_law_392 : decode cL_law 392 = .ok (.iconst 1, 1) := by decide +kernel
theorem dL_law_393 : decode cL_law 393 = .ok (.iadd, 1) := by decide +kernel
theorem dL_law_394 : decode cL_law 394 = .ok (.iaload, 1) := by decide +kernel
theorem dL_law_395 : decode cL_law 395 = .ok (.aload_n 0, 1) := by decide +kernel
theorem dL_law_396 : decode cL_law 396 = .ok (.iload 4, 2) := by decide +kernel
theorem dL_law_398 : decode cL_law 398 = .ok (.iconst 2, 1) := by decide +kernel
theorem dL_law_399 : decode cL_law 399 = .ok (.iadd, 1) := by decide +kernel
theorem dL_law_400 : decode cL_law 400 = .ok (.iaload, 1) := by decide +kernel
theorem dL_law_401 : decode cL_law 401 = .ok (.invokevirtual 41, 3) := by decide +kernel
theorem dL_law_404 : decode cL_law 404 = .ok (.if_icmp .eq 1035, 3) := by decide +kernel
theorem dL_law_407 : decode cL_law 407 = .ok (.iconst 0, 1) := by decide +kernel
theorem dL_law_408 : decode cL_law 408 = .ok (.ireturn, 1) := by decide +kernel
theorem dL_law_409 : decode cL_law 409 = .ok (.aload_n 1, 1) := by decide +kernel
theorem dL_law_410 : decode cL_law 410 = .ok (.aload_n 0, 1) := by decide +kernel
theorem dL_law_411 : decode cL_law 411 = .ok (.iload 4, 2) := by decide +kernel
theorem dL_law_413 : decode cL_law 413 = .ok (.iconst 1, 1) := by decide +kernel
theorem dL_law_414 : decode cL_law 414 = .ok (.iadd, 1) := by decide +kernel
theorem dL_law_415 : decode cL_law 415 = .ok (.iaload, 1) := by decide +kernel
theorem dL_law_416 : decode cL_law 416 = .ok (.aload_n 0, 1) := by decide +kernel
theorem dL_law_417 : decode cL_law 417 = .ok (.iload 4, 2) := by decide +kernel
theorem dL_law_419 : decode cL_law 419 = .ok (.iconst 2, 1) := by decide +kernel
theorem dL_law_420 : decode cL_law 420 = .ok (.iadd, 1) := by decide +kernel
theorem dL_law_421 : decode cL_law 421 = .ok (.iaload, 1) := by decide +kernel
theorem dL_law_422 : decode cL_law 422 = .ok (.invokevirtual 42, 3) := by decide +kernel
theorem dL_law_425 : decode cL_law 425 = .ok (.aload_n 2, 1) := by decide +kernel
theorem dL_law_426 : decode cL_law 426 = .ok (.aload_n 0, 1) := by decide +kernel
theorem dL_law_427 : decode cL_law 427 = .ok (.iload 4, 2) := by decide +kernel
theorem dL_law_429 : decode cL_law 429 = .ok (.iconst 1, 1) := by decide +kernel
theorem dL_law_430 : decode cL_law 430 = .ok (.iadd, 1) := by decide +kernel
theorem dL_law_431 : decode cL_law 431 = .ok (.iaload, 1) := by decide +kernel
theorem dL_law_432 : decode cL_law 432 = .ok (.aload_n 0, 1) := by decide +kernel
theorem dL_law_433 : decode cL_law 433 = .ok (.iload 4, 2) := by decide +kernel
theorem dL_law_435 : decode cL_law 435 = .ok (.iconst 2, 1) := by decide +kernel
theorem dL_law_436 : decode cL_law 436 = .ok (.iadd, 1) := by decide +kernel
theorem dL_law_437 : decode cL_law 437 = .ok (.iaload, 1) := by decide +kernel
theorem dL_law_438 : decode cL_law 438 = .ok (.invokevirtual 45, 3) := by decide +kernel
theorem dL_law_441 : decode cL_law 441 = .ok (.if_icmp .eq 998, 3) := by decide +kernel
theorem dL_law_444 : decode cL_law 444 = .ok (.iconst 0, 1) := by decide +kernel
theorem dL_law_445 : decode cL_law 445 = .ok (.ireturn, 1) := by decide +kernel
theorem dL_law_446 : decode cL_law 446 = .ok (.aload_n 1, 1) := by decide +kernel
theorem dL_law_447 : decode cL_law 447 = .ok (.invokevirtual 46, 3) := by decide +kernel
theorem dL_law_450 : decode cL_law 450 = .ok (.aload_n 2, 1) := by decide +kernel
theorem dL_law_451 : decode cL_law 451 = .ok (.invokevirtual 49, 3) := by decide +kernel
theorem dL_law_454 : decode cL_law 454 = .ok (.if_icmp .eq 985, 3) := by decide +kernel
theorem dL_law_457 : decode cL_law 457 = .ok (.iconst 0, 1) := by decide +kernel
theorem dL_law_458 : decode cL_law 458 = .ok (.ireturn, 1) := by decide +kernel
theorem dL_law_459 : decode cL_law 459 = .ok (.aload_n 1, 1) := by decide +kernel
theorem dL_law_460 : decode cL_law 460 = .ok (.invokevirtual 50, 3) := by decide +kernel
theorem dL_law_463 : decode cL_law 463 = .ok (.aload_n 2, 1) := by decide +kernel
theorem dL_law_464 : decode cL_law 464 = .ok (.invokevirtual 53, 3) := by decide +kernel
theorem dL_law_467 : decode cL_law 467 = .ok (.if_icmp .eq 972, 3) := by decide +kernel
theorem dL_law_470 : decode cL_law 470 = .ok (.iconst 0, 1) := by decide +kernel
theorem dL_law_471 : decode cL_law 471 = .ok (.ireturn, 1) := by decide +kernel
theorem dL_law_472 : decode cL_law 472 = .ok (.aload_n 1, 1) := by decide +kernel
theorem dL_law_473 : decode cL_law 473 = .ok (.invokevirtual 54, 3) := by decide +kernel
theorem dL_law_476 : decode cL_law 476 = .ok (.aload_n 2, 1) := by decide +kernel
theorem dL_law_477 : decode cL_law 477 = .ok (.invokevirtual 57, 3) := by decide +kernel
theorem dL_law_480 : decode cL_law 480 = .ok (.if_icmp .eq 959, 3) := by decide +kernel
theorem dL_law_483 : decode cL_law 483 = .ok (.iconst 0, 1) := by decide +kernel
theorem dL_law_484 : decode cL_law 484 = .ok (.ireturn, 1) := by decide +kernel
theorem dL_law_485 : decode cL_law 485 = .ok (.aload_n 1, 1) := by decide +kernel
theorem dL_law_486 : decode cL_law 486 = .ok (.aload_n 0, 1) := by decide +kernel
theorem dL_law_487 : decode cL_law 487 = .ok (.iload 4, 2) := by decide +kernel
theorem dL_law_489 : decode cL_law 489 = .ok (.iconst 1, 1) := by decide +kernel
theorem dL_law_490 : decode cL_law 490 = .ok (.iadd, 1) := by decide +kernel
theorem dL_law_491 : decode cL_law 491 = .ok (.iaload, 1) := by decide +kernel
theorem dL_law_492 : decode cL_law 492 = .ok (.aload_n 0, 1) := by decide +kernel
theorem dL_law_493 : decode cL_law 493 = .ok (.iload 4, 2) := by decide +kernel
theorem dL_law_495 : decode cL_law 495 = .ok (.iconst 2, 1) := by decide +kernel
theorem dL_law_496 : decode cL_law 496 = .ok (.iadd, 1) := by decide +kernel
theorem dL_law_497 : decode cL_law 497 = .ok (.iaload, 1) := by decide +kernel
theorem dL_law_498 : decode cL_law 498 = .ok (.invokevirtual 58, 3) := by decide +kernel
theorem dL_law_501 : decode cL_law 501 = .ok (.aload_n 2, 1) := by decide +kernel
theorem dL_law_502 : decode cL_law 502 = .ok (.aload_n 0, 1) := by decide +kernel
theorem dL_law_503 : decode cL_law 503 = .ok (.iload 4, 2) := by decide +kernel
theorem dL_law_505 : decode cL_law 505 = .ok (.iconst 1, 1) := by decide +kernel
theorem dL_law_506 : decode cL_law 506 = .ok (.iadd, 1) := by decide +kernel
theorem dL_law_507 : decode cL_law 507 = .ok (.iaload, 1) := by decide +kernel
theorem dL_law_508 : decode cL_law 508 = .ok (.aload_n 0, 1) := by decide +kernel
theorem dL_law_509 : decode cL_law 509 = .ok (.iload 4, 2) := by decide +kernel
theorem dL_law_511 : decode cL_law 511 = .ok (.iconst 2, 1) := by decide +kernel
theorem dL_law_512 : decode cL_law 512 = .ok (.iadd, 1) := by decide +kernel
theorem dL_law_513 : decode cL_law 513 = .ok (.iaload, 1) := by decide +kernel
theorem dL_law_514 : decode cL_law 514 = .ok (.invokevirtual 61, 3) := by decide +kernel
theorem dL_law_517 : decode cL_law 517 = .ok (.if_icmp .eq 922, 3) := by decide +kernel
theorem dL_law_520 : decode cL_law 520 = .ok (.iconst 0, 1) := by decide +kernel
theorem dL_law_521 : decode cL_law 521 = .ok (.ireturn, 1) := by decide +kernel
theorem dL_law_522 : decode cL_law 522 = .ok (.aload_n 1, 1) := by decide +kernel
theorem dL_law_523 : decode cL_law 523 = .ok (.invokevirtual 62, 3) := by decide +kernel
theorem dL_law_526 : decode cL_law 526 = .ok (.aload_n 2, 1) := by decide +kernel
theorem dL_law_527 : decode cL_law 527 = .ok (.invokevirtual 65, 3) := by decide +kernel
theorem dL_law_530 : decode cL_law 530 = .ok (.if_icmp .eq 909, 3) := by decide +kernel
theorem dL_law_533 : decode cL_law 533 = .ok (.iconst 0, 1) := by decide +kernel
theorem dL_law_534 : decode cL_law 534 = .ok (.ireturn, 1) := by decide +kernel
theorem dL_law_535 : decode cL_law 535 = .ok (.aload_n 1, 1) := by decide +kernel
theorem dL_law_536 : decode cL_law 536 = .ok (.aload_n 0, 1) := by decide +kernel
theorem dL_law_537 : decode cL_law 537 = .ok (.iload 4, 2) := by decide +kernel
theorem dL_law_539 : decode cL_law 539 = .ok (.iconst 1, 1) := by decide +kernel
theorem dL_law_540 : decode cL_law 540 = .ok (.iadd, 1) := by decide +kernel
theorem dL_law_541 : decode cL_law 541 = .ok (.iaload, 1) := by decide +kernel
theorem dL_law_542 : decode cL_law 542 = .ok (.aload_n 0, 1) := by decide +kernel
theorem dL_law_543 : decode cL_law 543 = .ok (.iload 4, 2) := by decide +kernel
theorem dL_law_545 : decode cL_law 545 = .ok (.iconst 2, 1) := by decide +kernel
theorem dL_law_546 : decode cL_law 546 = .ok (.iadd, 1) := by decide +kernel
theorem dL_law_547 : decode cL_law 547 = .ok (.iaload, 1) := by decide +kernel
theorem dL_law_548 : decode cL_law 548 = .ok (.invokevirtual 66, 3) := by decide +kernel
theorem dL_law_551 : decode cL_law 551 = .ok (.aload_n 2, 1) := by decide +kernel
theorem dL_law_552 : decode cL_law 552 = .ok (.aload_n 0, 1) := by decide +kernel
theorem dL_law_553 : decode cL_law 553 = .ok (.iload 4, 2) := by decide +kernel
theorem dL_law_555 : decode cL_law 555 = .ok (.iconst 1, 1) := by decide +kernel
theorem dL_law_556 : decode cL_law 556 = .ok (.iadd, 1) := by decide +kernel
theorem dL_law_557 : decode cL_law 557 = .ok (.iaload, 1) := by decide +kernel
theorem dL_law_558 : decode cL_law 558 = .ok (.aload_n 0, 1) := by decide +kernel
theorem dL_law_559 : decode cL_law 559 = .ok (.iload 4, 2) := by decide +kernel
theorem dL_law_561 : decode cL_law 561 = .ok (.iconst 2, 1) := by decide +kernel
theorem dL_law_562 : decode cL_law 562 = .ok (.iadd, 1) := by decide +kernel
theorem dL_law_563 : decode cL_law 563 = .ok (.iaload, 1) := by decide +kernel
theorem dL_law_564 : decode cL_law 564 = .ok (.invokevirtual 69, 3) := by decide +kernel
theorem dL_law_567 : decode cL_law 567 = .ok (.if_icmp .eq 872, 3) := by decide +kernel
theorem dL_law_570 : decode cL_law 570 = .ok (.iconst 0, 1) := by decide +kernel
theorem dL_law_571 : decode cL_law 571 = .ok (.ireturn, 1) := by decide +kernel
theorem dL_law_572 : decode cL_law 572 = .ok (.aload_n 1, 1) := by decide +kernel
theorem dL_law_573 : decode cL_law 573 = .ok (.aload_n 0, 1) := by decide +kernel
theorem dL_law_574 : decode cL_law 574 = .ok (.iload 4, 2) := by decide +kernel
theorem dL_law_576 : decode cL_law 576 = .ok (.iconst 1, 1) := by decide +kernel
theorem dL_law_577 : decode cL_law 577 = .ok (.iadd, 1) := by decide +kernel
theorem dL_law_578 : decode cL_law 578 = .ok (.iaload, 1) := by decide +kernel
theorem dL_law_579 : decode cL_law 579 = .ok (.aload_n 0, 1) := by decide +kernel
theorem dL_law_580 : decode cL_law 580 = .ok (.iload 4, 2) := by decide +kernel
theorem dL_law_582 : decode cL_law 582 = .ok (.iconst 2, 1) := by decide +kernel
theorem dL_law_583 : decode cL_law 583 = .ok (.iadd, 1) := by decide +kernel
theorem dL_law_584 : decode cL_law 584 = .ok (.iaload, 1) := by decide +kernel
theorem dL_law_585 : decode cL_law 585 = .ok (.invokevirtual 70, 3) := by decide +kernel
theorem dL_law_588 : decode cL_law 588 = .ok (.aload_n 2, 1) := by decide +kernel
theorem dL_law_589 : decode cL_law 589 = .ok (.aload_n 0, 1) := by decide +kernel
theorem dL_law_590 : decode cL_law 590 = .ok (.iload 4, 2) := by decide +kernel
theorem dL_law_592 : decode cL_law 592 = .ok (.iconst 1, 1) := by decide +kernel
theorem dL_law_593 : decode cL_law 593 = .ok (.iadd, 1) := by decide +kernel
theorem dL_law_594 : decode cL_law 594 = .ok (.iaload, 1) := by decide +kernel
theorem dL_law_595 : decode cL_law 595 = .ok (.aload_n 0, 1) := by decide +kernel
theorem dL_law_596 : decode cL_law 596 = .ok (.iload 4, 2) := by decide +kernel
theorem dL_law_598 : decode cL_law 598 = .ok (.iconst 2, 1) := by decide +kernel
theorem dL_law_599 : decode cL_law 599 = .ok (.iadd, 1) := by decide +kernel
theorem dL_law_600 : decode cL_law 600 = .ok (.iaload, 1) := by decide +kernel
theorem dL_law_601 : decode cL_law 601 = .ok (.invokevirtual 73, 3) := by decide +kernel
theorem dL_law_604 : decode cL_law 604 = .ok (.if_icmp .eq 835, 3) := by decide +kernel
theorem dL_law_607 : decode cL_law 607 = .ok (.iconst 0, 1) := by decide +kernel
theorem dL_law_608 : decode cL_law 608 = .ok (.ireturn, 1) := by decide +kernel
theorem dL_law_609 : decode cL_law 609 = .ok (.aload_n 1, 1) := by decide +kernel
theorem dL_law_610 : decode cL_law 610 = .ok (.aload_n 0, 1) := by decide +kernel
theorem dL_law_611 : decode cL_law 611 = .ok (.iload 4, 2) := by decide +kernel
theorem dL_law_613 : decode cL_law 613 = .ok (.iconst 1, 1) := by decide +kernel
theorem dL_law_614 : decode cL_law 614 = .ok (.iadd, 1) := by decide +kernel
theorem dL_law_615 : decode cL_law 615 = .ok (.iaload, 1) := by decide +kernel
theorem dL_law_616 : decode cL_law 616 = .ok (.invokevirtual 74, 3) := by decide +kernel
theorem dL_law_619 : decode cL_law 619 = .ok (.aload_n 2, 1) := by decide +kernel
theorem dL_law_620 : decode cL_law 620 = .ok (.aload_n 0, 1) := by decide +kernel
theorem dL_law_621 : decode cL_law 621 = .ok (.iload 4, 2) := by decide +kernel
theorem dL_law_623 : decode cL_law 623 = .ok (.iconst 1, 1) := by decide +kernel
theorem dL_law_624 : decode cL_law 624 = .ok (.iadd, 1) := by decide +kernel
theorem dL_law_625 : decode cL_law 625 = .ok (.iaload, 1) := by decide +kernel
theorem dL_law_626 : decode cL_law 626 = .ok (.invokevirtual 77, 3) := by decide +kernel
theorem dL_law_629 : decode cL_law 629 = .ok (.if_icmp .eq 810, 3) := by decide +kernel
theorem dL_law_632 : decode cL_law 632 = .ok (.iconst 0, 1) := by decide +kernel
theorem dL_law_633 : decode cL_law 633 = .ok (.ireturn, 1) := by decide +kernel
theorem dL_law_634 : decode cL_law 634 = .ok (.aload_n 1, 1) := by decide +kernel
theorem dL_law_635 : decode cL_law 635 = .ok (.aload_n 0, 1) := by decide +kernel
theorem dL_law_636 : decode cL_law 636 = .ok (.iload 4, 2) := by decide +kernel
theorem dL_law_638 : decode cL_law 638 = .ok (.iconst 1, 1) := by decide +kernel
theorem dL_law_639 : decode cL_law 639 = .ok (.iadd, 1) := by decide +kernel
theorem dL_law_640 : decode cL_law 640 = .ok (.iaload, 1) := by decide +kernel
theorem dL_law_641 : decode cL_law 641 = .ok (.invokevirtual 78, 3) := by decide +kernel
theorem dL_law_644 : decode cL_law 644 = .ok (.aload_n 2, 1) := by decide +kernel
theorem dL_law_645 : decode cL_law 645 = .ok (.aload_n 0, 1) := by decide +kernel
theorem dL_law_646 : decode cL_law 646 = .ok (.iload 4, 2) := by decide +kernel
theorem dL_law_648 : decode cL_law 648 = .ok (.iconst 1, 1) := by decide +kernel
theorem dL_law_649 : decode cL_law 649 = .ok (.iadd, 1) := by decide +kernel
theorem dL_law_650 : decode cL_law 650 = .ok (.iaload, 1) := by decide +kernel
theorem dL_law_651 : decode cL_law 651 = .ok (.invokevirtual 81, 3) := by decide +kernel
theorem dL_law_654 : decode cL_law 654 = .ok (.if_icmp .eq 785, 3) := by decide +kernel
theorem dL_law_657 : decode cL_law 657 = .ok (.iconst 0, 1) := by decide +kernel
theorem dL_law_658 : decode cL_law 658 = .ok (.ireturn, 1) := by decide +kernel
theorem dL_law_659 : decode cL_law 659 = .ok (.aload_n 1, 1) := by decide +kernel
theorem dL_law_660 : decode cL_law 660 = .ok (.aload_n 0, 1) := by decide +kernel
theorem dL_law_661 : decode cL_law 661 = .ok (.iload 4, 2) := by decide +kernel
theorem dL_law_663 : decode cL_law 663 = .ok (.iconst 1, 1) := by decide +kernel
theorem dL_law_664 : decode cL_law 664 = .ok (.iadd, 1) := by decide +kernel
theorem dL_law_665 : decode cL_law 665 = .ok (.iaload, 1) := by decide +kernel
theorem dL_law_666 : decode cL_law 666 = .ok (.invokevirtual 82, 3) := by decide +kernel
theorem dL_law_669 : decode cL_law 669 = .ok (.aload_n 2, 1) := by decide +kernel
theorem dL_law_670 : decode cL_law 670 = .ok (.aload_n 0, 1) := by decide +kernel
theorem dL_law_671 : decode cL_law 671 = .ok (.iload 4, 2) := by decide +kernel
theorem dL_law_673 : decode cL_law 673 = .ok (.iconst 1, 1) := by decide +kernel
theorem dL_law_674 : decode cL_law 674 = .ok (.iadd, 1) := by decide +kernel
theorem dL_law_675 : decode cL_law 675 = .ok (.iaload, 1) := by decide +kernel
theorem dL_law_676 : decode cL_law 676 = .ok (.invokevirtual 85, 3) := by decide +kernel
theorem dL_law_679 : decode cL_law 679 = .ok (.if_icmp .eq 760, 3) := by decide +kernel
theorem dL_law_682 : decode cL_law 682 = .ok (.iconst 0, 1) := by decide +kernel
theorem dL_law_683 : decode cL_law 683 = .ok (.ireturn, 1) := by decide +kernel
theorem dL_law_684 : decode cL_law 684 = .ok (.aload_n 1, 1) := by decide +kernel
theorem dL_law_685 : decode cL_law 685 = .ok (.aload_n 0, 1) := by decide +kernel
theorem dL_law_686 : decode cL_law 686 = .ok (.iload 4, 2) := by decide +kernel
theorem dL_law_688 : decode cL_law 688 = .ok (.iconst 1, 1) := by decide +kernel
theorem dL_law_689 : decode cL_law 689 = .ok (.iadd, 1) := by decide +kernel
theorem dL_law_690 : decode cL_law 690 = .ok (.iaload, 1) := by decide +kernel
theorem dL_law_691 : decode cL_law 691 = .ok (.aload_n 0, 1) := by decide +kernel
theorem dL_law_692 : decode cL_law 692 = .ok (.iload 4, 2) := by decide +kernel
theorem dL_law_694 : decode cL_law 694 = .ok (.iconst 2, 1) := by decide +kernel
theorem dL_law_695 : decode cL_law 695 = .ok (.iadd, 1) := by decide +kernel
theorem dL_law_696 : decode cL_law 696 = .ok (.iaload, 1) := by decide +kernel
theorem dL_law_697 : decode cL_law 697 = .ok (.invokevirtual 86, 3) := by decide +kernel
theorem dL_law_700 : decode cL_law 700 = .ok (.aload_n 2, 1) := by decide +kernel
theorem dL_law_701 : decode cL_law 701 = .ok (.aload_n 0, 1) := by decide +kernel
theorem dL_law_702 : decode cL_law 702 = .ok (.iload 4, 2) := by decide +kernel
theorem dL_law_704 : decode cL_law 704 = .ok (.iconst 1, 1) := by decide +kernel
theorem dL_law_705 : decode cL_law 705 = .ok (.iadd, 1) := by decide +kernel
theorem dL_law_706 : decode cL_law 706 = .ok (.iaload, 1) := by decide +kernel
theorem dL_law_707 : decode cL_law 707 = .ok (.aload_n 0, 1) := by decide +kernel
theorem dL_law_708 : decode cL_law 708 = .ok (.iload 4, 2) := by decide +kernel
theorem dL_law_710 : decode cL_law 710 = .ok (.iconst 2, 1) := by decide +kernel
theorem dL_law_711 : decode cL_law 711 = .ok (.iadd, 1) := by decide +kernel
theorem dL_law_712 : decode cL_law 712 = .ok (.iaload, 1) := by decide +kernel
theorem dL_law_713 : decode cL_law 713 = .ok (.invokevirtual 89, 3) := by decide +kernel
theorem dL_law_716 : decode cL_law 716 = .ok (.if_icmp .eq 723, 3) := by decide +kernel
theorem dL_law_719 : decode cL_law 719 = .ok (.iconst 0, 1) := by decide +kernel
theorem dL_law_720 : decode cL_law 720 = .ok (.ireturn, 1) := by decide +kernel
theorem dL_law_721 : decode cL_law 721 = .ok (.aload_n 1, 1) := by decide +kernel
theorem dL_law_722 : decode cL_law 722 = .ok (.aload_n 0, 1) := by decide +kernel
theorem dL_law_723 : decode cL_law 723 = .ok (.iload 4, 2) := by decide +kernel
theorem dL_law_725 : decode cL_law 725 = .ok (.iconst 1, 1) := by decide +kernel
theorem dL_law_726 : decode cL_law 726 = .ok (.iadd, 1) := by decide +kernel
theorem dL_law_727 : decode cL_law 727 = .ok (.iaload, 1) := by decide +kernel
theorem dL_law_728 : decode cL_law 728 = .ok (.invokevirtual 90, 3) := by decide +kernel
theorem dL_law_731 : decode cL_law 731 = .ok (.aload_n 2, 1) := by decide +kernel
theorem dL_law_732 : decode cL_law 732 = .ok (.aload_n 0, 1) := by decide +kernel
theorem dL_law_733 : decode cL_law 733 = .ok (.iload 4, 2) := by decide +kernel
theorem dL_law_735 : decode cL_law 735 = .ok (.iconst 1, 1) := by decide +kernel
theorem dL_law_736 : decode cL_law 736 = .ok (.iadd, 1) := by decide +kernel
theorem dL_law_737 : decode cL_law 737 = .ok (.iaload, 1) := by decide +kernel
theorem dL_law_738 : decode cL_law 738 = .ok (.invokevirtual 93, 3) := by decide +kernel
theorem dL_law_741 : decode cL_law 741 = .ok (.if_icmp .eq 698, 3) := by decide +kernel
theorem dL_law_744 : decode cL_law 744 = .ok (.iconst 0, 1) := by decide +kernel
theorem dL_law_745 : decode cL_law 745 = .ok (.ireturn, 1) := by decide +kernel
theorem dL_law_746 : decode cL_law 746 = .ok (.aload_n 1, 1) := by decide +kernel
theorem dL_law_747 : decode cL_law 747 = .ok (.aload_n 0, 1) := by decide +kernel
theorem dL_law_748 : decode cL_law 748 = .ok (.iload 4, 2) := by decide +kernel
theorem dL_law_750 : decode cL_law 750 = .ok (.iconst 1, 1) := by decide +kernel
theorem dL_law_751 : decode cL_law 751 = .ok (.iadd, 1) := by decide +kernel
theorem dL_law_752 : decode cL_law 752 = .ok (.iaload, 1) := by decide +kernel
theorem dL_law_753 : decode cL_law 753 = .ok (.invokevirtual 94, 3) := by decide +kernel
theorem dL_law_756 : decode cL_law 756 = .ok (.aload_n 2, 1) := by decide +kernel
theorem dL_law_757 : decode cL_law 757 = .ok (.aload_n 0, 1) := by decide +kernel
theorem dL_law_758 : decode cL_law 758 = .ok (.iload 4, 2) := by decide +kernel
theorem dL_law_760 : decode cL_law 760 = .ok (.iconst 1, 1) := by decide +kernel
theorem dL_law_761 : decode cL_law 761 = .ok (.iadd, 1) := by decide +kernel
theorem dL_law_762 : decode cL_law 762 = .ok (.iaload, 1) := by decide +kernel
theorem dL_law_763 : decode cL_law 763 = .ok (.invokevirtual 97, 3) := by decide +kernel
theorem dL_law_766 : decode cL_law 766 = .ok (.if_icmp .eq 673, 3) := by decide +kernel
theorem dL_law_769 : decode cL_law 769 = .ok (.iconst 0, 1) := by decide +kernel
theorem dL_law_770 : decode cL_law 770 = .ok (.ireturn, 1) := by decide +kernel
theorem dL_law_771 : decode cL_law 771 = .ok (.aload_n 1, 1) := by decide +kernel
theorem dL_law_772 : decode cL_law 772 = .ok (.aload_n 0, 1) := by decide +kernel
theorem dL_law_773 : decode cL_law 773 = .ok (.iload 4, 2) := by decide +kernel
theorem dL_law_775 : decode cL_law 775 = .ok (.iconst 1, 1) := by decide +kernel
theorem dL_law_776 : decode cL_law 776 = .ok (.iadd, 1) := by decide +kernel
theorem dL_law_777 : decode cL_law 777 = .ok (.iaload, 1) := by decide +kernel
theorem dL_law_778 : decode cL_law 778 = .ok (.invokevirtual 98, 3) := by decide +kernel
theorem dL_law_781 : decode cL_law 781 = .ok (.aload_n 2, 1) := by decide +kernel
theorem dL_law_782 : decode cL_law 782 = .ok (.aload_n 0, 1) := by decide +kernel
theorem dL_law_783 : decode cL_law 783 = .ok (.iload 4, 2) := by decide +kernel
theorem dL_law_785 : decode cL_law 785 = .ok (.iconst 1, 1) := by decide +kernel
theorem dL_law_786 : decode cL_law 786 = .ok (.iadd, 1) := by decide +kernel
theorem dL_law_787 : decode cL_law 787 = .ok (.iaload, 1) := by decide +kernel
theorem dL_law_788 : decode cL_law 788 = .ok (.invokevirtual 101, 3) := by decide +kernel
theorem dL_law_791 : decode cL_law 791 = .ok (.if_icmp .eq 648, 3) := by decide +kernel
theorem dL_law_794 : decode cL_law 794 = .ok (.iconst 0, 1) := by decide +kernel
theorem dL_law_795 : decode cL_law 795 = .ok (.ireturn, 1) := by decide +kernel
theorem dL_law_796 : decode cL_law 796 = .ok (.aload_n 1, 1) := by decide +kernel
theorem dL_law_797 : decode cL_law 797 = .ok (.invokevirtual 102, 3) := by decide +kernel
theorem dL_law_800 : decode cL_law 800 = .ok (.aload_n 2, 1) := by decide +kernel
theorem dL_law_801 : decode cL_law 801 = .ok (.invokevirtual 105, 3) := by decide +kernel
theorem dL_law_804 : decode cL_law 804 = .ok (.if_icmp .eq 635, 3) := by decide +kernel
theorem dL_law_807 : decode cL_law 807 = .ok (.iconst 0, 1) := by decide +kernel
theorem dL_law_808 : decode cL_law 808 = .ok (.ireturn, 1) := by decide +kernel
theorem dL_law_809 : decode cL_law 809 = .ok (.aload_n 1, 1) := by decide +kernel
theorem dL_law_810 : decode cL_law 810 = .ok (.invokevirtual 106, 3) := by decide +kernel
theorem dL_law_813 : decode cL_law 813 = .ok (.aload_n 2, 1) := by decide +kernel
theorem dL_law_814 : decode cL_law 814 = .ok (.invokevirtual 109, 3) := by decide +kernel
theorem dL_law_817 : decode cL_law 817 = .ok (.if_icmp .eq 622, 3) := by decide +kernel
theorem dL_law_820 : decode cL_law 820 = .ok (.iconst 0, 1) := by decide +kernel
theorem dL_law_821 : decode cL_law 821 = .ok (.ireturn, 1) := by decide +kernel
theorem dL_law_822 : decode cL_law 822 = .ok (.aload_n 1, 1) := by decide +kernel
theorem dL_law_823 : decode cL_law 823 = .ok (.aload_n 0, 1) := by decide +kernel
theorem dL_law_824 : decode cL_law 824 = .ok (.iload 4, 2) := by decide +kernel
theorem dL_law_826 : decode cL_law 826 = .ok (.iconst 1, 1) := by decide +kernel
theorem dL_law_827 : decode cL_law 827 = .ok (.iadd, 1) := by decide +kernel
theorem dL_law_828 : decode cL_law 828 = .ok (.iaload, 1) := by decide +kernel
theorem dL_law_829 : decode cL_law 829 = .ok (.aload_n 0, 1) := by decide +kernel
theorem dL_law_830 : decode cL_law 830 = .ok (.iload 4, 2) := by decide +kernel
theorem dL_law_832 : decode cL_law 832 = .ok (.iconst 2, 1) := by decide +kernel
theorem dL_law_833 : decode cL_law 833 = .ok (.iadd, 1) := by decide +kernel
theorem dL_law_834 : decode cL_law 834 = .ok (.iaload, 1) := by decide +kernel
theorem dL_law_835 : decode cL_law 835 = .ok (.aload_n 0, 1) := by decide +kernel
theorem dL_law_836 : decode cL_law 836 = .ok (.iload 4, 2) := by decide +kernel
theorem dL_law_838 : decode cL_law 838 = .ok (.iconst 3, 1) := by decide +kernel
theorem dL_law_839 : decode cL_law 839 = .ok (.iadd, 1) := by decide +kernel
theorem dL_law_840 : decode cL_law 840 = .ok (.iaload, 1) := by decide +kernel
theorem dL_law_841 : decode cL_law 841 = .ok (.invokevirtual 110, 3) := by decide +kernel
theorem dL_law_844 : decode cL_law 844 = .ok (.aload_n 2, 1) := by decide +kernel
theorem dL_law_845 : decode cL_law 845 = .ok (.aload_n 0, 1) := by decide +kernel
theorem dL_law_846 : decode cL_law 846 = .ok (.iload 4, 2) := by decide +kernel
theorem dL_law_848 : decode cL_law 848 = .ok (.iconst 1, 1) := by decide +kernel
theorem dL_law_849 : decode cL_law 849 = .ok (.iadd, 1) := by decide +kernel
theorem dL_law_850 : decode cL_law 850 = .ok (.iaload, 1) := by decide +kernel
theorem dL_law_851 : decode cL_law 851 = .ok (.aload_n 0, 1) := by decide +kernel
theorem dL_law_852 : decode cL_law 852 = .ok (.iload 4, 2) := by decide +kernel
theorem dL_law_854 : decode cL_law 854 = .ok (.iconst 2, 1) := by decide +kernel
theorem dL_law_855 : decode cL_law 855 = .ok (.iadd, 1) := by decide +kernel
theorem dL_law_856 : decode cL_law 856 = .ok (.iaload, 1) := by decide +kernel
theorem dL_law_857 : decode cL_law 857 = .ok (.aload_n 0, 1) := by decide +kernel
theorem dL_law_858 : decode cL_law 858 = .ok (.iload 4, 2) := by decide +kernel
theorem dL_law_860 : decode cL_law 860 = .ok (.iconst 3, 1) := by decide +kernel
theorem dL_law_861 : decode cL_law 861 = .ok (.iadd, 1) := by decide +kernel
theorem dL_law_862 : decode cL_law 862 = .ok (.iaload, 1) := by decide +kernel
theorem dL_law_863 : decode cL_law 863 = .ok (.invokevirtual 114, 3) := by decide +kernel
theorem dL_law_866 : decode cL_law 866 = .ok (.if_icmp .eq 573, 3) := by decide +kernel
theorem dL_law_869 : decode cL_law 869 = .ok (.iconst 0, 1) := by decide +kernel
theorem dL_law_870 : decode cL_law 870 = .ok (.ireturn, 1) := by decide +kernel
theorem dL_law_871 : decode cL_law 871 = .ok (.aload_n 1, 1) := by decide +kernel
theorem dL_law_872 : decode cL_law 872 = .ok (.aload_n 0, 1) := by decide +kernel
theorem dL_law_873 : decode cL_law 873 = .ok (.iload 4, 2) := by decide +kernel
theorem dL_law_875 : decode cL_law 875 = .ok (.iconst 1, 1) := by decide +kernel
theorem dL_law_876 : decode cL_law 876 = .ok (.iadd, 1) := by decide +kernel
theorem dL_law_877 : decode cL_law 877 = .ok (.iaload, 1) := by decide +kernel
theorem dL_law_878 : decode cL_law 878 = .ok (.ifCond .eq 7, 3) := by decide +kernel
theorem dL_law_881 : decode cL_law 881 = .ok (.iconst 1, 1) := by decide +kernel
theorem dL_law_882 : decode cL_law 882 = .ok (.goto 4, 3) := by decide +kernel
theorem dL_law_885 : decode cL_law 885 = .ok (.iconst 0, 1) := by decide +kernel
theorem dL_law_886 : decode cL_law 886 = .ok (.invokevirtual 115, 3) := by decide +kernel
theorem dL_law_889 : decode cL_law 889 = .ok (.aload_n 2, 1) := by decide +kernel
theorem dL_law_890 : decode cL_law 890 = .ok (.aload_n 0, 1) := by decide +kernel
theorem dL_law_891 : decode cL_law 891 = .ok (.iload 4, 2) := by decide +kernel
theorem dL_law_893 : decode cL_law 893 = .ok (.iconst 1, 1) := by decide +kernel
theorem dL_law_894 : decode cL_law 894 = .ok (.iadd, 1) := by decide +kernel
theorem dL_law_895 : decode cL_law 895 = .ok (.iaload, 1) := by decide +kernel
theorem dL_law_896 : decode cL_law 896 = .ok (.ifCond .eq 7, 3) := by decide +kernel
theorem dL_law_899 : decode cL_law 899 = .ok (.iconst 1, 1) := by decide +kernel
theorem dL_law_900 : decode cL_law 900 = .ok (.goto 4, 3) := by decide +kernel
theorem dL_law_903 : decode cL_law 903 = .ok (.iconst 0, 1) := by decide +kernel
theorem dL_law_904 : decode cL_law 904 = .ok (.invokevirtual 119, 3) := by decide +kernel
theorem dL_law_907 : decode cL_law 907 = .ok (.if_icmp .eq 532, 3) := by decide +kernel
theorem dL_law_910 : decode cL_law 910 = .ok (.iconst 0, 1) := by decide +kernel
theorem dL_law_911 : decode cL_law 911 = .ok (.ireturn, 1) := by decide +kernel
theorem dL_law_912 : decode cL_law 912 = .ok (.aload_n 1, 1) := by decide +kernel
theorem dL_law_913 : decode cL_law 913 = .ok (.aload_n 0, 1) := by decide +kernel
theorem dL_law_914 : decode cL_law 914 = .ok (.iload 4, 2) := by decide +kernel
theorem dL_law_916 : decode cL_law 916 = .ok (.iconst 1, 1) := by decide +kernel
theorem dL_law_917 : decode cL_law 917 = .ok (.iadd, 1) := by decide +kernel
theorem dL_law_918 : decode cL_law 918 = .ok (.iaload, 1) := by decide +kernel
theorem dL_law_919 : decode cL_law 919 = .ok (.ifCond .eq 7, 3) := by decide +kernel
theorem dL_law_922 : decode cL_law 922 = .ok (.iconst 1, 1) := by decide +kernel
theorem dL_law_923 : decode cL_law 923 = .ok (.goto 4, 3) := by decide +kernel
theorem dL_law_926 : decode cL_law 926 = .ok (.iconst 0, 1) := by decide +kernel
theorem dL_law_927 : decode cL_law 927 = .ok (.invokevirtual 120, 3) := by decide +kernel
theorem dL_law_930 : decode cL_law 930 = .ok (.aload_n 2, 1) := by decide +kernel
theorem dL_law_931 : decode cL_law 931 = .ok (.aload_n 0, 1) := by decide +kernel
theorem dL_law_932 : decode cL_law 932 = .ok (.iload 4, 2) := by decide +kernel
theorem dL_law_934 : decode cL_law 934 = .ok (.iconst 1, 1) := by decide +kernel
theorem dL_law_935 : decode cL_law 935 = .ok (.iadd, 1) := by decide +kernel
theorem dL_law_936 : decode cL_law 936 = .ok (.iaload, 1) := by decide +kernel
theorem dL_law_937 : decode cL_law 937 = .ok (.ifCond .eq 7, 3) := by decide +kernel
theorem dL_law_940 : decode cL_law 940 = .ok (.iconst 1, 1) := by decide +kernel
theorem dL_law_941 : decode cL_law 941 = .ok (.goto 4, 3) := by decide +kernel
theorem dL_law_944 : decode cL_law 944 = .ok (.iconst 0, 1) := by decide +kernel
theorem dL_law_945 : decode cL_law 945 = .ok (.invokevirtual 123, 3) := by decide +kernel
theorem dL_law_948 : decode cL_law 948 = .ok (.if_icmp .eq 491, 3) := by decide +kernel
theorem dL_law_951 : decode cL_law 951 = .ok (.iconst 0, 1) := by decide +kernel
theorem dL_law_952 : decode cL_law 952 = .ok (.ireturn, 1) := by decide +kernel
theorem dL_law_953 : decode cL_law 953 = .ok (.aload_n 1, 1) := by decide +kernel
theorem dL_law_954 : decode cL_law 954 = .ok (.invokevirtual 124, 3) := by decide +kernel
theorem dL_law_957 : decode cL_law 957 = .ok (.aload_n 2, 1) := by decide +kernel
theorem dL_law_958 : decode cL_law 958 = .ok (.invokevirtual 127, 3) := by decide +kernel
theorem dL_law_961 : decode cL_law 961 = .ok (.if_icmp .eq 478, 3) := by decide +kernel
theorem dL_law_964 : decode cL_law 964 = .ok (.iconst 0, 1) := by decide +kernel
theorem dL_law_965 : decode cL_law 965 = .ok (.ireturn, 1) := by decide +kernel
theorem dL_law_966 : decode cL_law 966 = .ok (.aload_n 1, 1) := by decide +kernel
theorem dL_law_967 : decode cL_law 967 = .ok (.invokevirtual 128, 3) := by decide +kernel
theorem dL_law_970 : decode cL_law 970 = .ok (.aload_n 2, 1) := by decide +kernel
theorem dL_law_971 : decode cL_law 971 = .ok (.invokevirtual 131, 3) := by decide +kernel
theorem dL_law_974 : decode cL_law 974 = .ok (.if_icmp .eq 465, 3) := by decide +kernel
theorem dL_law_977 : decode cL_law 977 = .ok (.iconst 0, 1) := by decide +kernel
theorem dL_law_978 : decode cL_law 978 = .ok (.ireturn, 1) := by decide +kernel
theorem dL_law_979 : decode cL_law 979 = .ok (.aload_n 1, 1) := by decide +kernel
theorem dL_law_980 : decode cL_law 980 = .ok (.invokevirtual 132, 3) := by decide +kernel
theorem dL_law_983 : decode cL_law 983 = .ok (.aload_n 2, 1) := by decide +kernel
theorem dL_law_984 : decode cL_law 984 = .ok (.invokevirtual 135, 3) := by decide +kernel
theorem dL_law_987 : decode cL_law 987 = .ok (.if_icmp .eq 452, 3) := by decide +kernel
theorem dL_law_990 : decode cL_law 990 = .ok (.iconst 0, 1) := by decide +kernel
theorem dL_law_991 : decode cL_law 991 = .ok (.ireturn, 1) := by decide +kernel
theorem dL_law_992 : decode cL_law 992 = .ok (.aload_n 1, 1) := by decide +kernel
theorem dL_law_993 : decode cL_law 993 = .ok (.invokevirtual 136, 3) := by decide +kernel
theorem dL_law_996 : decode cL_law 996 = .ok (.aload_n 2, 1) := by decide +kernel
theorem dL_law_997 : decode cL_law 997 = .ok (.invokevirtual 139, 3) := by decide +kernel
theorem dL_law_1000 : decode cL_law 1000 = .ok (.if_icmp .eq 439, 3) := by decide +kernel
theorem dL_law_1003 : decode cL_law 1003 = .ok (.iconst 0, 1) := by decide +kernel
theorem dL_law_1004 : decode cL_law 1004 = .ok (.ireturn, 1) := by decide +kernel
theorem dL_law_1005 : decode cL_law 1005 = .ok (.aload_n 1, 1) := by decide +kernel
theorem dL_law_1006 : decode cL_law 1006 = .ok (.aload_n 0, 1) := by decide +kernel
theorem dL_law_1007 : decode cL_law 1007 = .ok (.iload 4, 2) := by decide +kernel
theorem dL_law_1009 : decode cL_law 1009 = .ok (.iconst 1, 1) := by decide +kernel
theorem dL_law_1010 : decode cL_law 1010 = .ok (.iadd, 1) := by decide +kernel
theorem dL_law_1011 : decode cL_law 1011 = .ok (.iaload, 1) := by decide +kernel
theorem dL_law_1012 : decode cL_law 1012 = .ok (.aload_n 0, 1) := by decide +kernel
theorem dL_law_1013 : decode cL_law 1013 = .ok (.iload 4, 2) := by decide +kernel
theorem dL_law_1015 : decode cL_law 1015 = .ok (.iconst 2, 1) := by decide +kernel
theorem dL_law_1016 : decode cL_law 1016 = .ok (.iadd, 1) := by decide +kernel
theorem dL_law_1017 : decode cL_law 1017 = .ok (.iaload, 1) := by decide +kernel
theorem dL_law_1018 : decode cL_law 1018 = .ok (.invokevirtual 140, 3) := by decide +kernel
theorem dL_law_1021 : decode cL_law 1021 = .ok (.aload_n 2, 1) := by decide +kernel
theorem dL_law_1022 : decode cL_law 1022 = .ok (.aload_n 0, 1) := by decide +kernel
theorem dL_law_1023 : decode cL_law 1023 = .ok (.iload 4, 2) := by decide +kernel
theorem dL_law_1025 : decode cL_law 1025 = .ok (.iconst 1, 1) := by decide +kernel
theorem dL_law_1026 : decode cL_law 1026 = .ok (.iadd, 1) := by decide +kernel
theorem dL_law_1027 : decode cL_law 1027 = .ok (.iaload, 1) := by decide +kernel
theorem dL_law_1028 : decode cL_law 1028 = .ok (.aload_n 0, 1) := by decide +kernel
theorem dL_law_1029 : decode cL_law 1029 = .ok (.iload 4, 2) := by decide +kernel
theorem dL_law_1031 : decode cL_law 1031 = .ok (.iconst 2, 1) := by decide +kernel
theorem dL_law_1032 : decode cL_law 1032 = .ok (.iadd, 1) := by decide +kernel
theorem dL_law_1033 : decode cL_law 1033 = .ok (.iaload, 1) := by decide +kernel
theorem dL_law_1034 : decode cL_law 1034 = .ok (.invokevirtual 143, 3) := by decide +kernel
theorem dL_law_1037 : decode cL_law 1037 = .ok (.if_icmp .eq 402, 3) := by decide +kernel
theorem dL_law_1040 : decode cL_law 1040 = .ok (.iconst 0, 1) := by decide +kernel
theorem dL_law_1041 : decode cL_law 1041 = .ok (.ireturn, 1) := by decide +kernel
theorem dL_law_1042 : decode cL_law 1042 = .ok (.aload_n 1, 1) := by decide +kernel
theorem dL_law_1043 : decode cL_law 1043 = .ok (.invokevirtual 144, 3) := by decide +kernel
theorem dL_law_1046 : decode cL_law 1046 = .ok (.aload_n 2, 1) := by decide +kernel
theorem dL_law_1047 : decode cL_law 1047 = .ok (.invokevirtual 147, 3) := by decide +kernel
theorem dL_law_1050 : decode cL_law 1050 = .ok (.if_icmp .eq 389, 3) := by decide +kernel
theorem dL_law_1053 : decode cL_law 1053 = .ok (.iconst 0, 1) := by decide +kernel
theorem dL_law_1054 : decode cL_law 1054 = .ok (.ireturn, 1) := by decide +kernel
theorem dL_law_1055 : decode cL_law 1055 = .ok (.aload_n 1, 1) := by decide +kernel
theorem dL_law_1056 : decode cL_law 1056 = .ok (.aload_n 0, 1) := by decide +kernel
theorem dL_law_1057 : decode cL_law 1057 = .ok (.iload 4, 2) := by decide +kernel
theorem dL_law_1059 : decode cL_law 1059 = .ok (.iconst 1, 1) := by decide +kernel
theorem dL_law_1060 : decode cL_law 1060 = .ok (.iadd, 1) := by decide +kernel
theorem dL_law_1061 : decode cL_law 1061 = .ok (.iaload, 1) := by decide +kernel
theorem dL_law_1062 : decode cL_law 1062 = .ok (.aload_n 0, 1) := by decide +kernel
theorem dL_law_1063 : decode cL_law 1063 = .ok (.iload 4, 2) := by decide +kernel
theorem dL_law_1065 : decode cL_law 1065 = .ok (.iconst 2, 1) := by decide +kernel
theorem dL_law_1066 : decode cL_law 1066 = .ok (.iadd, 1) := by decide +kernel
theorem dL_law_1067 : decode cL_law 1067 = .ok (.iaload, 1) := by decide +kernel
theorem dL_law_1068 : decode cL_law 1068 = .ok (.invokevirtual 148, 3) := by decide +kernel
theorem dL_law_1071 : decode cL_law 1071 = .ok (.aload_n 2, 1) := by decide +kernel
theorem dL_law_1072 : decode cL_law 1072 = .ok (.aload_n 0, 1) := by decide +kernel
theorem dL_law_1073 : decode cL_law 1073 = .ok (.iload 4, 2) := by decide +kernel
theorem dL_law_1075 : decode cL_law 1075 = .ok (.iconst 1, 1) := by decide +kernel
theorem dL_law_1076 : decode cL_law 1076 = .ok (.iadd, 1) := by decide +kernel
theorem dL_law_1077 : decode cL_law 1077 = .ok (.iaload, 1) := by decide +kernel
theorem dL_law_1078 : decode cL_law 1078 = .ok (.aload_n 0, 1) := by decide +kernel
theorem dL_law_1079 : decode cL_law 1079 = .ok (.iload 4, 2) := by decide +kernel
theorem dL_law_1081 : decode cL_law 1081 = .ok (.iconst 2, 1) := by decide +kernel
theorem dL_law_1082 : decode cL_law 1082 = .ok (.iadd, 1) := by decide +kernel
theorem dL_law_1083 : decode cL_law 1083 = .ok (.iaload, 1) := by decide +kernel
theorem dL_law_1084 : decode cL_law 1084 = .ok (.invokevirtual 151, 3) := by decide +kernel
theorem dL_law_1087 : decode cL_law 1087 = .ok (.if_icmp .eq 352, 3) := by decide +kernel
theorem dL_law_1090 : decode cL_law 1090 = .ok (.iconst 0, 1) := by decide +kernel
theorem dL_law_1091 : decode cL_law 1091 = .ok (.ireturn, 1) := by decide +kernel
theorem dL_law_1092 : decode cL_law 1092 = .ok (.aload_n 1, 1) := by decide +kernel
theorem dL_law_1093 : decode cL_law 1093 = .ok (.invokevirtual 152, 3) := by decide +kernel
theorem dL_law_1096 : decode cL_law 1096 = .ok (.aload_n 2, 1) := by decide +kernel
theorem dL_law_1097 : decode cL_law 1097 = .ok (.invokevirtual 155, 3) := by decide +kernel
theorem dL_law_1100 : decode cL_law 1100 = .ok (.if_icmp .eq 339, 3) := by decide +kernel
theorem dL_law_1103 : decode cL_law 1103 = .ok (.iconst 0, 1) := by decide +kernel
theorem dL_law_1104 : decode cL_law 1104 = .ok (.ireturn, 1) := by decide +kernel
theorem dL_law_1105 : decode cL_law 1105 = .ok (.aload_n 1, 1) := by decide +kernel
theorem dL_law_1106 : decode cL_law 1106 = .ok (.invokevirtual 156, 3) := by decide +kernel
theorem dL_law_1109 : decode cL_law 1109 = .ok (.aload_n 2, 1) := by decide +kernel
theorem dL_law_1110 : decode cL_law 1110 = .ok (.invokevirtual 159, 3) := by decide +kernel
theorem dL_law_1113 : decode cL_law 1113 = .ok (.if_icmp .eq 326, 3) := by decide +kernel
theorem dL_law_1116 : decode cL_law 1116 = .ok (.iconst 0, 1) := by decide +kernel
theorem dL_law_1117 : decode cL_law 1117 = .ok (.ireturn, 1) := by decide +kernel
theorem dL_law_1118 : decode cL_law 1118 = .ok (.aload_n 1, 1) := by decide +kernel
theorem dL_law_1119 : decode cL_law 1119 = .ok (.aload_n 0, 1) := by decide +kernel
theorem dL_law_1120 : decode cL_law 1120 = .ok (.iload 4, 2) := by decide +kernel
theorem dL_law_1122 : decode cL_law 1122 = .ok (.iconst 1, 1) := by decide +kernel
theorem dL_law_1123 : decode cL_law 1123 = .ok (.iadd, 1) := by decide +kernel
theorem dL_law_1124 : decode cL_law 1124 = .ok (.iaload, 1) := by decide +kernel
theorem dL_law_1125 : decode cL_law 1125 = .ok (.invokevirtual 160, 3) := by decide +kernel
theorem dL_law_1128 : decode cL_law 1128 = .ok (.aload_n 2, 1) := by decide +kernel
theorem dL_law_1129 : decode cL_law 1129 = .ok (.aload_n 0, 1) := by decide +kernel
theorem dL_law_1130 : decode cL_law 1130 = .ok (.iload 4, 2) := by decide +kernel
theorem dL_law_1132 : decode cL_law 1132 = .ok (.iconst 1, 1) := by decide +kernel
theorem dL_law_1133 : decode cL_law 1133 = .ok (.iadd, 1) := by decide +kernel
theorem dL_law_1134 : decode cL_law 1134 = .ok (.iaload, 1) := by decide +kernel
theorem dL_law_1135 : decode cL_law 1135 = .ok (.invokevirtual 163, 3) := by decide +kernel
theorem dL_law_1138 : decode cL_law 1138 = .ok (.if_icmp .eq 301, 3) := by decide +kernel
theorem dL_law_1141 : decode cL_law 1141 = .ok (.iconst 0, 1) := by decide +kernel
theorem dL_law_1142 : decode cL_law 1142 = .ok (.ireturn, 1) := by decide +kernel
theorem dL_law_1143 : decode cL_law 1143 = .ok (.aload_n 1, 1) := by decide +kernel
theorem dL_law_1144 : decode cL_law 1144 = .ok (.invokevirtual 164, 3) := by decide +kernel
theorem dL_law_1147 : decode cL_law 1147 = .ok (.aload_n 2, 1) := by decide +kernel
theorem dL_law_1148 : decode cL_law 1148 = .ok (.invokevirtual 167, 3) := by decide +kernel
theorem dL_law_1151 : decode cL_law 1151 = .ok (.if_icmp .eq 288, 3) := by decide +kernel
theorem dL_law_1154 : decode cL_law 1154 = .ok (.iconst 0, 1) := by decide +kernel
theorem dL_law_1155 : decode cL_law 1155 = .ok (.ireturn, 1) := by decide +kernel
theorem dL_law_1156 : decode cL_law 1156 = .ok (.aload_n 1, 1) := by decide +kernel
theorem dL_law_1157 : decode cL_law 1157 = .ok (.invokevirtual 168, 3) := by decide +kernel
theorem dL_law_1160 : decode cL_law 1160 = .ok (.aload_n 2, 1) := by decide +kernel
theorem dL_law_1161 : decode cL_law 1161 = .ok (.invokevirtual 171, 3) := by decide +kernel
theorem dL_law_1164 : decode cL_law 1164 = .ok (.if_icmp .eq 275, 3) := by decide +kernel
theorem dL_law_1167 : decode cL_law 1167 = .ok (.iconst 0, 1) := by decide +kernel
theorem dL_law_1168 : decode cL_law 1168 = .ok (.ireturn, 1) := by decide +kernel
theorem dL_law_1169 : decode cL_law 1169 = .ok (.aload_n 1, 1) := by decide +kernel
theorem dL_law_1170 : decode cL_law 1170 = .ok (.aload_n 0, 1) := by decide +kernel
theorem dL_law_1171 : decode cL_law 1171 = .ok (.iload 4, 2) := by decide +kernel
theorem dL_law_1173 : decode cL_law 1173 = .ok (.iconst 1, 1) := by decide +kernel
theorem dL_law_1174 : decode cL_law 1174 = .ok (.iadd, 1) := by decide +kernel
theorem dL_law_1175 : decode cL_law 1175 = .ok (.iaload, 1) := by decide +kernel
theorem dL_law_1176 : decode cL_law 1176 = .ok (.aload_n 0, 1) := by decide +kernel
theorem dL_law_1177 : decode cL_law 1177 = .ok (.iload 4, 2) := by decide +kernel
theorem dL_law_1179 : decode cL_law 1179 = .ok (.iconst 2, 1) := by decide +kernel
theorem dL_law_1180 : decode cL_law 1180 = .ok (.iadd, 1) := by decide +kernel
theorem dL_law_1181 : decode cL_law 1181 = .ok (.iaload, 1) := by decide +kernel
theorem dL_law_1182 : decode cL_law 1182 = .ok (.invokevirtual 172, 3) := by decide +kernel
theorem dL_law_1185 : decode cL_law 1185 = .ok (.aload_n 2, 1) := by decide +kernel
theorem dL_law_1186 : decode cL_law 1186 = .ok (.aload_n 0, 1) := by decide +kernel
theorem dL_law_1187 : decode cL_law 1187 = .ok (.iload 4, 2) := by decide +kernel
theorem dL_law_1189 : decode cL_law 1189 = .ok (.iconst 1, 1) := by decide +kernel
theorem dL_law_1190 : decode cL_law 1190 = .ok (.iadd, 1) := by decide +kernel
theorem dL_law_1191 : decode cL_law 1191 = .ok (.iaload, 1) := by decide +kernel
theorem dL_law_1192 : decode cL_law 1192 = .ok (.aload_n 0, 1) := by decide +kernel
theorem dL_law_1193 : decode cL_law 1193 = .ok (.iload 4, 2) := by decide +kernel
theorem dL_law_1195 : decode cL_law 1195 = .ok (.iconst 2, 1) := by decide +kernel
theorem dL_law_1196 : decode cL_law 1196 = .ok (.iadd, 1) := by decide +kernel
theorem dL_law_1197 : decode cL_law 1197 = .ok (.iaload, 1) := by decide +kernel
theorem dL_law_1198 : decode cL_law 1198 = .ok (.invokevirtual 176, 3) := by decide +kernel
theorem dL_law_1201 : decode cL_law 1201 = .ok (.if_icmp .eq 238, 3) := by decide +kernel
theorem dL_law_1204 : decode cL_law 1204 = .ok (.iconst 0, 1) := by decide +kernel
theorem dL_law_1205 : decode cL_law 1205 = .ok (.ireturn, 1) := by decide +kernel
theorem dL_law_1206 : decode cL_law 1206 = .ok (.aload_n 1, 1) := by decide +kernel
theorem dL_law_1207 : decode cL_law 1207 = .ok (.aload_n 0, 1) := by decide +kernel
theorem dL_law_1208 : decode cL_law 1208 = .ok (.iload 4, 2) := by decide +kernel
theorem dL_law_1210 : decode cL_law 1210 = .ok (.iconst 1, 1) := by decide +kernel
theorem dL_law_1211 : decode cL_law 1211 = .ok (.iadd, 1) := by decide +kernel
theorem dL_law_1212 : decode cL_law 1212 = .ok (.iaload, 1) := by decide +kernel
theorem dL_law_1213 : decode cL_law 1213 = .ok (.aload_n 0, 1) := by decide +kernel
theorem dL_law_1214 : decode cL_law 1214 = .ok (.iload 4, 2) := by decide +kernel
theorem dL_law_1216 : decode cL_law 1216 = .ok (.iconst 2, 1) := by decide +kernel
theorem dL_law_1217 : decode cL_law 1217 = .ok (.iadd, 1) := by decide +kernel
theorem dL_law_1218 : decode cL_law 1218 = .ok (.iaload, 1) := by decide +kernel
theorem dL_law_1219 : decode cL_law 1219 = .ok (.invokevirtual 177, 3) := by decide +kernel
theorem dL_law_1222 : decode cL_law 1222 = .ok (.aload_n 2, 1) := by decide +kernel
theorem dL_law_1223 : decode cL_law 1223 = .ok (.aload_n 0, 1) := by decide +kernel
theorem dL_law_1224 : decode cL_law 1224 = .ok (.iload 4, 2) := by decide +kernel
theorem dL_law_1226 : decode cL_law 1226 = .ok (.iconst 1, 1) := by decide +kernel
theorem dL_law_1227 : decode cL_law 1227 = .ok (.iadd, 1) := by decide +kernel
theorem dL_law_1228 : decode cL_law 1228 = .ok (.iaload, 1) := by decide +kernel
theorem dL_law_1229 : decode cL_law 1229 = .ok (.aload_n 0, 1) := by decide +kernel
theorem dL_law_1230 : decode cL_law 1230 = .ok (.iload 4, 2) := by decide +kernel
theorem dL_law_1232 : decode cL_law 1232 = .ok (.iconst 2, 1) := by decide +kernel
theorem dL_law_1233 : decode cL_law 1233 = .ok (.iadd, 1) := by decide +kernel
theorem dL_law_1234 : decode cL_law 1234 = .ok (.iaload, 1) := by decide +kernel
theorem dL_law_1235 : decode cL_law 1235 = .ok (.invokevirtual 180, 3) := by decide +kernel
theorem dL_law_1238 : decode cL_law 1238 = .ok (.if_icmp .eq 201, 3) := by decide +kernel
theorem dL_law_1241 : decode cL_law 1241 = .ok (.iconst 0, 1) := by decide +kernel
theorem dL_law_1242 : decode cL_law 1242 = .ok (.ireturn, 1) := by decide +kernel
theorem dL_law_1243 : decode cL_law 1243 = .ok (.aload_n 1, 1) := by decide +kernel
theorem dL_law_1244 : decode cL_law 1244 = .ok (.invokevirtual 181, 3) := by decide +kernel
theorem dL_law_1247 : decode cL_law 1247 = .ok (.aload_n 2, 1) := by decide +kernel
theorem dL_law_1248 : decode cL_law 1248 = .ok (.invokevirtual 184, 3) := by decide +kernel
theorem dL_law_1251 : decode cL_law 1251 = .ok (.if_icmp .eq 188, 3) := by decide +kernel
theorem dL_law_1254 : decode cL_law 1254 = .ok (.iconst 0, 1) := by decide +kernel
theorem dL_law_1255 : decode cL_law 1255 = .ok (.ireturn, 1) := by decide +kernel
theorem dL_law_1256 : decode cL_law 1256 = .ok (.aload_n 1, 1) := by decide +kernel
theorem dL_law_1257 : decode cL_law 1257 = .ok (.invokevirtual 185, 3) := by decide +kernel
theorem dL_law_1260 : decode cL_law 1260 = .ok (.aload_n 2, 1) := by decide +kernel
theorem dL_law_1261 : decode cL_law 1261 = .ok (.invokevirtual 188, 3) := by decide +kernel
theorem dL_law_1264 : decode cL_law 1264 = .ok (.if_icmp .eq 175, 3) := by decide +kernel
theorem dL_law_1267 : decode cL_law 1267 = .ok (.iconst 0, 1) := by decide +kernel
theorem dL_law_1268 : decode cL_law 1268 = .ok (.ireturn, 1) := by decide +kernel
theorem dL_law_1269 : decode cL_law 1269 = .ok (.aload_n 1, 1) := by decide +kernel
theorem dL_law_1270 : decode cL_law 1270 = .ok (.aload_n 0, 1) := by decide +kernel
theorem dL_law_1271 : decode cL_law 1271 = .ok (.iload 4, 2) := by decide +kernel
theorem dL_law_1273 : decode cL_law 1273 = .ok (.iconst 1, 1) := by decide +kernel
theorem dL_law_1274 : decode cL_law 1274 = .ok (.iadd, 1) := by decide +kernel
theorem dL_law_1275 : decode cL_law 1275 = .ok (.iaload, 1) := by decide +kernel
theorem dL_law_1276 : decode cL_law 1276 = .ok (.invokevirtual 189, 3) := by decide +kernel
theorem dL_law_1279 : decode cL_law 1279 = .ok (.aload_n 2, 1) := by decide +kernel
theorem dL_law_1280 : decode cL_law 1280 = .ok (.aload_n 0, 1) := by decide +kernel
theorem dL_law_1281 : decode cL_law 1281 = .ok (.iload 4, 2) := by decide +kernel
theorem dL_law_1283 : decode cL_law 1283 = .ok (.iconst 1, 1) := by decide +kernel
theorem dL_law_1284 : decode cL_law 1284 = .ok (.iadd, 1) := by decide +kernel
theorem dL_law_1285 : decode cL_law 1285 = .ok (.iaload, 1) := by decide +kernel
theorem dL_law_1286 : decode cL_law 1286 = .ok (.invokevirtual 193, 3) := by decide +kernel
theorem dL_law_1289 : decode cL_law 1289 = .ok (.if_icmp .eq 150, 3) := by decide +kernel
theorem dL_law_1292 : decode cL_law 1292 = .ok (.iconst 0, 1) := by decide +kernel
theorem dL_law_1293 : decode cL_law 1293 = .ok (.ireturn, 1) := by decide +kernel
theorem dL_law_1294 : decode cL_law 1294 = .ok (.aload_n 1, 1) := by decide +kernel
theorem dL_law_1295 : decode cL_law 1295 = .ok (.invokevirtual 194, 3) := by decide +kernel
theorem dL_law_1298 : decode cL_law 1298 = .ok (.aload_n 2, 1) := by decide +kernel
theorem dL_law_1299 : decode cL_law 1299 = .ok (.invokevirtual 198, 3) := by decide +kernel
theorem dL_law_1302 : decode cL_law 1302 = .ok (.if_icmp .eq 137, 3) := by decide +kernel
theorem dL_law_1305 : decode cL_law 1305 = .ok (.iconst 0, 1) := by decide +kernel
theorem dL_law_1306 : decode cL_law 1306 = .ok (.ireturn, 1) := by decide +kernel
theorem dL_law_1307 : decode cL_law 1307 = .ok (.aload_n 1, 1) := by decide +kernel
theorem dL_law_1308 : decode cL_law 1308 = .ok (.invokevirtual 199, 3) := by decide +kernel
theorem dL_law_1311 : decode cL_law 1311 = .ok (.aload_n 2, 1) := by decide +kernel
theorem dL_law_1312 : decode cL_law 1312 = .ok (.invokevirtual 202, 3) := by decide +kernel
theorem dL_law_1315 : decode cL_law 1315 = .ok (.if_icmp .eq 124, 3) := by decide +kernel
theorem dL_law_1318 : decode cL_law 1318 = .ok (.iconst 0, 1) := by decide +kernel
theorem dL_law_1319 : decode cL_law 1319 = .ok (.ireturn, 1) := by decide +kernel
theorem dL_law_1320 : decode cL_law 1320 = .ok (.aload_n 1, 1) := by decide +kernel
theorem dL_law_1321 : decode cL_law 1321 = .ok (.aload_n 0, 1) := by decide +kernel
theorem dL_law_1322 : decode cL_law 1322 = .ok (.iload 4, 2) := by decide +kernel
theorem dL_law_1324 : decode cL_law 1324 = .ok (.iconst 1, 1) := by decide +kernel
theorem dL_law_1325 : decode cL_law 1325 = .ok (.iadd, 1) := by decide +kernel
theorem dL_law_1326 : decode cL_law 1326 = .ok (.iaload, 1) := by decide +kernel
theorem dL_law_1327 : decode cL_law 1327 = .ok (.invokevirtual 203, 3) := by decide +kernel
theorem dL_law_1330 : decode cL_law 1330 = .ok (.aload_n 2, 1) := by decide +kernel
theorem dL_law_1331 : decode cL_law 1331 = .ok (.aload_n 0, 1) := by decide +kernel
theorem dL_law_1332 : decode cL_law 1332 = .ok (.iload 4, 2) := by decide +kernel
theorem dL_law_1334 : decode cL_law 1334 = .ok (.iconst 1, 1) := by decide +kernel
theorem dL_law_1335 : decode cL_law 1335 = .ok (.iadd, 1) := by decide +kernel
theorem dL_law_1336 : decode cL_law 1336 = .ok (.iaload, 1) := by decide +kernel
theorem dL_law_1337 : decode cL_law 1337 = .ok (.invokevirtual 206, 3) := by decide +kernel
theorem dL_law_1340 : decode cL_law 1340 = .ok (.if_icmp .eq 99, 3) := by decide +kernel
theorem dL_law_1343 : decode cL_law 1343 = .ok (.iconst 0, 1) := by decide +kernel
theorem dL_law_1344 : decode cL_law 1344 = .ok (.ireturn, 1) := by decide +kernel
theorem dL_law_1345 : decode cL_law 1345 = .ok (.aload_n 1, 1) := by decide +kernel
theorem dL_law_1346 : decode cL_law 1346 = .ok (.aload_n 0, 1) := by decide +kernel
theorem dL_law_1347 : decode cL_law 1347 = .ok (.iload 4, 2) := by decide +kernel
theorem dL_law_1349 : decode cL_law 1349 = .ok (.iconst 1, 1) := by decide +kernel
theorem dL_law_1350 : decode cL_law 1350 = .ok (.iadd, 1) := by decide +kernel
theorem dL_law_1351 : decode cL_law 1351 = .ok (.iaload, 1) := by decide +kernel
theorem dL_law_1352 : decode cL_law 1352 = .ok (.aload_n 3, 1) := by decide +kernel
theorem dL_law_1353 : decode cL_law 1353 = .ok (.invokestatic 207, 3) := by decide +kernel
theorem dL_law_1356 : decode cL_law 1356 = .ok (.istore 5, 2) := by decide +kernel
theorem dL_law_1358 : decode cL_law 1358 = .ok (.aload_n 2, 1) := by decide +kernel
theorem dL_law_1359 : decode cL_law 1359 = .ok (.aload_n 0, 1) := by decide +kernel
theorem dL_law_1360 : decode cL_law 1360 = .ok (.iload 4, 2) := by decide +kernel
theorem dL_law_1362 : decode cL_law 1362 = .ok (.iconst 1, 1) := by decide +kernel
theorem dL_law_1363 : decode cL_law 1363 = .ok (.iadd, 1) := by decide +kernel
theorem dL_law_1364 : decode cL_law 1364 = .ok (.iaload, 1) := by decide +kernel
theorem dL_law_1365 : decode cL_law 1365 = .ok (.invokevirtual 212, 3) := by decide +kernel
theorem dL_law_1368 : decode cL_law 1368 = .ok (.istore 6, 2) := by decide +kernel
theorem dL_law_1370 : decode cL_law 1370 = .ok (.aload_n 2, 1) := by decide +kernel
theorem dL_law_1371 : decode cL_law 1371 = .ok (.invokevirtual 213, 3) := by decide +kernel
theorem dL_law_1374 : decode cL_law 1374 = .ok (.iload 5, 2) := by decide +kernel
theorem dL_law_1376 : decode cL_law 1376 = .ok (.if_icmp .eq 5, 3) := by decide +kernel
theorem dL_law_1379 : decode cL_law 1379 = .ok (.iconst 0, 1) := by decide +kernel
theorem dL_law_1380 : decode cL_law 1380 = .ok (.ireturn, 1) := by decide +kernel
theorem dL_law_1381 : decode cL_law 1381 = .ok (.iload 5, 2) := by decide +kernel
theorem dL_law_1383 : decode cL_law 1383 = .ok (.ifCond .ne 15, 3) := by decide +kernel
theorem dL_law_1386 : decode cL_law 1386 = .ok (.aload_n 3, 1) := by decide +kernel
theorem dL_law_1387 : decode cL_law 1387 = .ok (.iconst 0, 1) := by decide +kernel
theorem dL_law_1388 : decode cL_law 1388 = .ok (.laload, 1) := by decide +kernel
theorem dL_law_1389 : decode cL_law 1389 = .ok (.iload 6, 2) := by decide +kernel
theorem dL_law_1391 : decode cL_law 1391 = .ok (.i2l, 1) := by decide +kernel
theorem dL_law_1392 : decode cL_law 1392 = .ok (.lcmp, 1) := by decide +kernel
theorem dL_law_1393 : decode cL_law 1393 = .ok (.ifCond .eq 5, 3) := by decide +kernel
theorem dL_law_1396 : decode cL_law 1396 = .ok (.iconst 0, 1) := by decide +kernel
theorem dL_law_1397 : decode cL_law 1397 = .ok (.ireturn, 1) := by decide +kernel
theorem dL_law_1398 : decode cL_law 1398 = .ok (.goto 41, 3) := by decide +kernel
theorem dL_law_1401 : decode cL_law 1401 = .ok (.aload_n 1, 1) := by decide +kernel
theorem dL_law_1402 : decode cL_law 1402 = .ok (.aload_n 0, 1) := by decide +kernel
theorem dL_law_1403 : decode cL_law 1403 = .ok (.iload 4, 2) := by decide +kernel
theorem dL_law_1405 : decode cL_law 1405 = .ok (.iconst 1, 1) := by decide +kernel
theorem dL_law_1406 : decode cL_law 1406 = .ok (.iadd, 1) := by decide +kernel
theorem dL_law_1407 : decode cL_law 1407 = .ok (.iaload, 1) := by decide +kernel
theorem dL_law_1408 : decode cL_law 1408 = .ok (.invokevirtual 216, 3) := by decide +kernel
theorem dL_law_1411 : decode cL_law 1411 = .ok (.aload_n 2, 1) := by decide +kernel
theorem dL_law_1412 : decode cL_law 1412 = .ok (.aload_n 0, 1) := by decide +kernel
theorem dL_law_1413 : decode cL_law 1413 = .ok (.iload 4, 2) := by decide +kernel
theorem dL_law_1415 : decode cL_law 1415 = .ok (.iconst 1, 1) := by decide +kernel
theorem dL_law_1416 : decode cL_law 1416 = .ok (.iadd, 1) := by decide +kernel
theorem dL_law_1417 : decode cL_law 1417 = .ok (.iaload, 1) := by decide +kernel
theorem dL_law_1418 : decode cL_law 1418 = .ok (.invokevirtual 219, 3) := by decide +kernel
theorem dL_law_1421 : decode cL_law 1421 = .ok (.if_icmp .eq 18, 3) := by decide +kernel
theorem dL_law_1424 : decode cL_law 1424 = .ok (.iconst 0, 1) := by decide +kernel
theorem dL_law_1425 : decode cL_law 1425 = .ok (.ireturn, 1) := by decide +kernel
theorem dL_law_1426 : decode cL_law 1426 = .ok (.aload_n 1, 1) := by decide +kernel
theorem dL_law_1427 : decode cL_law 1427 = .ok (.invokevirtual 220, 3) := by decide +kernel
theorem dL_law_1430 : decode cL_law 1430 = .ok (.aload_n 2, 1) := by decide +kernel
theorem dL_law_1431 : decode cL_law 1431 = .ok (.invokevirtual 223, 3) := by decide +kernel
theorem dL_law_1434 : decode cL_law 1434 = .ok (.if_icmp .eq 5, 3) := by decide +kernel
theorem dL_law_1437 : decode cL_law 1437 = .ok (.iconst 0, 1) := by decide +kernel
theorem dL_law_1438 : decode cL_law 1438 = .ok (.ireturn, 1) := by decide +kernel
theorem dL_law_1439 : decode cL_law 1439 = .ok (.iinc 4 6, 3) := by decide +kernel
theorem dL_law_1442 : decode cL_law 1442 = .ok (.goto (-1419), 3) := by decide +kernel
theorem dL_law_1445 : decode cL_law 1445 = .ok (.iconst 1, 1) := by decide +kernel
theorem dL_law_1446 : decode cL_law 1446 = .ok (.ireturn, 1) := by decide +kernel
