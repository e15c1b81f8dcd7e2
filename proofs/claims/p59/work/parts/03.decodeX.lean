theorem dX0_perform_0 : decode cX0_perform 0 = .ok (.iload_n 1, 1) := by decide +kernel
theorem dX0_perform_1 : decode cX0_perform 1 = .ok (.tableswitch 148 0 8 #[51, 61, 72, 79, 86, 106, 113, 119, 124], 51) := by decide +kernel
theorem dX0_perform_52 : decode cX0_perform 52 = .ok (.aload_n 0, 1) := by decide +kernel
theorem dX0_perform_53 : decode cX0_perform 53 = .ok (.getfield 9, 3) := by decide +kernel
theorem dX0_perform_56 : decode cX0_perform 56 = .ok (.iload_n 2, 1) := by decide +kernel
theorem dX0_perform_57 : decode cX0_perform 57 = .ok (.iload_n 3, 1) := by decide +kernel
theorem dX0_perform_58 : decode cX0_perform 58 = .ok (.invokevirtual 15, 3) := by decide +kernel
theorem dX0_perform_61 : decode cX0_perform 61 = .ok (.ireturn, 1) := by decide +kernel
theorem dX0_perform_62 : decode cX0_perform 62 = .ok (.aload_n 0, 1) := by decide +kernel
theorem dX0_perform_63 : decode cX0_perform 63 = .ok (.iload_n 2, 1) := by decide +kernel
theorem dX0_perform_64 : decode cX0_perform 64 = .ok (.iload_n 3, 1) := by decide +kernel
theorem dX0_perform_65 : decode cX0_perform 65 = .ok (.iload 4, 2) := by decide +kernel
theorem dX0_perform_67 : decode cX0_perform 67 = .ok (.iload 5, 2) := by decide +kernel
theorem dX0_perform_69 : decode cX0_perform 69 = .ok (.invokestatic 21, 3) := by decide +kernel
theorem dX0_perform_72 : decode cX0_perform 72 = .ok (.ireturn, 1) := by decide +kernel
theorem dX0_perform_73 : decode cX0_perform 73 = .ok (.aload_n 0, 1) := by decide +kernel
theorem dX0_perform_74 : decode cX0_perform 74 = .ok (.iload_n 2, 1) := by decide +kernel
theorem dX0_perform_75 : decode cX0_perform 75 = .ok (.iload_n 3, 1) := by decide +kernel
theorem dX0_perform_76 : decode cX0_perform 76 = .ok (.invokestatic 27, 3) := by decide +kernel
theorem dX0_perform_79 : decode cX0_perform 79 = .ok (.ireturn, 1) := by decide +kernel
theorem dX0_perform_80 : decode cX0_perform 80 = .ok (.aload_n 0, 1) := by decide +kernel
theorem dX0_perform_81 : decode cX0_perform 81 = .ok (.iload_n 2, 1) := by decide +kernel
theorem dX0_perform_82 : decode cX0_perform 82 = .ok (.iload_n 3, 1) := by decide +kernel
theorem dX0_perform_83 : decode cX0_perform 83 = .ok (.invokestatic 31, 3) := by decide +kernel
theorem dX0_perform_86 : decode cX0_perform 86 = .ok (.ireturn, 1) := by decide +kernel
theorem dX0_perform_87 : decode cX0_perform 87 = .ok (.aload_n 0, 1) := by decide +kernel
theorem dX0_perform_88 : decode cX0_perform 88 = .ok (.getfield 34, 3) := by decide +kernel
theorem dX0_perform_91 : decode cX0_perform 91 = .ok (.getfield 38, 3) := by decide +kernel
theorem dX0_perform_94 : decode cX0_perform 94 = .ok (.iload_n 2, 1) := by decide +kernel
theorem dX0_perform_95 : decode cX0_perform 95 = .ok (.iload_n 3, 1) := by decide +kernel
theorem dX0_perform_96 : decode cX0_perform 96 = .ok (.invokevirtual 44, 3) := by decide +kernel
theorem dX0_perform_99 : decode cX0_perform 99 = .ok (.aload_n 0, 1) := by decide +kernel
theorem dX0_perform_100 : decode cX0_perform 100 = .ok (.iload_n 3, 1) := by decide +kernel
theorem dX0_perform_101 : decode cX0_perform 101 = .ok (.iconst (-1), 1) := by decide +kernel
theorem dX0_perform_102 : decode cX0_perform 102 = .ok (.iconst (-1), 1) := by decide +kernel
theorem dX0_perform_103 : decode cX0_perform 103 = .ok (.invokevirtual 50, 3) := by decide +kernel
theorem dX0_perform_106 : decode cX0_perform 106 = .ok (.ireturn, 1) := by decide +kernel
theorem dX0_perform_107 : decode cX0_perform 107 = .ok (.aload_n 0, 1) := by decide +kernel
theorem dX0_perform_108 : decode cX0_perform 108 = .ok (.iload_n 2, 1) := by decide +kernel
theorem dX0_perform_109 : decode cX0_perform 109 = .ok (.iload_n 3, 1) := by decide +kernel
theorem dX0_perform_110 : decode cX0_perform 110 = .ok (.invokestatic 54, 3) := by decide +kernel
theorem dX0_perform_113 : decode cX0_perform 113 = .ok (.ireturn, 1) := by decide +kernel
theorem dX0_perform_114 : decode cX0_perform 114 = .ok (.aload_n 0, 1) := by decide +kernel
theorem dX0_perform_115 : decode cX0_perform 115 = .ok (.iload_n 2, 1) := by decide +kernel
theorem dX0_perform_116 : decode cX0_perform 116 = .ok (.invokestatic 57, 3) := by decide +kernel
theorem dX0_perform_119 : decode cX0_perform 119 = .ok (.ireturn, 1) := by decide +kernel
theorem dX0_perform_120 : decode cX0_perform 120 = .ok (.aload_n 0, 1) := by decide +kernel
theorem dX0_perform_121 : decode cX0_perform 121 = .ok (.invokestatic 61, 3) := by decide +kernel
theorem dX0_perform_124 : decode cX0_perform 124 = .ok (.ireturn, 1) := by decide +kernel
theorem dX0_perform_125 : decode cX0_perform 125 = .ok (.aload_n 0, 1) := by decide +kernel
theorem dX0_perform_126 : decode cX0_perform 126 = .ok (.getfield 9, 3) := by decide +kernel
theorem dX0_perform_129 : decode cX0_perform 129 = .ok (.getfield 65, 3) := by decide +kernel
theorem dX0_perform_132 : decode cX0_perform 132 = .ok (.iload_n 2, 1) := by decide +kernel
theorem dX0_perform_133 : decode cX0_perform 133 = .ok (.aload_n 0, 1) := by decide +kernel
theorem dX0_perform_134 : decode cX0_perform 134 = .ok (.getfield 68, 3) := by decide +kernel
theorem dX0_perform_137 : decode cX0_perform 137 = .ok (.invokevirtual 44, 3) := by decide +kernel
theorem dX0_perform_140 : decode cX0_perform 140 = .ok (.aload_n 0, 1) := by decide +kernel
theorem dX0_perform_141 : decode cX0_perform 141 = .ok (.getfield 34, 3) := by decide +kernel
theorem dX0_perform_144 : decode cX0_perform 144 = .ok (.iload_n 2, 1) := by decide +kernel
theorem dX0_perform_145 : decode cX0_perform 145 = .ok (.invokevirtual 72, 3) := by decide +kernel
theorem dX0_perform_148 : decode cX0_perform 148 = .ok (.ireturn, 1) := by decide +kernel
theorem dX0_perform_149 : decode cX0_perform 149 = .ok (.aload_n 0, 1) := by decide +kernel
theorem dX0_perform_150 : decode cX0_perform 150 = .ok (.iload_n 2, 1) := by decide +kernel
theorem dX0_perform_151 : decode cX0_perform 151 = .ok (.invokestatic 76, 3) := by decide +kernel
theorem dX0_perform_154 : decode cX0_perform 154 = .ok (.ireturn, 1) := by decide +kernel
theorem dX0_takeIn_0 : decode cX0_takeIn 0 = .ok (.aload_n 0, 1) := by decide +kernel
theorem dX0_takeIn_1 : decode cX0_takeIn 1 = .ok (.iload_n 3, 1) := by decide +kernel
theorem dX0_takeIn_2 : decode cX0_takeIn 2 = .ok (.iload_n 2, 1) := by decide +kernel
theorem dX0_takeIn_3 : decode cX0_takeIn 3 = .ok (.iconst (-1), 1) := by decide +kernel
theorem dX0_takeIn_4 : decode cX0_takeIn 4 = .ok (.iconst (-1), 1) := by decide +kernel
theorem dX0_takeIn_5 : decode cX0_takeIn 5 = .ok (.invokevirtual 79, 3) := by decide +kernel
theorem dX0_takeIn_8 : decode cX0_takeIn 8 = .ok (.istore 5, 2) := by decide +kernel
theorem dX0_takeIn_10 : decode cX0_takeIn 10 = .ok (.aload_n 0, 1) := by decide +kernel
theorem dX0_takeIn_11 : decode cX0_takeIn 11 = .ok (.dup, 1) := by decide +kernel
theorem dX0_takeIn_12 : decode cX0_takeIn 12 = .ok (.getfield 83, 3) := by decide +kernel
theorem dX0_takeIn_15 : decode cX0_takeIn 15 = .ok (.iload_n 2, 1) := by decide +kernel
theorem dX0_takeIn_16 : decode cX0_takeIn 16 = .ok (.iadd, 1) := by decide +kernel
theorem dX0_takeIn_17 : decode cX0_takeIn 17 = .ok (.putfield 83, 3) := by decide +kernel
theorem dX0_takeIn_20 : decode cX0_takeIn 20 = .ok (.aload_n 0, 1) := by decide +kernel
theorem dX0_takeIn_21 : decode cX0_takeIn 21 = .ok (.getfield 34, 3) := by decide +kernel
theorem dX0_takeIn_24 : decode cX0_takeIn 24 = .ok (.iload_n 1, 1) := by decide +kernel
theorem dX0_takeIn_25 : decode cX0_takeIn 25 = .ok (.iload_n 3, 1) := by decide +kernel
theorem dX0_takeIn_26 : decode cX0_takeIn 26 = .ok (.iload_n 2, 1) := by decide +kernel
theorem dX0_takeIn_27 : decode cX0_takeIn 27 = .ok (.aload_n 0, 1) := by decide +kernel
theorem dX0_takeIn_28 : decode cX0_takeIn 28 = .ok (.getfield 68, 3) := by decide +kernel
theorem dX0_takeIn_31 : decode cX0_takeIn 31 = .ok (.iload 4, 2) := by decide +kernel
theorem dX0_takeIn_33 : decode cX0_takeIn 33 = .ok (.iadd, 1) := by decide +kernel
theorem dX0_takeIn_34 : decode cX0_takeIn 34 = .ok (.iload 5, 2) := by decide +kernel
theorem dX0_takeIn_36 : decode cX0_takeIn 36 = .ok (.invokevirtual 86, 3) := by decide +kernel
theorem dX0_takeIn_39 : decode cX0_takeIn 39 = .ok (.ireturn, 1) := by decide +kernel
theorem dX0_divide_0 : decode cX0_divide 0 = .ok (.aload_n 0, 1) := by decide +kernel
theorem dX0_divide_1 : decode cX0_divide 1 = .ok (.getfield 34, 3) := by decide +kernel
theorem dX0_divide_4 : decode cX0_divide 4 = .ok (.astore_n 3, 1) := by decide +kernel
theorem dX0_divide_5 : decode cX0_divide 5 = .ok (.aload_n 3, 1) := by decide +kernel
theorem dX0_divide_6 : decode cX0_divide 6 = .ok (.getfield 89, 3) := by decide +kernel
theorem dX0_divide_9 : decode cX0_divide 9 = .ok (.iload_n 1, 1) := by decide +kernel
theorem dX0_divide_10 : decode cX0_divide 10 = .ok (.aload_n 3, 1) := by decide +kernel
theorem dX0_divide_11 : decode cX0_divide 11 = .ok (.getfield 89, 3) := by decide +kernel
theorem dX0_divide_14 : decode cX0_divide 14 = .ok (.iload_n 1, 1) := by decide +kernel
theorem dX0_divide_15 : decode cX0_divide 15 = .ok (.invokevirtual 92, 3) := by decide +kernel
theorem dX0_divide_18 : decode cX0_divide 18 = .ok (.iload_n 2, 1) := by decide +kernel
theorem dX0_divide_19 : decode cX0_divide 19 = .ok (.isub, 1) := by decide +kernel
theorem dX0_divide_20 : decode cX0_divide 20 = .ok (.invokevirtual 44, 3) := by decide +kernel
theorem dX0_divide_23 : decode cX0_divide 23 = .ok (.aload_n 3, 1) := by decide +kernel
theorem dX0_divide_24 : decode cX0_divide 24 = .ok (.aload_n 3, 1) := by decide +kernel
theorem dX0_divide_25 : decode cX0_divide 25 = .ok (.getfield 95, 3) := by decide +kernel
theorem dX0_divide_28 : decode cX0_divide 28 = .ok (.iload_n 1, 1) := by decide +kernel
theorem dX0_divide_29 : decode cX0_divide 29 = .ok (.invokevirtual 92, 3) := by decide +kernel
theorem dX0_divide_32 : decode cX0_divide 32 = .ok (.aload_n 3, 1) := by decide +kernel
theorem dX0_divide_33 : decode cX0_divide 33 = .ok (.getfield 98, 3) := by decide +kernel
theorem dX0_divide_36 : decode cX0_divide 36 = .ok (.iload_n 1, 1) := by decide +kernel
theorem dX0_divide_37 : decode cX0_divide 37 = .ok (.invokevirtual 92, 3) := by decide +kernel
theorem dX0_divide_40 : decode cX0_divide 40 = .ok (.iload_n 2, 1) := by decide +kernel
theorem dX0_divide_41 : decode cX0_divide 41 = .ok (.aload_n 3, 1) := by decide +kernel
theorem dX0_divide_42 : decode cX0_divide 42 = .ok (.getfield 101, 3) := by decide +kernel
theorem dX0_divide_45 : decode cX0_divide 45 = .ok (.iload_n 1, 1) := by decide +kernel
theorem dX0_divide_46 : decode cX0_divide 46 = .ok (.invokevirtual 92, 3) := by decide +kernel
theorem dX0_divide_49 : decode cX0_divide 49 = .ok (.aload_n 3, 1) := by decide +kernel
theorem dX0_divide_50 : decode cX0_divide 50 = .ok (.getfield 38, 3) := by decide +kernel
theorem dX0_divide_53 : decode cX0_divide 53 = .ok (.iload_n 1, 1) := by decide +kernel
theorem dX0_divide_54 : decode cX0_divide 54 = .ok (.invokevirtual 92, 3) := by decide +kernel
theorem dX0_divide_57 : decode cX0_divide 57 = .ok (.invokevirtual 86, 3) := by decide +kernel
theorem dX0_divide_60 : decode cX0_divide 60 = .ok (.istore 4, 2) := by decide +kernel
theorem dX0_divide_62 : decode cX0_divide 62 = .ok (.aload_n 3, 1) := by decide +kernel
theorem dX0_divide_63 : decode cX0_divide 63 = .ok (.iload 4, 2) := by decide +kernel
theorem dX0_divide_65 : decode cX0_divide 65 = .ok (.iload_n 1, 1) := by decide +kernel
theorem dX0_divide_66 : decode cX0_divide 66 = .ok (.iconst (-1), 1) := by decide +kernel
theorem dX0_divide_67 : decode cX0_divide 67 = .ok (.invokevirtual 104, 3) := by decide +kernel
theorem dX0_divide_70 : decode cX0_divide 70 = .ok (.iload 4, 2) := by decide +kernel
theorem dX0_divide_72 : decode cX0_divide 72 = .ok (.ireturn, 1) := by decide +kernel
theorem dX0_unite_0 : decode cX0_unite 0 = .ok (.aload_n 0, 1) := by decide +kernel
theorem dX0_unite_1 : decode cX0_unite 1 = .ok (.getfield 34, 3) := by decide +kernel
theorem dX0_unite_4 : decode cX0_unite 4 = .ok (.astore_n 3, 1) := by decide +kernel
theorem dX0_unite_5 : decode cX0_unite 5 = .ok (.aload_n 3, 1) := by decide +kernel
theorem dX0_unite_6 : decode cX0_unite 6 = .ok (.getfield 98, 3) := by decide +kernel
theorem dX0_unite_9 : decode cX0_unite 9 = .ok (.iload_n 1, 1) := by decide +kernel
theorem dX0_unite_10 : decode cX0_unite 10 = .ok (.invokevirtual 92, 3) := by decide +kernel
theorem dX0_unite_13 : decode cX0_unite 13 = .ok (.istore 4, 2) := by decide +kernel
theorem dX0_unite_15 : decode cX0_unite 15 = .ok (.aload_n 3, 1) := by decide +kernel
theorem dX0_unite_16 : decode cX0_unite 16 = .ok (.getfield 89, 3) := by decide +kernel
theorem dX0_unite_19 : decode cX0_unite 19 = .ok (.iload_n 1, 1) := by decide +kernel
theorem dX0_unite_20 : decode cX0_unite 20 = .ok (.invokevirtual 92, 3) := by decide +kernel
theorem dX0_unite_23 : decode cX0_unite 23 = .ok (.aload_n 3, 1) := by decide +kernel
theorem dX0_unite_24 : decode cX0_unite 24 = .ok (.getfield 89, 3) := by decide +kernel
theorem dX0_unite_27 : decode cX0_unite 27 = .ok (.iload_n 2, 1) := by decide +kernel
theorem dX0_unite_28 : decode cX0_unite 28 = .ok (.invokevirtual 92, 3) := by decide +kernel
theorem dX0_unite_31 : decode cX0_unite 31 = .ok (.iadd, 1) := by decide +kernel
theorem dX0_unite_32 : decode cX0_unite 32 = .ok (.istore 5, 2) := by decide +kernel
theorem dX0_unite_34 : decode cX0_unite 34 = .ok (.aload_n 3, 1) := by decide +kernel
theorem dX0_unite_35 : decode cX0_unite 35 = .ok (.getfield 101, 3) := by decide +kernel
theorem dX0_unite_38 : decode cX0_unite 38 = .ok (.iload_n 1, 1) := by decide +kernel
theorem dX0_unite_39 : decode cX0_unite 39 = .ok (.invokevirtual 92, 3) := by decide +kernel
theorem dX0_unite_42 : decode cX0_unite 42 = .ok (.aload_n 3, 1) := by decide +kernel
theorem dX0_unite_43 : decode cX0_unite 43 = .ok (.getfield 101, 3) := by decide +kernel
theorem dX0_unite_46 : decode cX0_unite 46 = .ok (.iload_n 2, 1) := by decide +kernel
theorem dX0_unite_47 : decode cX0_unite 47 = .ok (.invokevirtual 92, 3) := by decide +kernel
theorem dX0_unite_50 : decode cX0_unite 50 = .ok (.invokestatic 108, 3) := by decide +kernel
theorem dX0_unite_53 : decode cX0_unite 53 = .ok (.istore 6, 2) := by decide +kernel
theorem dX0_unite_55 : decode cX0_unite 55 = .ok (.aload_n 3, 1) := by decide +kernel
theorem dX0_unite_56 : decode cX0_unite 56 = .ok (.iload_n 1, 1) := by decide +kernel
theorem dX0_unite_57 : decode cX0_unite 57 = .ok (.invokevirtual 113, 3) := by decide +kernel
theorem dX0_unite_60 : decode cX0_unite 60 = .ok (.aload_n 3, 1) := by decide +kernel
theorem dX0_unite_61 : decode cX0_unite 61 = .ok (.iload_n 2, 1) := by decide +kernel
theorem dX0_unite_62 : decode cX0_unite 62 = .ok (.invokevirtual 113, 3) := by decide +kernel
theorem dX0_unite_65 : decode cX0_unite 65 = .ok (.aload_n 0, 1) := by decide +kernel
theorem dX0_unite_66 : decode cX0_unite 66 = .ok (.iload 4, 2) := by decide +kernel
theorem dX0_unite_68 : decode cX0_unite 68 = .ok (.iload 5, 2) := by decide +kernel
theorem dX0_unite_70 : decode cX0_unite 70 = .ok (.iconst (-1), 1) := by decide +kernel
theorem dX0_unite_71 : decode cX0_unite 71 = .ok (.iconst (-1), 1) := by decide +kernel
theorem dX0_unite_72 : decode cX0_unite 72 = .ok (.invokevirtual 79, 3) := by decide +kernel
theorem dX0_unite_75 : decode cX0_unite 75 = .ok (.istore 7, 2) := by decide +kernel
theorem dX0_unite_77 : decode cX0_unite 77 = .ok (.aload_n 3, 1) := by decide +kernel
theorem dX0_unite_78 : decode cX0_unite 78 = .ok (.aload_n 3, 1) := by decide +kernel
theorem dX0_unite_79 : decode cX0_unite 79 = .ok (.getfield 95, 3) := by decide +kernel
theorem dX0_unite_82 : decode cX0_unite 82 = .ok (.iload_n 1, 1) := by decide +kernel
theorem dX0_unite_83 : decode cX0_unite 83 = .ok (.invokevirtual 92, 3) := by decide +kernel
theorem dX0_unite_86 : decode cX0_unite 86 = .ok (.iload 4, 2) := by decide +kernel
theorem dX0_unite_88 : decode cX0_unite 88 = .ok (.iload 5, 2) := by decide +kernel
theorem dX0_unite_90 : decode cX0_unite 90 = .ok (.iload 6, 2) := by decide +kernel
theorem dX0_unite_92 : decode cX0_unite 92 = .ok (.iload 7, 2) := by decide +kernel
theorem dX0_unite_94 : decode cX0_unite 94 = .ok (.invokevirtual 86, 3) := by decide +kernel
theorem dX0_unite_97 : decode cX0_unite 97 = .ok (.istore 8, 2) := by decide +kernel
theorem dX0_unite_99 : decode cX0_unite 99 = .ok (.aload_n 3, 1) := by decide +kernel
theorem dX0_unite_100 : decode cX0_unite 100 = .ok (.iload 8, 2) := by decide +kernel
theorem dX0_unite_102 : decode cX0_unite 102 = .ok (.iload_n 1, 1) := by decide +kernel
theorem dX0_unite_103 : decode cX0_unite 103 = .ok (.iload_n 2, 1) := by decide +kernel
theorem dX0_unite_104 : decode cX0_unite 104 = .ok (.invokevirtual 104, 3) := by decide +kernel
theorem dX0_unite_107 : decode cX0_unite 107 = .ok (.iload 8, 2) := by decide +kernel
theorem dX0_unite_109 : decode cX0_unite 109 = .ok (.ireturn, 1) := by decide +kernel
theorem dX0_sendOut_0 : decode cX0_sendOut 0 = .ok (.aload_n 0, 1) := by decide +kernel
theorem dX0_sendOut_1 : decode cX0_sendOut 1 = .ok (.getfield 34, 3) := by decide +kernel
theorem dX0_sendOut_4 : decode cX0_sendOut 4 = .ok (.astore_n 3, 1) := by decide +kernel
theorem dX0_sendOut_5 : decode cX0_sendOut 5 = .ok (.iload_n 2, 1) := by decide +kernel
theorem dX0_sendOut_6 : decode cX0_sendOut 6 = .ok (.istore 4, 2) := by decide +kernel
theorem dX0_sendOut_8 : decode cX0_sendOut 8 = .ok (.iconst 0, 1) := by decide +kernel
theorem dX0_sendOut_9 : decode cX0_sendOut 9 = .ok (.istore 5, 2) := by decide +kernel
theorem dX0_sendOut_11 : decode cX0_sendOut 11 = .ok (.iload 4, 2) := by decide +kernel
theorem dX0_sendOut_13 : decode cX0_sendOut 13 = .ok (.ifCond .le 76, 3) := by decide +kernel
theorem dX0_sendOut_16 : decode cX0_sendOut 16 = .ok (.iload 5, 2) := by decide +kernel
theorem dX0_sendOut_18 : decode cX0_sendOut 18 = .ok (.bipush 8, 2) := by decide +kernel
theorem dX0_sendOut_20 : decode cX0_sendOut 20 = .ok (.if_icmp .ge 69, 3) := by decide +kernel
theorem dX0_sendOut_23 : decode cX0_sendOut 23 = .ok (.aload_n 0, 1) := by decide +kernel
theorem dX0_sendOut_24 : decode cX0_sendOut 24 = .ok (.iload_n 1, 1) := by decide +kernel
theorem dX0_sendOut_25 : decode cX0_sendOut 25 = .ok (.invokevirtual 117, 3) := by decide +kernel
theorem dX0_sendOut_28 : decode cX0_sendOut 28 = .ok (.istore 6, 2) := by decide +kernel
theorem dX0_sendOut_30 : decode cX0_sendOut 30 = .ok (.aload_n 3, 1) := by decide +kernel
theorem dX0_sendOut_31 : decode cX0_sendOut 31 = .ok (.getfield 89, 3) := by decide +kernel
theorem dX0_sendOut_34 : decode cX0_sendOut 34 = .ok (.iload 6, 2) := by decide +kernel
theorem dX0_sendOut_36 : decode cX0_sendOut 36 = .ok (.invokevirtual 92, 3) := by decide +kernel
theorem dX0_sendOut_39 : decode cX0_sendOut 39 = .ok (.istore 7, 2) := by decide +kernel
theorem dX0_sendOut_41 : decode cX0_sendOut 41 = .ok (.iload 7, 2) := by decide +kernel
theorem dX0_sendOut_43 : decode cX0_sendOut 43 = .ok (.iload 4, 2) := by decide +kernel
theorem dX0_sendOut_45 : decode cX0_sendOut 45 = .ok (.if_icmp .le 20, 3) := by decide +kernel
theorem dX0_sendOut_48 : decode cX0_sendOut 48 = .ok (.aload_n 3, 1) := by decide +kernel
theorem dX0_sendOut_49 : decode cX0_sendOut 49 = .ok (.getfield 89, 3) := by decide +kernel
theorem dX0_sendOut_52 : decode cX0_sendOut 52 = .ok (.iload 6, 2) := by decide +kernel
theorem dX0_sendOut_54 : decode cX0_sendOut 54 = .ok (.iload 7, 2) := by decide +kernel
theorem dX0_sendOut_56 : decode cX0_sendOut 56 = .ok (.iload 4, 2) := by decide +kernel
theorem dX0_sendOut_58 : decode cX0_sendOut 58 = .ok (.isub, 1) := by decide +kernel
theorem dX0_sendOut_59 : decode cX0_sendOut 59 = .ok (.invokevirtual 44, 3) := by decide +kernel
theorem dX0_sendOut_62 : decode cX0_sendOut 62 = .ok (.goto 9, 3) := by decide +kernel
theorem dX0_sendOut_65 : decode cX0_sendOut 65 = .ok (.aload_n 3, 1) := by decide +kernel
theorem dX0_sendOut_66 : decode cX0_sendOut 66 = .ok (.iload 6, 2) := by decide +kernel
theorem dX0_sendOut_68 : decode cX0_sendOut 68 = .ok (.invokevirtual 113, 3) := by decide +kernel
theorem dX0_sendOut_71 : decode cX0_sendOut 71 = .ok (.iload 4, 2) := by decide +kernel
theorem dX0_sendOut_73 : decode cX0_sendOut 73 = .ok (.iload 7, 2) := by decide +kernel
theorem dX0_sendOut_75 : decode cX0_sendOut 75 = .ok (.iload 4, 2) := by decide +kernel
theorem dX0_sendOut_77 : decode cX0_sendOut 77 = .ok (.invokestatic 108, 3) := by decide +kernel
theorem dX0_sendOut_80 : decode cX0_sendOut 80 = .ok (.isub, 1) := by decide +kernel
theorem dX0_sendOut_81 : decode cX0_sendOut 81 = .ok (.istore 4, 2) := by decide +kernel
theorem dX0_sendOut_83 : decode cX0_sendOut 83 = .ok (.iinc 5 1, 3) := by decide +kernel
theorem dX0_sendOut_86 : decode cX0_sendOut 86 = .ok (.goto (-75), 3) := by decide +kernel
theorem dX0_sendOut_89 : decode cX0_sendOut 89 = .ok (.aload_n 0, 1) := by decide +kernel
theorem dX0_sendOut_90 : decode cX0_sendOut 90 = .ok (.dup, 1) := by decide +kernel
theorem dX0_sendOut_91 : decode cX0_sendOut 91 = .ok (.getfield 120, 3) := by decide +kernel
theorem dX0_sendOut_94 : decode cX0_sendOut 94 = .ok (.iload_n 2, 1) := by decide +kernel
theorem dX0_sendOut_95 : decode cX0_sendOut 95 = .ok (.iadd, 1) := by decide +kernel
theorem dX0_sendOut_96 : decode cX0_sendOut 96 = .ok (.putfield 120, 3) := by decide +kernel
theorem dX0_sendOut_99 : decode cX0_sendOut 99 = .ok (.iload 5, 2) := by decide +kernel
theorem dX0_sendOut_101 : decode cX0_sendOut 101 = .ok (.ireturn, 1) := by decide +kernel
theorem dX0_callBack_0 : decode cX0_callBack 0 = .ok (.aload_n 0, 1) := by decide +kernel
theorem dX0_callBack_1 : decode cX0_callBack 1 = .ok (.getfield 34, 3) := by decide +kernel
theorem dX0_callBack_4 : decode cX0_callBack 4 = .ok (.iload_n 1, 1) := by decide +kernel
theorem dX0_callBack_5 : decode cX0_callBack 5 = .ok (.invokestatic 123, 3) := by decide +kernel
theorem dX0_callBack_8 : decode cX0_callBack 8 = .ok (.istore_n 2, 1) := by decide +kernel
theorem dX0_callBack_9 : decode cX0_callBack 9 = .ok (.iconst 0, 1) := by decide +kernel
theorem dX0_callBack_10 : decode cX0_callBack 10 = .ok (.istore_n 3, 1) := by decide +kernel
theorem dX0_callBack_11 : decode cX0_callBack 11 = .ok (.iload_n 3, 1) := by decide +kernel
theorem dX0_callBack_12 : decode cX0_callBack 12 = .ok (.aload_n 0, 1) := by decide +kernel
theorem dX0_callBack_13 : decode cX0_callBack 13 = .ok (.getfield 34, 3) := by decide +kernel
theorem dX0_callBack_16 : decode cX0_callBack 16 = .ok (.getfield 129, 3) := by decide +kernel
theorem dX0_callBack_19 : decode cX0_callBack 19 = .ok (.if_icmp .ge 42, 3) := by decide +kernel
theorem dX0_callBack_22 : decode cX0_callBack 22 = .ok (.iload_n 2, 1) := by decide +kernel
theorem dX0_callBack_23 : decode cX0_callBack 23 = .ok (.iload_n 3, 1) := by decide +kernel
theorem dX0_callBack_24 : decode cX0_callBack 24 = .ok (.ishr, 1) := by decide +kernel
theorem dX0_callBack_25 : decode cX0_callBack 25 = .ok (.iconst 1, 1) := by decide +kernel
theorem dX0_callBack_26 : decode cX0_callBack 26 = .ok (.iand, 1) := by decide +kernel
theorem dX0_callBack_27 : decode cX0_callBack 27 = .ok (.iconst 1, 1) := by decide +kernel
theorem dX0_callBack_28 : decode cX0_callBack 28 = .ok (.if_icmp .ne 27, 3) := by decide +kernel
theorem dX0_callBack_31 : decode cX0_callBack 31 = .ok (.aload_n 0, 1) := by decide +kernel
theorem dX0_callBack_32 : decode cX0_callBack 32 = .ok (.getfield 34, 3) := by decide +kernel
theorem dX0_callBack_35 : decode cX0_callBack 35 = .ok (.getfield 38, 3) := by decide +kernel
theorem dX0_callBack_38 : decode cX0_callBack 38 = .ok (.iload_n 3, 1) := by decide +kernel
theorem dX0_callBack_39 : decode cX0_callBack 39 = .ok (.iconst (-1), 1) := by decide +kernel
theorem dX0_callBack_40 : decode cX0_callBack 40 = .ok (.invokevirtual 44, 3) := by decide +kernel
theorem dX0_callBack_43 : decode cX0_callBack 43 = .ok (.aload_n 0, 1) := by decide +kernel
theorem dX0_callBack_44 : decode cX0_callBack 44 = .ok (.getfield 132, 3) := by decide +kernel
theorem dX0_callBack_47 : decode cX0_callBack 47 = .ok (.aload_n 0, 1) := by decide +kernel
theorem dX0_callBack_48 : decode cX0_callBack 48 = .ok (.getfield 34, 3) := by decide +kernel
theorem dX0_callBack_51 : decode cX0_callBack 51 = .ok (.iload_n 3, 1) := by decide +kernel
theorem dX0_callBack_52 : decode cX0_callBack 52 = .ok (.invokevirtual 136, 3) := by decide +kernel
theorem dX0_callBack_55 : decode cX0_callBack 55 = .ok (.iinc 3 1, 3) := by decide +kernel
theorem dX0_callBack_58 : decode cX0_callBack 58 = .ok (.goto (-47), 3) := by decide +kernel
theorem dX0_callBack_61 : decode cX0_callBack 61 = .ok (.iload_n 2, 1) := by decide +kernel
theorem dX0_callBack_62 : decode cX0_callBack 62 = .ok (.invokestatic 142, 3) := by decide +kernel
theorem dX0_callBack_65 : decode cX0_callBack 65 = .ok (.ireturn, 1) := by decide +kernel
theorem dX0_takeFromHeap_0 : decode cX0_takeFromHeap 0 = .ok (.aload_n 0, 1) := by decide +kernel
theorem dX0_takeFromHeap_1 : decode cX0_takeFromHeap 1 = .ok (.getfield 132, 3) := by decide +kernel
theorem dX0_takeFromHeap_4 : decode cX0_takeFromHeap 4 = .ok (.invokevirtual 147, 3) := by decide +kernel
theorem dX0_takeFromHeap_7 : decode cX0_takeFromHeap 7 = .ok (.istore_n 1, 1) := by decide +kernel
theorem dX0_takeFromHeap_8 : decode cX0_takeFromHeap 8 = .ok (.aload_n 0, 1) := by decide +kernel
theorem dX0_takeFromHeap_9 : decode cX0_takeFromHeap 9 = .ok (.getfield 34, 3) := by decide +kernel
theorem dX0_takeFromHeap_12 : decode cX0_takeFromHeap 12 = .ok (.getfield 89, 3) := by decide +kernel
theorem dX0_takeFromHeap_15 : decode cX0_takeFromHeap 15 = .ok (.iload_n 1, 1) := by decide +kernel
theorem dX0_takeFromHeap_16 : decode cX0_takeFromHeap 16 = .ok (.invokevirtual 92, 3) := by decide +kernel
theorem dX0_takeFromHeap_19 : decode cX0_takeFromHeap 19 = .ok (.istore_n 2, 1) := by decide +kernel
theorem dX0_takeFromHeap_20 : decode cX0_takeFromHeap 20 = .ok (.aload_n 0, 1) := by decide +kernel
theorem dX0_takeFromHeap_21 : decode cX0_takeFromHeap 21 = .ok (.getfield 132, 3) := by decide +kernel
theorem dX0_takeFromHeap_24 : decode cX0_takeFromHeap 24 = .ok (.aload_n 0, 1) := by decide +kernel
theorem dX0_takeFromHeap_25 : decode cX0_takeFromHeap 25 = .ok (.getfield 34, 3) := by decide +kernel
theorem dX0_takeFromHeap_28 : decode cX0_takeFromHeap 28 = .ok (.invokevirtual 151, 3) := by decide +kernel
theorem dX0_takeFromHeap_31 : decode cX0_takeFromHeap 31 = .ok (.aload_n 0, 1) := by decide +kernel
theorem dX0_takeFromHeap_32 : decode cX0_takeFromHeap 32 = .ok (.getfield 34, 3) := by decide +kernel
theorem dX0_takeFromHeap_35 : decode cX0_takeFromHeap 35 = .ok (.iload_n 1, 1) := by decide +kernel
theorem dX0_takeFromHeap_36 : decode cX0_takeFromHeap 36 = .ok (.invokevirtual 113, 3) := by decide +kernel
theorem dX0_takeFromHeap_39 : decode cX0_takeFromHeap 39 = .ok (.aload_n 0, 1) := by decide +kernel
theorem dX0_takeFromHeap_40 : decode cX0_takeFromHeap 40 = .ok (.dup, 1) := by decide +kernel
theorem dX0_takeFromHeap_41 : decode cX0_takeFromHeap 41 = .ok (.getfield 155, 3) := by decide +kernel
theorem dX0_takeFromHeap_44 : decode cX0_takeFromHeap 44 = .ok (.iload_n 2, 1) := by decide +kernel
theorem dX0_takeFromHeap_45 : decode cX0_takeFromHeap 45 = .ok (.iadd, 1) := by decide +kernel
theorem dX0_takeFromHeap_46 : decode cX0_takeFromHeap 46 = .ok (.putfield 155, 3) := by decide +kernel
theorem dX0_takeFromHeap_49 : decode cX0_takeFromHeap 49 = .ok (.iload_n 2, 1) := by decide +kernel
theorem dX0_takeFromHeap_50 : decode cX0_takeFromHeap 50 = .ok (.ireturn, 1) := by decide +kernel
theorem dX0_letPass_0 : decode cX0_letPass 0 = .ok (.aload_n 0, 1) := by decide +kernel
theorem dX0_letPass_1 : decode cX0_letPass 1 = .ok (.invokevirtual 158, 3) := by decide +kernel
theorem dX0_letPass_4 : decode cX0_letPass 4 = .ok (.istore_n 2, 1) := by decide +kernel
theorem dX0_letPass_5 : decode cX0_letPass 5 = .ok (.aload_n 0, 1) := by decide +kernel
theorem dX0_letPass_6 : decode cX0_letPass 6 = .ok (.dup, 1) := by decide +kernel
theorem dX0_letPass_7 : decode cX0_letPass 7 = .ok (.getfield 68, 3) := by decide +kernel
theorem dX0_letPass_10 : decode cX0_letPass 10 = .ok (.iload_n 1, 1) := by decide +kernel
theorem dX0_letPass_11 : decode cX0_letPass 11 = .ok (.iadd, 1) := by decide +kernel
theorem dX0_letPass_12 : decode cX0_letPass 12 = .ok (.putfield 68, 3) := by decide +kernel
theorem dX0_letPass_15 : decode cX0_letPass 15 = .ok (.aload_n 0, 1) := by decide +kernel
theorem dX0_letPass_16 : decode cX0_letPass 16 = .ok (.invokevirtual 158, 3) := by decide +kernel
theorem dX0_letPass_19 : decode cX0_letPass 19 = .ok (.iload_n 2, 1) := by decide +kernel
theorem dX0_letPass_20 : decode cX0_letPass 20 = .ok (.isub, 1) := by decide +kernel
theorem dX0_letPass_21 : decode cX0_letPass 21 = .ok (.ireturn, 1) := by decide +kernel
theorem dX1_init_0 : decode cX1_init 0 = .ok (.aload_n 0, 1) := by decide +kernel
theorem dX1_init_1 : decode cX1_init 1 = .ok (.invokespecial 3, 3) := by decide +kernel
theorem dX1_init_4 : decode cX1_init 4 = .ok (.aload_n 0, 1) := by decide +kernel
theorem dX1_init_5 : decode cX1_init 5 = .ok (.new 9, 3) := by decide +kernel
theorem dX1_init_8 : decode cX1_init 8 = .ok (.dup, 1) := by decide +kernel
theorem dX1_init_9 : decode cX1_init 9 = .ok (.bipush 20, 2) := by decide +kernel
theorem dX1_init_11 : decode cX1_init 11 = .ok (.invokespecial 11, 3) := by decide +kernel
theorem dX1_init_14 : decode cX1_init 14 = .ok (.putfield 14, 3) := by decide +kernel
theorem dX1_init_17 : decode cX1_init 17 = .ok (.aload_n 0, 1) := by decide +kernel
theorem dX1_init_18 : decode cX1_init 18 = .ok (.iconst 0, 1) := by decide +kernel
theorem dX1_init_19 : decode cX1_init 19 = .ok (.putfield 20, 3) := by decide +kernel
theorem dX1_init_22 : decode cX1_init 22 = .ok (.return_, 1) := by decide +kernel
theorem dX1_copyFrom_0 : decode cX1_copyFrom 0 = .ok (.aload_n 0, 1) := by decide +kernel
theorem dX1_copyFrom_1 : decode cX1_copyFrom 1 = .ok (.getfield 14, 3) := by decide +kernel
theorem dX1_copyFrom_4 : decode cX1_copyFrom 4 = .ok (.aload_n 1, 1) := by decide +kernel
theorem dX1_copyFrom_5 : decode cX1_copyFrom 5 = .ok (.getfield 14, 3) := by decide +kernel
theorem dX1_copyFrom_8 : decode cX1_copyFrom 8 = .ok (.invokevirtual 24, 3) := by decide +kernel
theorem dX1_copyFrom_11 : decode cX1_copyFrom 11 = .ok (.aload_n 0, 1) := by decide +kernel
theorem dX1_copyFrom_12 : decode cX1_copyFrom 12 = .ok (.aload_n 1, 1) := by decide +kernel
theorem dX1_copyFrom_13 : decode cX1_copyFrom 13 = .ok (.getfield 20, 3) := by decide +kernel
theorem dX1_copyFrom_16 : decode cX1_copyFrom 16 = .ok (.putfield 20, 3) := by decide +kernel
theorem dX1_copyFrom_19 : decode cX1_copyFrom 19 = .ok (.return_, 1) := by decide +kernel
theorem dX1_top_0 : decode cX1_top 0 = .ok (.aload_n 0, 1) := by decide +kernel
theorem dX1_top_1 : decode cX1_top 1 = .ok (.getfield 20, 3) := by decide +kernel
theorem dX1_top_4 : decode cX1_top 4 = .ok (.ifCond .le 14, 3) := by decide +kernel
theorem dX1_top_7 : decode cX1_top 7 = .ok (.aload_n 0, 1) := by decide +kernel
theorem dX1_top_8 : decode cX1_top 8 = .ok (.getfield 14, 3) := by decide +kernel
theorem dX1_top_11 : decode cX1_top 11 = .ok (.iconst 0, 1) := by decide +kernel
theorem dX1_top_12 : decode cX1_top 12 = .ok (.invokevirtual 28, 3) := by decide +kernel
theorem dX1_top_15 : decode cX1_top 15 = .ok (.goto 4, 3) := by decide +kernel
theorem dX1_top_18 : decode cX1_top 18 = .ok (.iconst (-1), 1) := by decide +kernel
theorem dX1_top_19 : decode cX1_top 19 = .ok (.ireturn, 1) := by decide +kernel
theorem dX1_push_0 : decode cX1_push 0 = .ok (.aload_n 0, 1) := by decide +kernel
theorem dX1_push_1 : decode cX1_push 1 = .ok (.getfield 20, 3) := by decide +kernel
theorem dX1_push_4 : decode cX1_push 4 = .ok (.istore_n 3, 1) := by decide +kernel
theorem dX1_push_5 : decode cX1_push 5 = .ok (.aload_n 0, 1) := by decide +kernel
theorem dX1_push_6 : decode cX1_push 6 = .ok (.getfield 14, 3) := by decide +kernel
theorem dX1_push_9 : decode cX1_push 9 = .ok (.iload_n 3, 1) := by decide +kernel
theorem dX1_push_10 : decode cX1_push 10 = .ok (.iload_n 2, 1) := by decide +kernel
theorem dX1_push_11 : decode cX1_push 11 = .ok (.invokevirtual 32, 3) := by decide +kernel
theorem dX1_push_14 : decode cX1_push 14 = .ok (.aload_n 0, 1) := by decide +kernel
theorem dX1_push_15 : decode cX1_push 15 = .ok (.dup, 1) := by decide +kernel
theorem dX1_push_16 : decode cX1_push 16 = .ok (.getfield 20, 3) := by decide +kernel
theorem dX1_push_19 : decode cX1_push 19 = .ok (.iconst 1, 1) := by decide +kernel
theorem dX1_push_20 : decode cX1_push 20 = .ok (.iadd, 1) := by decide +kernel
theorem dX1_push_21 : decode cX1_push 21 = .ok (.putfield 20, 3) := by decide +kernel
theorem dX1_push_24 : decode cX1_push 24 = .ok (.iload_n 3, 1) := by decide +kernel
theorem dX1_push_25 : decode cX1_push 25 = .ok (.ifCond .le 43, 3) := by decide +kernel
theorem dX1_push_28 : decode cX1_push 28 = .ok (.iload_n 3, 1) := by decide +kernel
theorem dX1_push_29 : decode cX1_push 29 = .ok (.iconst 1, 1) := by decide +kernel
theorem dX1_push_30 : decode cX1_push 30 = .ok (.isub, 1) := by decide +kernel
theorem dX1_push_31 : decode cX1_push 31 = .ok (.iconst 2, 1) := by decide +kernel
theorem dX1_push_32 : decode cX1_push 32 = .ok (.idiv, 1) := by decide +kernel
theorem dX1_push_33 : decode cX1_push 33 = .ok (.istore 4, 2) := by decide +kernel
theorem dX1_push_35 : decode cX1_push 35 = .ok (.aload_n 1, 1) := by decide +kernel
theorem dX1_push_36 : decode cX1_push 36 = .ok (.iload_n 2, 1) := by decide +kernel
theorem dX1_push_37 : decode cX1_push 37 = .ok (.aload_n 0, 1) := by decide +kernel
theorem dX1_push_38 : decode cX1_push 38 = .ok (.getfield 14, 3) := by decide +kernel
theorem dX1_push_41 : decode cX1_push 41 = .ok (.iload 4, 2) := by decide +kernel
theorem dX1_push_43 : decode cX1_push 43 = .ok (.invokevirtual 28, 3) := by decide +kernel
theorem dX1_push_46 : decode cX1_push 46 = .ok (.invokevirtual 36, 3) := by decide +kernel
theorem dX1_push_49 : decode cX1_push 49 = .ok (.ifCond .ne 6, 3) := by decide +kernel
theorem dX1_push_52 : decode cX1_push 52 = .ok (.goto 16, 3) := by decide +kernel
theorem dX1_push_55 : decode cX1_push 55 = .ok (.aload_n 0, 1) := by decide +kernel
theorem dX1_push_56 : decode cX1_push 56 = .ok (.iload_n 3, 1) := by decide +kernel
theorem dX1_push_57 : decode cX1_push 57 = .ok (.iload 4, 2) := by decide +kernel
theorem dX1_push_59 : decode cX1_push 59 = .ok (.invokevirtual 42, 3) := by decide +kernel
theorem dX1_push_62 : decode cX1_push 62 = .ok (.iload 4, 2) := by decide +kernel
theorem dX1_push_64 : decode cX1_push 64 = .ok (.istore_n 3, 1) := by decide +kernel
theorem dX1_push_65 : decode cX1_push 65 = .ok (.goto (-41), 3) := by decide +kernel
theorem dX1_push_68 : decode cX1_push 68 = .ok (.return_, 1) := by decide +kernel
theorem dX1_removeTop_0 : decode cX1_removeTop 0 = .ok (.aload_n 0, 1) := by decide +kernel
theorem dX1_removeTop_1 : decode cX1_removeTop 1 = .ok (.dup, 1) := by decide +kernel
theorem dX1_removeTop_2 : decode cX1_removeTop 2 = .ok (.getfield 20, 3) := by decide +kernel
theorem dX1_removeTop_5 : decode cX1_removeTop 5 = .ok (.iconst 1, 1) := by decide +kernel
theorem dX1_removeTop_6 : decode cX1_removeTop 6 = .ok (.isub, 1) := by decide +kernel
theorem dX1_removeTop_7 : decode cX1_removeTop 7 = .ok (.putfield 20, 3) := by decide +kernel
theorem dX1_removeTop_10 : decode cX1_removeTop 10 = .ok (.aload_n 0, 1) := by decide +kernel
theorem dX1_removeTop_11 : decode cX1_removeTop 11 = .ok (.getfield 14, 3) := by decide +kernel
theorem dX1_removeTop_14 : decode cX1_removeTop 14 = .ok (.iconst 0, 1) := by decide +kernel
theorem dX1_removeTop_15 : decode cX1_removeTop 15 = .ok (.aload_n 0, 1) := by decide +kernel
theorem dX1_removeTop_16 : decode cX1_removeTop 16 = .ok (.getfield 14, 3) := by decide +kernel
theorem dX1_removeTop_19 : decode cX1_removeTop 19 = .ok (.aload_n 0, 1) := by decide +kernel
theorem dX1_removeTop_20 : decode cX1_removeTop 20 = .ok (.getfield 20, 3) := by decide +kernel
theorem dX1_removeTop_23 : decode cX1_removeTop 23 = .ok (.invokevirtual 28, 3) := by decide +kernel
theorem dX1_removeTop_26 : decode cX1_removeTop 26 = .ok (.invokevirtual 32, 3) := by decide +kernel
theorem dX1_removeTop_29 : decode cX1_removeTop 29 = .ok (.iconst 0, 1) := by decide +kernel
theorem dX1_removeTop_30 : decode cX1_removeTop 30 = .ok (.istore_n 2, 1) := by decide +kernel
theorem dX1_removeTop_31 : decode cX1_removeTop 31 = .ok (.iload_n 2, 1) := by decide +kernel
theorem dX1_removeTop_32 : decode cX1_removeTop 32 = .ok (.aload_n 0, 1) := by decide +kernel
theorem dX1_removeTop_33 : decode cX1_removeTop 33 = .ok (.getfield 20, 3) := by decide +kernel
theorem dX1_removeTop_36 : decode cX1_removeTop 36 = .ok (.if_icmp .ge 29, 3) := by decide +kernel
theorem dX1_removeTop_39 : decode cX1_removeTop 39 = .ok (.aload_n 0, 1) := by decide +kernel
theorem dX1_removeTop_40 : decode cX1_removeTop 40 = .ok (.aload_n 1, 1) := by decide +kernel
theorem dX1_removeTop_41 : decode cX1_removeTop 41 = .ok (.iload_n 2, 1) := by decide +kernel
theorem dX1_removeTop_42 : decode cX1_removeTop 42 = .ok (.invokevirtual 45, 3) := by decide +kernel
theorem dX1_removeTop_45 : decode cX1_removeTop 45 = .ok (.istore_n 3, 1) := by decide +kernel
theorem dX1_removeTop_46 : decode cX1_removeTop 46 = .ok (.iload_n 3, 1) := by decide +kernel
theorem dX1_removeTop_47 : decode cX1_removeTop 47 = .ok (.iload_n 2, 1) := by decide +kernel
theorem dX1_removeTop_48 : decode cX1_removeTop 48 = .ok (.if_icmp .gt 6, 3) := by decide +kernel
theorem dX1_removeTop_51 : decode cX1_removeTop 51 = .ok (.goto 14, 3) := by decide +kernel
theorem dX1_removeTop_54 : decode cX1_removeTop 54 = .ok (.aload_n 0, 1) := by decide +kernel
theorem dX1_removeTop_55 : decode cX1_removeTop 55 = .ok (.iload_n 2, 1) := by decide +kernel
theorem dX1_removeTop_56 : decode cX1_removeTop 56 = .ok (.iload_n 3, 1) := by decide +kernel
theorem dX1_removeTop_57 : decode cX1_removeTop 57 = .ok (.invokevirtual 42, 3) := by decide +kernel
theorem dX1_removeTop_60 : decode cX1_removeTop 60 = .ok (.iload_n 3, 1) := by decide +kernel
theorem dX1_removeTop_61 : decode cX1_removeTop 61 = .ok (.istore_n 2, 1) := by decide +kernel
theorem dX1_removeTop_62 : decode cX1_removeTop 62 = .ok (.goto (-31), 3) := by decide +kernel
theorem dX1_removeTop_65 : decode cX1_removeTop 65 = .ok (.return_, 1) := by decide +kernel
theorem dX1_firstOfThree_0 : decode cX1_firstOfThree 0 = .ok (.iload_n 2, 1) := by decide +kernel
theorem dX1_firstOfThree_1 : decode cX1_firstOfThree 1 = .ok (.istore_n 3, 1) := by decide +kernel
theorem dX1_firstOfThree_2 : decode cX1_firstOfThree 2 = .ok (.iconst 2, 1) := by decide +kernel
theorem dX1_firstOfThree_3 : decode cX1_firstOfThree 3 = .ok (.iload_n 2, 1) := by decide +kernel
theorem dX1_firstOfThree_4 : decode cX1_firstOfThree 4 = .ok (.imul, 1) := by decide +kernel
theorem dX1_firstOfThree_5 : decode cX1_firstOfThree 5 = .ok (.iconst 1, 1) := by decide +kernel
theorem dX1_firstOfThree_6 : decode cX1_firstOfThree 6 = .ok (.iadd, 1) := by decide +kernel
theorem dX1_firstOfThree_7 : decode cX1_firstOfThree 7 = .ok (.istore 4, 2) := by decide +kernel
theorem dX1_firstOfThree_9 : decode cX1_firstOfThree 9 = .ok (.iload 4, 2) := by decide +kernel
theorem dX1_firstOfThree_11 : decode cX1_firstOfThree 11 = .ok (.iconst 2, 1) := by decide +kernel
theorem dX1_firstOfThree_12 : decode cX1_firstOfThree 12 = .ok (.iload_n 2, 1) := by decide +kernel
theorem dX1_firstOfThree_13 : decode cX1_firstOfThree 13 = .ok (.imul, 1) := by decide +kernel
theorem dX1_firstOfThree_14 : decode cX1_firstOfThree 14 = .ok (.iconst 2, 1) := by decide +kernel
theorem dX1_firstOfThree_15 : decode cX1_firstOfThree 15 = .ok (.iadd, 1) := by decide +kernel
theorem dX1_firstOfThree_16 : decode cX1_firstOfThree 16 = .ok (.if_icmp .gt 45, 3) := by decide +kernel
theorem dX1_firstOfThree_19 : decode cX1_firstOfThree 19 = .ok (.iload 4, 2) := by decide +kernel
theorem dX1_firstOfThree_21 : decode cX1_firstOfThree 21 = .ok (.aload_n 0, 1) := by decide +kernel
theorem dX1_firstOfThree_22 : decode cX1_firstOfThree 22 = .ok (.getfield 20, 3) := by decide +kernel
theorem dX1_firstOfThree_25 : decode cX1_firstOfThree 25 = .ok (.if_icmp .ge 36, 3) := by decide +kernel
theorem dX1_firstOfThree_28 : decode cX1_firstOfThree 28 = .ok (.aload_n 1, 1) := by decide +kernel
theorem dX1_firstOfThree_29 : decode cX1_firstOfThree 29 = .ok (.aload_n 0, 1) := by decide +kernel
theorem dX1_firstOfThree_30 : decode cX1_firstOfThree 30 = .ok (.getfield 14, 3) := by decide +kernel
theorem dX1_firstOfThree_33 : decode cX1_firstOfThree 33 = .ok (.iload 4, 2) := by decide +kernel
theorem dX1_firstOfThree_35 : decode cX1_firstOfThree 35 = .ok (.invokevirtual 28, 3) := by decide +kernel
theorem dX1_firstOfThree_38 : decode cX1_firstOfThree 38 = .ok (.aload_n 0, 1) := by decide +kernel
theorem dX1_firstOfThree_39 : decode cX1_firstOfThree 39 = .ok (.getfield 14, 3) := by decide +kernel
theorem dX1_firstOfThree_42 : decode cX1_firstOfThree 42 = .ok (.iload_n 3, 1) := by decide +kernel
theorem dX1_firstOfThree_43 : decode cX1_firstOfThree 43 = .ok (.invokevirtual 28, 3) := by decide +kernel
theorem dX1_firstOfThree_46 : decode cX1_firstOfThree 46 = .ok (.invokevirtual 36, 3) := by decide +kernel
theorem dX1_firstOfThree_49 : decode cX1_firstOfThree 49 = .ok (.ifCond .eq 6, 3) := by decide +kernel
theorem dX1_firstOfThree_52 : decode cX1_firstOfThree 52 = .ok (.iload 4, 2) := by decide +kernel
theorem dX1_firstOfThree_54 : decode cX1_firstOfThree 54 = .ok (.istore_n 3, 1) := by decide +kernel
theorem dX1_firstOfThree_55 : decode cX1_firstOfThree 55 = .ok (.iinc 4 1, 3) := by decide +kernel
theorem dX1_firstOfThree_58 : decode cX1_firstOfThree 58 = .ok (.goto (-49), 3) := by decide +kernel
theorem dX1_firstOfThree_61 : decode cX1_firstOfThree 61 = .ok (.iload_n 3, 1) := by decide +kernel
theorem dX1_firstOfThree_62 : decode cX1_firstOfThree 62 = .ok (.ireturn, 1) := by decide +kernel
theorem dX1_swap_0 : decode cX1_swap 0 = .ok (.aload_n 0, 1) := by decide +kernel
theorem dX1_swap_1 : decode cX1_swap 1 = .ok (.getfield 14, 3) := by decide +kernel
theorem dX1_swap_4 : decode cX1_swap 4 = .ok (.iload_n 1, 1) := by decide +kernel
theorem dX1_swap_5 : decode cX1_swap 5 = .ok (.invokevirtual 28, 3) := by decide +kernel
theorem dX1_swap_8 : decode cX1_swap 8 = .ok (.istore_n 3, 1) := by decide +kernel
theorem dX1_swap_9 : decode cX1_swap 9 = .ok (.aload_n 0, 1) := by decide +kernel
theorem dX1_swap_10 : decode cX1_swap 10 = .ok (.getfield 14, 3) := by decide +kernel
theorem dX1_swap_13 : decode cX1_swap 13 = .ok (.iload_n 1, 1) := by decide +kernel
theorem dX1_swap_14 : decode cX1_swap 14 = .ok (.aload_n 0, 1) := by decide +kernel
theorem dX1_swap_15 : decode cX1_swap 15 = .ok (.getfield 14, 3) := by decide +kernel
theorem dX1_swap_18 : decode cX1_swap 18 = .ok (.iload_n 2, 1) := by decide +kernel
theorem dX1_swap_19 : decode cX1_swap 19 = .ok (.invokevirtual 28, 3) := by decide +kernel
theorem dX1_swap_22 : decode cX1_swap 22 = .ok (.invokevirtual 32, 3) := by decide +kernel
theorem dX1_swap_25 : decode cX1_swap 25 = .ok (.aload_n 0, 1) := by decide +kernel
theorem dX1_swap_26 : decode cX1_swap 26 = .ok (.getfield 14, 3) := by decide +kernel
theorem dX1_swap_29 : decode cX1_swap 29 = .ok (.iload_n 2, 1) := by decide +kernel
theorem dX1_swap_30 : decode cX1_swap 30 = .ok (.iload_n 3, 1) := by decide +kernel
theorem dX1_swap_31 : decode cX1_swap 31 = .ok (.invokevirtual 32, 3) := by decide +kernel
theorem dX1_swap_34 : decode cX1_swap 34 = .ok (.return_, 1) := by decide +kernel
theorem dX1_firstByScan_0 : decode cX1_firstByScan 0 = .ok (.iconst (-1), 1) := by decide +kernel
theorem dX1_firstByScan_1 : decode cX1_firstByScan 1 = .ok (.istore_n 1, 1) := by decide +kernel
theorem dX1_firstByScan_2 : decode cX1_firstByScan 2 = .ok (.iconst 0, 1) := by decide +kernel
theorem dX1_firstByScan_3 : decode cX1_firstByScan 3 = .ok (.istore_n 2, 1) := by decide +kernel
theorem dX1_firstByScan_4 : decode cX1_firstByScan 4 = .ok (.iload_n 2, 1) := by decide +kernel
theorem dX1_firstByScan_5 : decode cX1_firstByScan 5 = .ok (.aload_n 0, 1) := by decide +kernel
theorem dX1_firstByScan_6 : decode cX1_firstByScan 6 = .ok (.getfield 49, 3) := by decide +kernel
theorem dX1_firstByScan_9 : decode cX1_firstByScan 9 = .ok (.if_icmp .ge 37, 3) := by decide +kernel
theorem dX1_firstByScan_12 : decode cX1_firstByScan 12 = .ok (.aload_n 0, 1) := by decide +kernel
theorem dX1_firstByScan_13 : decode cX1_firstByScan 13 = .ok (.getfield 50, 3) := by decide +kernel
theorem dX1_firstByScan_16 : decode cX1_firstByScan 16 = .ok (.iload_n 2, 1) := by decide +kernel
theorem dX1_firstByScan_17 : decode cX1_firstByScan 17 = .ok (.invokevirtual 28, 3) := by decide +kernel
theorem dX1_firstByScan_20 : decode cX1_firstByScan 20 = .ok (.iconst (-1), 1) := by decide +kernel
theorem dX1_firstByScan_21 : decode cX1_firstByScan 21 = .ok (.if_icmp .ne 19, 3) := by decide +kernel
theorem dX1_firstByScan_24 : decode cX1_firstByScan 24 = .ok (.iload_n 1, 1) := by decide +kernel
theorem dX1_firstByScan_25 : decode cX1_firstByScan 25 = .ok (.iconst (-1), 1) := by decide +kernel
theorem dX1_firstByScan_26 : decode cX1_firstByScan 26 = .ok (.if_icmp .eq 12, 3) := by decide +kernel
theorem dX1_firstByScan_29 : decode cX1_firstByScan 29 = .ok (.aload_n 0, 1) := by decide +kernel
theorem dX1_firstByScan_30 : decode cX1_firstByScan 30 = .ok (.iload_n 2, 1) := by decide +kernel
theorem dX1_firstByScan_31 : decode cX1_firstByScan 31 = .ok (.iload_n 1, 1) := by decide +kernel
theorem dX1_firstByScan_32 : decode cX1_firstByScan 32 = .ok (.invokevirtual 36, 3) := by decide +kernel
theorem dX1_firstByScan_35 : decode cX1_firstByScan 35 = .ok (.ifCond .eq 5, 3) := by decide +kernel
theorem dX1_firstByScan_38 : decode cX1_firstByScan 38 = .ok (.iload_n 2, 1) := by decide +kernel
theorem dX1_firstByScan_39 : decode cX1_firstByScan 39 = .ok (.istore_n 1, 1) := by decide +kernel
theorem dX1_firstByScan_40 : decode cX1_firstByScan 40 = .ok (.iinc 2 1, 3) := by decide +kernel
theorem dX1_firstByScan_43 : decode cX1_firstByScan 43 = .ok (.goto (-39), 3) := by decide +kernel
theorem dX1_firstByScan_46 : decode cX1_firstByScan 46 = .ok (.iload_n 1, 1) := by decide +kernel
theorem dX1_firstByScan_47 : decode cX1_firstByScan 47 = .ok (.ireturn, 1) := by decide +kernel
theorem dX2_init_0 : decode cX2_init 0 = .ok (.aload_n 0, 1) := by decide +kernel
theorem dX2_init_1 : decode cX2_init 1 = .ok (.invokespecial 3, 3) := by decide +kernel
theorem dX2_init_4 : decode cX2_init 4 = .ok (.aload_n 0, 1) := by decide +kernel
theorem dX2_init_5 : decode cX2_init 5 = .ok (.new 9, 3) := by decide +kernel
theorem dX2_init_8 : decode cX2_init 8 = .ok (.dup, 1) := by decide +kernel
theorem dX2_init_9 : decode cX2_init 9 = .ok (.sipush 400, 3) := by decide +kernel
theorem dX2_init_12 : decode cX2_init 12 = .ok (.invokespecial 11, 3) := by decide +kernel
theorem dX2_init_15 : decode cX2_init 15 = .ok (.putfield 14, 3) := by decide +kernel
theorem dX2_init_18 : decode cX2_init 18 = .ok (.return_, 1) := by decide +kernel
theorem dX2_setInDepth_0 : decode cX2_setInDepth 0 = .ok (.aload_n 0, 1) := by decide +kernel
theorem dX2_setInDepth_1 : decode cX2_setInDepth 1 = .ok (.iload_n 1, 1) := by decide +kernel
theorem dX2_setInDepth_2 : decode cX2_setInDepth 2 = .ok (.iconst 0, 1) := by decide +kernel
theorem dX2_setInDepth_3 : decode cX2_setInDepth 3 = .ok (.iconst 0, 1) := by decide +kernel
theorem dX2_setInDepth_4 : decode cX2_setInDepth 4 = .ok (.invokestatic 20, 3) := by decide +kernel
theorem dX2_setInDepth_7 : decode cX2_setInDepth 7 = .ok (.ireturn, 1) := by decide +kernel
theorem dX2_follow_0 : decode cX2_follow 0 = .ok (.iload_n 2, 1) := by decide +kernel
theorem dX2_follow_1 : decode cX2_follow 1 = .ok (.istore 4, 2) := by decide +kernel
theorem dX2_follow_3 : decode cX2_follow 3 = .ok (.iload_n 3, 1) := by decide +kernel
theorem dX2_follow_4 : decode cX2_follow 4 = .ok (.bipush 20, 2) := by decide +kernel
theorem dX2_follow_6 : decode cX2_follow 6 = .ok (.if_icmp .ge 61, 3) := by decide +kernel
theorem dX2_follow_9 : decode cX2_follow 9 = .ok (.iload_n 1, 1) := by decide +kernel
theorem dX2_follow_10 : decode cX2_follow 10 = .ok (.iconst 1, 1) := by decide +kernel
theorem dX2_follow_11 : decode cX2_follow 11 = .ok (.iadd, 1) := by decide +kernel
theorem dX2_follow_12 : decode cX2_follow 12 = .ok (.istore 5, 2) := by decide +kernel
theorem dX2_follow_14 : decode cX2_follow 14 = .ok (.iload 5, 2) := by decide +kernel
theorem dX2_follow_16 : decode cX2_follow 16 = .ok (.aload_n 0, 1) := by decide +kernel
theorem dX2_follow_17 : decode cX2_follow 17 = .ok (.getfield 24, 3) := by decide +kernel
theorem dX2_follow_20 : decode cX2_follow 20 = .ok (.if_icmp .ge 47, 3) := by decide +kernel
theorem dX2_follow_23 : decode cX2_follow 23 = .ok (.aload_n 0, 1) := by decide +kernel
theorem dX2_follow_24 : decode cX2_follow 24 = .ok (.iload_n 1, 1) := by decide +kernel
theorem dX2_follow_25 : decode cX2_follow 25 = .ok (.iload 5, 2) := by decide +kernel
theorem dX2_follow_27 : decode cX2_follow 27 = .ok (.invokevirtual 30, 3) := by decide +kernel
theorem dX2_follow_30 : decode cX2_follow 30 = .ok (.ifCond .eq 31, 3) := by decide +kernel
theorem dX2_follow_33 : decode cX2_follow 33 = .ok (.iload 4, 2) := by decide +kernel
theorem dX2_follow_35 : decode cX2_follow 35 = .ok (.iload 5, 2) := by decide +kernel
theorem dX2_follow_37 : decode cX2_follow 37 = .ok (.ishr, 1) := by decide +kernel
theorem dX2_follow_38 : decode cX2_follow 38 = .ok (.iconst 1, 1) := by decide +kernel
theorem dX2_follow_39 : decode cX2_follow 39 = .ok (.iand, 1) := by decide +kernel
theorem dX2_follow_40 : decode cX2_follow 40 = .ok (.ifCond .ne 21, 3) := by decide +kernel
theorem dX2_follow_43 : decode cX2_follow 43 = .ok (.aload_n 0, 1) := by decide +kernel
theorem dX2_follow_44 : decode cX2_follow 44 = .ok (.iload 5, 2) := by decide +kernel
theorem dX2_follow_46 : decode cX2_follow 46 = .ok (.iload 4, 2) := by decide +kernel
theorem dX2_follow_48 : decode cX2_follow 48 = .ok (.iconst 1, 1) := by decide +kernel
theorem dX2_follow_49 : decode cX2_follow 49 = .ok (.iload 5, 2) := by decide +kernel
theorem dX2_follow_51 : decode cX2_follow 51 = .ok (.ishl, 1) := by decide +kernel
theorem dX2_follow_52 : decode cX2_follow 52 = .ok (.ior, 1) := by decide +kernel
theorem dX2_follow_53 : decode cX2_follow 53 = .ok (.iload_n 3, 1) := by decide +kernel
theorem dX2_follow_54 : decode cX2_follow 54 = .ok (.iconst 1, 1) := by decide +kernel
theorem dX2_follow_55 : decode cX2_follow 55 = .ok (.iadd, 1) := by decide +kernel
theorem dX2_follow_56 : decode cX2_follow 56 = .ok (.invokestatic 20, 3) := by decide +kernel
theorem dX2_follow_59 : decode cX2_follow 59 = .ok (.istore 4, 2) := by decide +kernel
theorem dX2_follow_61 : decode cX2_follow 61 = .ok (.iinc 5 1, 3) := by decide +kernel
theorem dX2_follow_64 : decode cX2_follow 64 = .ok (.goto (-50), 3) := by decide +kernel
theorem dX2_follow_67 : decode cX2_follow 67 = .ok (.iload 4, 2) := by decide +kernel
theorem dX2_follow_69 : decode cX2_follow 69 = .ok (.ireturn, 1) := by decide +kernel
theorem dX2_shelvedFamily_0 : decode cX2_shelvedFamily 0 = .ok (.aload_n 0, 1) := by decide +kernel
theorem dX2_shelvedFamily_1 : decode cX2_shelvedFamily 1 = .ok (.iload_n 1, 1) := by decide +kernel
theorem dX2_shelvedFamily_2 : decode cX2_shelvedFamily 2 = .ok (.iconst 1, 1) := by decide +kernel
theorem dX2_shelvedFamily_3 : decode cX2_shelvedFamily 3 = .ok (.iload_n 1, 1) := by decide +kernel
theorem dX2_shelvedFamily_4 : decode cX2_shelvedFamily 4 = .ok (.ishl, 1) := by decide +kernel
theorem dX2_shelvedFamily_5 : decode cX2_shelvedFamily 5 = .ok (.iconst 0, 1) := by decide +kernel
theorem dX2_shelvedFamily_6 : decode cX2_shelvedFamily 6 = .ok (.invokestatic 20, 3) := by decide +kernel
theorem dX2_shelvedFamily_9 : decode cX2_shelvedFamily 9 = .ok (.istore_n 2, 1) := by decide +kernel
theorem dX2_shelvedFamily_10 : decode cX2_shelvedFamily 10 = .ok (.iconst 0, 1) := by decide +kernel
theorem dX2_shelvedFamily_11 : decode cX2_shelvedFamily 11 = .ok (.istore_n 3, 1) := by decide +kernel
theorem dX2_shelvedFamily_12 : decode cX2_shelvedFamily 12 = .ok (.iload_n 3, 1) := by decide +kernel
theorem dX2_shelvedFamily_13 : decode cX2_shelvedFamily 13 = .ok (.aload_n 0, 1) := by decide +kernel
theorem dX2_shelvedFamily_14 : decode cX2_shelvedFamily 14 = .ok (.getfield 24, 3) := by decide +kernel
theorem dX2_shelvedFamily_17 : decode cX2_shelvedFamily 17 = .ok (.if_icmp .ge 25, 3) := by decide +kernel
theorem dX2_shelvedFamily_20 : decode cX2_shelvedFamily 20 = .ok (.aload_n 0, 1) := by decide +kernel
theorem dX2_shelvedFamily_21 : decode cX2_shelvedFamily 21 = .ok (.iload_n 3, 1) := by decide +kernel
theorem dX2_shelvedFamily_22 : decode cX2_shelvedFamily 22 = .ok (.invokevirtual 34, 3) := by decide +kernel
theorem dX2_shelvedFamily_25 : decode cX2_shelvedFamily 25 = .ok (.ifCond .ne 11, 3) := by decide +kernel
theorem dX2_shelvedFamily_28 : decode cX2_shelvedFamily 28 = .ok (.iload_n 2, 1) := by decide +kernel
theorem dX2_shelvedFamily_29 : decode cX2_shelvedFamily 29 = .ok (.iconst 1, 1) := by decide +kernel
theorem dX2_shelvedFamily_30 : decode cX2_shelvedFamily 30 = .ok (.iload_n 3, 1) := by decide +kernel
theorem dX2_shelvedFamily_31 : decode cX2_shelvedFamily 31 = .ok (.ishl, 1) := by decide +kernel
theorem dX2_shelvedFamily_32 : decode cX2_shelvedFamily 32 = .ok (.iconst (-1), 1) := by decide +kernel
theorem dX2_shelvedFamily_33 : decode cX2_shelvedFamily 33 = .ok (.ixor, 1) := by decide +kernel
theorem dX2_shelvedFamily_34 : decode cX2_shelvedFamily 34 = .ok (.iand, 1) := by decide +kernel
theorem dX2_shelvedFamily_35 : decode cX2_shelvedFamily 35 = .ok (.istore_n 2, 1) := by decide +kernel
theorem dX2_shelvedFamily_36 : decode cX2_shelvedFamily 36 = .ok (.iinc 3 1, 3) := by decide +kernel
theorem dX2_shelvedFamily_39 : decode cX2_shelvedFamily 39 = .ok (.goto (-27), 3) := by decide +kernel
theorem dX2_shelvedFamily_42 : decode cX2_shelvedFamily 42 = .ok (.iload_n 2, 1) := by decide +kernel
theorem dX2_shelvedFamily_43 : decode cX2_shelvedFamily 43 = .ok (.ireturn, 1) := by decide +kernel
theorem dX2_countByTable_0 : decode cX2_countByTable 0 = .ok (.aload_n 0, 1) := by decide +kernel
theorem dX2_countByTable_1 : decode cX2_countByTable 1 = .ok (.aload_n 1, 1) := by decide +kernel
theorem dX2_countByTable_2 : decode cX2_countByTable 2 = .ok (.invokevirtual 38, 3) := by decide +kernel
theorem dX2_countByTable_5 : decode cX2_countByTable 5 = .ok (.iconst 0, 1) := by decide +kernel
theorem dX2_countByTable_6 : decode cX2_countByTable 6 = .ok (.istore_n 3, 1) := by decide +kernel
theorem dX2_countByTable_7 : decode cX2_countByTable 7 = .ok (.iload_n 3, 1) := by decide +kernel
theorem dX2_countByTable_8 : decode cX2_countByTable 8 = .ok (.aload_n 1, 1) := by decide +kernel
theorem dX2_countByTable_9 : decode cX2_countByTable 9 = .ok (.getfield 24, 3) := by decide +kernel
theorem dX2_countByTable_12 : decode cX2_countByTable 12 = .ok (.if_icmp .ge 18, 3) := by decide +kernel
theorem dX2_countByTable_15 : decode cX2_countByTable 15 = .ok (.aload_n 0, 1) := by decide +kernel
theorem dX2_countByTable_16 : decode cX2_countByTable 16 = .ok (.iload_n 3, 1) := by decide +kernel
theorem dX2_countByTable_17 : decode cX2_countByTable 17 = .ok (.aload_n 1, 1) := by decide +kernel
theorem dX2_countByTable_18 : decode cX2_countByTable 18 = .ok (.getfield 24, 3) := by decide +kernel
theorem dX2_countByTable_21 : decode cX2_countByTable 21 = .ok (.invokevirtual 42, 3) := by decide +kernel
theorem dX2_countByTable_24 : decode cX2_countByTable 24 = .ok (.iinc 3 1, 3) := by decide +kernel
theorem dX2_countByTable_27 : decode cX2_countByTable 27 = .ok (.goto (-20), 3) := by decide +kernel
theorem dX2_countByTable_30 : decode cX2_countByTable 30 = .ok (.iconst 0, 1) := by decide +kernel
theorem dX2_countByTable_31 : decode cX2_countByTable 31 = .ok (.istore_n 3, 1) := by decide +kernel
theorem dX2_countByTable_32 : decode cX2_countByTable 32 = .ok (.iconst 0, 1) := by decide +kernel
theorem dX2_countByTable_33 : decode cX2_countByTable 33 = .ok (.istore 4, 2) := by decide +kernel
theorem dX2_countByTable_35 : decode cX2_countByTable 35 = .ok (.iload 4, 2) := by decide +kernel
theorem dX2_countByTable_37 : decode cX2_countByTable 37 = .ok (.aload_n 1, 1) := by decide +kernel
theorem dX2_countByTable_38 : decode cX2_countByTable 38 = .ok (.getfield 24, 3) := by decide +kernel
theorem dX2_countByTable_41 : decode cX2_countByTable 41 = .ok (.if_icmp .ge 25, 3) := by decide +kernel
theorem dX2_countByTable_44 : decode cX2_countByTable 44 = .ok (.iload_n 3, 1) := by decide +kernel
theorem dX2_countByTable_45 : decode cX2_countByTable 45 = .ok (.aload_n 0, 1) := by decide +kernel
theorem dX2_countByTable_46 : decode cX2_countByTable 46 = .ok (.getfield 14, 3) := by decide +kernel
theorem dX2_countByTable_49 : decode cX2_countByTable 49 = .ok (.iload_n 2, 1) := by decide +kernel
theorem dX2_countByTable_50 : decode cX2_countByTable 50 = .ok (.iload 4, 2) := by decide +kernel
theorem dX2_countByTable_52 : decode cX2_countByTable 52 = .ok (.invokestatic 46, 3) := by decide +kernel
theorem dX2_countByTable_55 : decode cX2_countByTable 55 = .ok (.invokevirtual 50, 3) := by decide +kernel
theorem dX2_countByTable_58 : decode cX2_countByTable 58 = .ok (.iadd, 1) := by decide +kernel
theorem dX2_countByTable_59 : decode cX2_countByTable 59 = .ok (.istore_n 3, 1) := by decide +kernel
theorem dX2_countByTable_60 : decode cX2_countByTable 60 = .ok (.iinc 4 1, 3) := by decide +kernel
theorem dX2_countByTable_63 : decode cX2_countByTable 63 = .ok (.goto (-28), 3) := by decide +kernel
theorem dX2_countByTable_66 : decode cX2_countByTable 66 = .ok (.iload_n 3, 1) := by decide +kernel
theorem dX2_countByTable_67 : decode cX2_countByTable 67 = .ok (.ireturn, 1) := by decide +kernel
theorem dX2_enterParents_0 : decode cX2_enterParents 0 = .ok (.iconst 0, 1) := by decide +kernel
theorem dX2_enterParents_1 : decode cX2_enterParents 1 = .ok (.istore_n 2, 1) := by decide +kernel
theorem dX2_enterParents_2 : decode cX2_enterParents 2 = .ok (.iload_n 2, 1) := by decide +kernel
theorem dX2_enterParents_3 : decode cX2_enterParents 3 = .ok (.aload_n 1, 1) := by decide +kernel
theorem dX2_enterParents_4 : decode cX2_enterParents 4 = .ok (.getfield 24, 3) := by decide +kernel
theorem dX2_enterParents_7 : decode cX2_enterParents 7 = .ok (.if_icmp .ge 51, 3) := by decide +kernel
theorem dX2_enterParents_10 : decode cX2_enterParents 10 = .ok (.iconst 0, 1) := by decide +kernel
theorem dX2_enterParents_11 : decode cX2_enterParents 11 = .ok (.istore_n 3, 1) := by decide +kernel
theorem dX2_enterParents_12 : decode cX2_enterParents 12 = .ok (.iload_n 3, 1) := by decide +kernel
theorem dX2_enterParents_13 : decode cX2_enterParents 13 = .ok (.aload_n 1, 1) := by decide +kernel
theorem dX2_enterParents_14 : decode cX2_enterParents 14 = .ok (.getfield 24, 3) := by decide +kernel
theorem dX2_enterParents_17 : decode cX2_enterParents 17 = .ok (.if_icmp .ge 35, 3) := by decide +kernel
theorem dX2_enterParents_20 : decode cX2_enterParents 20 = .ok (.aload_n 0, 1) := by decide +kernel
theorem dX2_enterParents_21 : decode cX2_enterParents 21 = .ok (.getfield 14, 3) := by decide +kernel
theorem dX2_enterParents_24 : decode cX2_enterParents 24 = .ok (.iload_n 2, 1) := by decide +kernel
theorem dX2_enterParents_25 : decode cX2_enterParents 25 = .ok (.iload_n 3, 1) := by decide +kernel
theorem dX2_enterParents_26 : decode cX2_enterParents 26 = .ok (.invokestatic 46, 3) := by decide +kernel
theorem dX2_enterParents_29 : decode cX2_enterParents 29 = .ok (.aload_n 1, 1) := by decide +kernel
theorem dX2_enterParents_30 : decode cX2_enterParents 30 = .ok (.iload_n 2, 1) := by decide +kernel
theorem dX2_enterParents_31 : decode cX2_enterParents 31 = .ok (.iload_n 3, 1) := by decide +kernel
theorem dX2_enterParents_32 : decode cX2_enterParents 32 = .ok (.invokevirtual 30, 3) := by decide +kernel
theorem dX2_enterParents_35 : decode cX2_enterParents 35 = .ok (.ifCond .eq 7, 3) := by decide +kernel
theorem dX2_enterParents_38 : decode cX2_enterParents 38 = .ok (.iconst 1, 1) := by decide +kernel
theorem dX2_enterParents_39 : decode cX2_enterParents 39 = .ok (.goto 4, 3) := by decide +kernel
theorem dX2_enterParents_42 : decode cX2_enterParents 42 = .ok (.iconst 0, 1) := by decide +kernel
theorem dX2_enterParents_43 : decode cX2_enterParents 43 = .ok (.invokevirtual 54, 3) := by decide +kernel
theorem dX2_enterParents_46 : decode cX2_enterParents 46 = .ok (.iinc 3 1, 3) := by decide +kernel
theorem dX2_enterParents_49 : decode cX2_enterParents 49 = .ok (.goto (-37), 3) := by decide +kernel
theorem dX2_enterParents_52 : decode cX2_enterParents 52 = .ok (.iinc 2 1, 3) := by decide +kernel
theorem dX2_enterParents_55 : decode cX2_enterParents 55 = .ok (.goto (-53), 3) := by decide +kernel
theorem dX2_enterParents_58 : decode cX2_enterParents 58 = .ok (.return_, 1) := by decide +kernel
theorem dX2_joinThrough_0 : decode cX2_joinThrough 0 = .ok (.iconst 0, 1) := by decide +kernel
theorem dX2_joinThrough_1 : decode cX2_joinThrough 1 = .ok (.istore_n 3, 1) := by decide +kernel
theorem dX2_joinThrough_2 : decode cX2_joinThrough 2 = .ok (.iload_n 3, 1) := by decide +kernel
theorem dX2_joinThrough_3 : decode cX2_joinThrough 3 = .ok (.iload_n 2, 1) := by decide +kernel
theorem dX2_joinThrough_4 : decode cX2_joinThrough 4 = .ok (.if_icmp .ge 71, 3) := by decide +kernel
theorem dX2_joinThrough_7 : decode cX2_joinThrough 7 = .ok (.aload_n 0, 1) := by decide +kernel
theorem dX2_joinThrough_8 : decode cX2_joinThrough 8 = .ok (.getfield 14, 3) := by decide +kernel
theorem dX2_joinThrough_11 : decode cX2_joinThrough 11 = .ok (.iload_n 3, 1) := by decide +kernel
theorem dX2_joinThrough_12 : decode cX2_joinThrough 12 = .ok (.iload_n 1, 1) := by decide +kernel
theorem dX2_joinThrough_13 : decode cX2_joinThrough 13 = .ok (.invokestatic 46, 3) := by decide +kernel
theorem dX2_joinThrough_16 : decode cX2_joinThrough 16 = .ok (.invokevirtual 50, 3) := by decide +kernel
theorem dX2_joinThrough_19 : decode cX2_joinThrough 19 = .ok (.iconst 1, 1) := by decide +kernel
theorem dX2_joinThrough_20 : decode cX2_joinThrough 20 = .ok (.if_icmp .ne 49, 3) := by decide +kernel
theorem dX2_joinThrough_23 : decode cX2_joinThrough 23 = .ok (.iconst 0, 1) := by decide +kernel
theorem dX2_joinThrough_24 : decode cX2_joinThrough 24 = .ok (.istore 4, 2) := by decide +kernel
theorem dX2_joinThrough_26 : decode cX2_joinThrough 26 = .ok (.iload 4, 2) := by decide +kernel
theorem dX2_joinThrough_28 : decode cX2_joinThrough 28 = .ok (.iload_n 2, 1) := by decide +kernel
theorem dX2_joinThrough_29 : decode cX2_joinThrough 29 = .ok (.if_icmp .ge 40, 3) := by decide +kernel
theorem dX2_joinThrough_32 : decode cX2_joinThrough 32 = .ok (.aload_n 0, 1) := by decide +kernel
theorem dX2_joinThrough_33 : decode cX2_joinThrough 33 = .ok (.getfield 14, 3) := by decide +kernel
theorem dX2_joinThrough_36 : decode cX2_joinThrough 36 = .ok (.iload_n 1, 1) := by decide +kernel
theorem dX2_joinThrough_37 : decode cX2_joinThrough 37 = .ok (.iload 4, 2) := by decide +kernel
theorem dX2_joinThrough_39 : decode cX2_joinThrough 39 = .ok (.invokestatic 46, 3) := by decide +kernel
theorem dX2_joinThrough_42 : decode cX2_joinThrough 42 = .ok (.invokevirtual 50, 3) := by decide +kernel
theorem dX2_joinThrough_45 : decode cX2_joinThrough 45 = .ok (.iconst 1, 1) := by decide +kernel
theorem dX2_joinThrough_46 : decode cX2_joinThrough 46 = .ok (.if_icmp .ne 17, 3) := by decide +kernel
theorem dX2_joinThrough_49 : decode cX2_joinThrough 49 = .ok (.aload_n 0, 1) := by decide +kernel
theorem dX2_joinThrough_50 : decode cX2_joinThrough 50 = .ok (.getfield 14, 3) := by decide +kernel
theorem dX2_joinThrough_53 : decode cX2_joinThrough 53 = .ok (.iload_n 3, 1) := by decide +kernel
theorem dX2_joinThrough_54 : decode cX2_joinThrough 54 = .ok (.iload 4, 2) := by decide +kernel
theorem dX2_joinThrough_56 : decode cX2_joinThrough 56 = .ok (.invokestatic 46, 3) := by decide +kernel
theorem dX2_joinThrough_59 : decode cX2_joinThrough 59 = .ok (.iconst 1, 1) := by decide +kernel
theorem dX2_joinThrough_60 : decode cX2_joinThrough 60 = .ok (.invokevirtual 54, 3) := by decide +kernel
theorem dX2_joinThrough_63 : decode cX2_joinThrough 63 = .ok (.iinc 4 1, 3) := by decide +kernel
theorem dX2_joinThrough_66 : decode cX2_joinThrough 66 = .ok (.goto (-40), 3) := by decide +kernel
theorem dX2_joinThrough_69 : decode cX2_joinThrough 69 = .ok (.iinc 3 1, 3) := by decide +kernel
theorem dX2_joinThrough_72 : decode cX2_joinThrough 72 = .ok (.goto (-70), 3) := by decide +kernel
theorem dX2_joinThrough_75 : decode cX2_joinThrough 75 = .ok (.return_, 1) := by decide +kernel
theorem dX2_cell_0 : decode cX2_cell 0 = .ok (.iload_n 0, 1) := by decide +kernel
theorem dX2_cell_1 : decode cX2_cell 1 = .ok (.bipush 20, 2) := by decide +kernel
theorem dX2_cell_3 : decode cX2_cell 3 = .ok (.imul, 1) := by decide +kernel
theorem dX2_cell_4 : decode cX2_cell 4 = .ok (.iload_n 1, 1) := by decide +kernel
theorem dX2_cell_5 : decode cX2_cell 5 = .ok (.iadd, 1) := by decide +kernel
theorem dX2_cell_6 : decode cX2_cell 6 = .ok (.ireturn, 1) := by decide +kernel
theorem dX3_init_0 : decode cX3_init 0 = .ok (.aload_n 0, 1) := by decide +kernel
theorem dX3_init_1 : decode cX3_init 1 = .ok (.invokespecial 3, 3) := by decide +kernel
theorem dX3_init_4 : decode cX3_init 4 = .ok (.aload_n 0, 1) := by decide +kernel
theorem dX3_init_5 : decode cX3_init 5 = .ok (.iconst 0, 1) := by decide +kernel
theorem dX3_init_6 : decode cX3_init 6 = .ok (.putfield 9, 3) := by decide +kernel
theorem dX3_init_9 : decode cX3_init 9 = .ok (.return_, 1) := by decide +kernel
theorem dX3_verdict_0 : decode cX3_verdict 0 = .ok (.iload_n 2, 1) := by decide +kernel
theorem dX3_verdict_1 : decode cX3_verdict 1 = .ok (.tableswitch 172 0 8 #[51, 60, 73, 82, 91, 100, 109, 126, 154], 51) := by decide +kernel
theorem dX3_verdict_52 : decode cX3_verdict 52 = .ok (.aload_n 0, 1) := by decide +kernel
theorem dX3_verdict_53 : decode cX3_verdict 53 = .ok (.aload_n 1, 1) := by decide +kernel
theorem dX3_verdict_54 : decode cX3_verdict 54 = .ok (.iload_n 3, 1) := by decide +kernel
theorem dX3_verdict_55 : decode cX3_verdict 55 = .ok (.iload 4, 2) := by decide +kernel
theorem dX3_verdict_57 : decode cX3_verdict 57 = .ok (.invokevirtual 15, 3) := by decide +kernel
theorem dX3_verdict_60 : decode cX3_verdict 60 = .ok (.ireturn, 1) := by decide +kernel
theorem dX3_verdict_61 : decode cX3_verdict 61 = .ok (.aload_n 0, 1) := by decide +kernel
theorem dX3_verdict_62 : decode cX3_verdict 62 = .ok (.aload_n 1, 1) := by decide +kernel
theorem dX3_verdict_63 : decode cX3_verdict 63 = .ok (.iload_n 3, 1) := by decide +kernel
theorem dX3_verdict_64 : decode cX3_verdict 64 = .ok (.iload 4, 2) := by decide +kernel
theorem dX3_verdict_66 : decode cX3_verdict 66 = .ok (.iload 5, 2) := by decide +kernel
theorem dX3_verdict_68 : decode cX3_verdict 68 = .ok (.iload 6, 2) := by decide +kernel
theorem dX3_verdict_70 : decode cX3_verdict 70 = .ok (.invokevirtual 19, 3) := by decide +kernel
theorem dX3_verdict_73 : decode cX3_verdict 73 = .ok (.ireturn, 1) := by decide +kernel
theorem dX3_verdict_74 : decode cX3_verdict 74 = .ok (.aload_n 0, 1) := by decide +kernel
theorem dX3_verdict_75 : decode cX3_verdict 75 = .ok (.aload_n 1, 1) := by decide +kernel
theorem dX3_verdict_76 : decode cX3_verdict 76 = .ok (.iload_n 3, 1) := by decide +kernel
theorem dX3_verdict_77 : decode cX3_verdict 77 = .ok (.iload 4, 2) := by decide +kernel
theorem dX3_verdict_79 : decode cX3_verdict 79 = .ok (.invokevirtual 23, 3) := by decide +kernel
theorem dX3_verdict_82 : decode cX3_verdict 82 = .ok (.ireturn, 1) := by decide +kernel
theorem dX3_verdict_83 : decode cX3_verdict 83 = .ok (.aload_n 0, 1) := by decide +kernel
theorem dX3_verdict_84 : decode cX3_verdict 84 = .ok (.aload_n 1, 1) := by decide +kernel
theorem dX3_verdict_85 : decode cX3_verdict 85 = .ok (.iload_n 3, 1) := by decide +kernel
theorem dX3_verdict_86 : decode cX3_verdict 86 = .ok (.iload 4, 2) := by decide +kernel
theorem dX3_verdict_88 : decode cX3_verdict 88 = .ok (.invokevirtual 26, 3) := by decide +kernel
theorem dX3_verdict_91 : decode cX3_verdict 91 = .ok (.ireturn, 1) := by decide +kernel
theorem dX3_verdict_92 : decode cX3_verdict 92 = .ok (.aload_n 0, 1) := by decide +kernel
theorem dX3_verdict_93 : decode cX3_verdict 93 = .ok (.aload_n 1, 1) := by decide +kernel
theorem dX3_verdict_94 : decode cX3_verdict 94 = .ok (.iload_n 3, 1) := by decide +kernel
theorem dX3_verdict_95 : decode cX3_verdict 95 = .ok (.iload 4, 2) := by decide +kernel
theorem dX3_verdict_97 : decode cX3_verdict 97 = .ok (.invokevirtual 29, 3) := by decide +kernel
theorem dX3_verdict_100 : decode cX3_verdict 100 = .ok (.ireturn, 1) := by decide +kernel
theorem dX3_verdict_101 : decode cX3_verdict 101 = .ok (.aload_n 0, 1) := by decide +kernel
theorem dX3_verdict_102 : decode cX3_verdict 102 = .ok (.aload_n 1, 1) := by decide +kernel
theorem dX3_verdict_103 : decode cX3_verdict 103 = .ok (.iload_n 3, 1) := by decide +kernel
theorem dX3_verdict_104 : decode cX3_verdict 104 = .ok (.iload 4, 2) := by decide +kernel
theorem dX3_verdict_106 : decode cX3_verdict 106 = .ok (.invokevirtual 32, 3) := by decide +kernel
theorem dX3_verdict_109 : decode cX3_verdict 109 = .ok (.ireturn, 1) := by decide +kernel
theorem dX3_verdict_110 : decode cX3_verdict 110 = .ok (.aload_n 1, 1) := by decide +kernel
theorem dX3_verdict_111 : decode cX3_verdict 111 = .ok (.getfield 35, 3) := by decide +kernel
theorem dX3_verdict_114 : decode cX3_verdict 114 = .ok (.iload_n 3, 1) := by decide +kernel
theorem dX3_verdict_115 : decode cX3_verdict 115 = .ok (.invokevirtual 41, 3) := by decide +kernel
theorem dX3_verdict_118 : decode cX3_verdict 118 = .ok (.ifCond .eq 7, 3) := by decide +kernel
theorem dX3_verdict_121 : decode cX3_verdict 121 = .ok (.iconst 0, 1) := by decide +kernel
theorem dX3_verdict_122 : decode cX3_verdict 122 = .ok (.goto 4, 3) := by decide +kernel
theorem dX3_verdict_125 : decode cX3_verdict 125 = .ok (.iconst (-1), 1) := by decide +kernel
theorem dX3_verdict_126 : decode cX3_verdict 126 = .ok (.ireturn, 1) := by decide +kernel
theorem dX3_verdict_127 : decode cX3_verdict 127 = .ok (.aload_n 1, 1) := by decide +kernel
theorem dX3_verdict_128 : decode cX3_verdict 128 = .ok (.getfield 47, 3) := by decide +kernel
theorem dX3_verdict_131 : decode cX3_verdict 131 = .ok (.getfield 51, 3) := by decide +kernel
theorem dX3_verdict_134 : decode cX3_verdict 134 = .ok (.ifCond .le 7, 3) := by decide +kernel
theorem dX3_verdict_137 : decode cX3_verdict 137 = .ok (.iconst 0, 1) := by decide +kernel
theorem dX3_verdict_138 : decode cX3_verdict 138 = .ok (.goto 16, 3) := by decide +kernel
theorem dX3_verdict_141 : decode cX3_verdict 141 = .ok (.aload_n 0, 1) := by decide +kernel
theorem dX3_verdict_142 : decode cX3_verdict 142 = .ok (.bipush 7, 2) := by decide +kernel
theorem dX3_verdict_144 : decode cX3_verdict 144 = .ok (.aload_n 1, 1) := by decide +kernel
theorem dX3_verdict_145 : decode cX3_verdict 145 = .ok (.getfield 35, 3) := by decide +kernel
theorem dX3_verdict_148 : decode cX3_verdict 148 = .ok (.invokevirtual 56, 3) := by decide +kernel
theorem dX3_verdict_151 : decode cX3_verdict 151 = .ok (.invokevirtual 60, 3) := by decide +kernel
theorem dX3_verdict_154 : decode cX3_verdict 154 = .ok (.ireturn, 1) := by decide +kernel
theorem dX3_verdict_155 : decode cX3_verdict 155 = .ok (.aload_n 1, 1) := by decide +kernel
theorem dX3_verdict_156 : decode cX3_verdict 156 = .ok (.getfield 64, 3) := by decide +kernel
theorem dX3_verdict_159 : decode cX3_verdict 159 = .ok (.iload_n 3, 1) := by decide +kernel
theorem dX3_verdict_160 : decode cX3_verdict 160 = .ok (.invokevirtual 68, 3) := by decide +kernel
theorem dX3_verdict_163 : decode cX3_verdict 163 = .ok (.ifCond .eq 7, 3) := by decide +kernel
theorem dX3_verdict_166 : decode cX3_verdict 166 = .ok (.iconst 0, 1) := by decide +kernel
theorem dX3_verdict_167 : decode cX3_verdict 167 = .ok (.goto 5, 3) := by decide +kernel
theorem dX3_verdict_170 : decode cX3_verdict 170 = .ok (.bipush (-2), 2) := by decide +kernel
theorem dX3_verdict_172 : decode cX3_verdict 172 = .ok (.ireturn, 1) := by decide +kernel
theorem dX3_verdict_173 : decode cX3_verdict 173 = .ok (.iload_n 3, 1) := by decide +kernel
theorem dX3_verdict_174 : decode cX3_verdict 174 = .ok (.iconst 1, 1) := by decide +kernel
theorem dX3_verdict_175 : decode cX3_verdict 175 = .ok (.bipush 99, 2) := by decide +kernel
theorem dX3_verdict_177 : decode cX3_verdict 177 = .ok (.invokestatic 71, 3) := by decide +kernel
theorem dX3_verdict_180 : decode cX3_verdict 180 = .ok (.ifCond .eq 7, 3) := by decide +kernel
theorem dX3_verdict_183 : decode cX3_verdict 183 = .ok (.iconst 0, 1) := by decide +kernel
theorem dX3_verdict_184 : decode cX3_verdict 184 = .ok (.goto 5, 3) := by decide +kernel
theorem dX3_verdict_187 : decode cX3_verdict 187 = .ok (.bipush (-3), 2) := by decide +kernel
theorem dX3_verdict_189 : decode cX3_verdict 189 = .ok (.ireturn, 1) := by decide +kernel
theorem dX3_deny_0 : decode cX3_deny 0 = .ok (.aload_n 0, 1) := by decide +kernel
theorem dX3_deny_1 : decode cX3_deny 1 = .ok (.iload_n 2, 1) := by decide +kernel
theorem dX3_deny_2 : decode cX3_deny 2 = .ok (.putfield 9, 3) := by decide +kernel
theorem dX3_deny_5 : decode cX3_deny 5 = .ok (.iload_n 1, 1) := by decide +kernel
theorem dX3_deny_6 : decode cX3_deny 6 = .ok (.ireturn, 1) := by decide +kernel
theorem dX3_isWithin_0 : decode cX3_isWithin 0 = .ok (.iload_n 0, 1) := by decide +kernel
theorem dX3_isWithin_1 : decode cX3_isWithin 1 = .ok (.iload_n 1, 1) := by decide +kernel
theorem dX3_isWithin_2 : decode cX3_isWithin 2 = .ok (.if_icmp .lt 12, 3) := by decide +kernel
theorem dX3_isWithin_5 : decode cX3_isWithin 5 = .ok (.iload_n 0, 1) := by decide +kernel
theorem dX3_isWithin_6 : decode cX3_isWithin 6 = .ok (.iload_n 2, 1) := by decide +kernel
theorem dX3_isWithin_7 : decode cX3_isWithin 7 = .ok (.if_icmp .gt 7, 3) := by decide +kernel
theorem dX3_isWithin_10 : decode cX3_isWithin 10 = .ok (.iconst 1, 1) := by decide +kernel
theorem dX3_isWithin_11 : decode cX3_isWithin 11 = .ok (.goto 4, 3) := by decide +kernel
theorem dX3_isWithin_14 : decode cX3_isWithin 14 = .ok (.iconst 0, 1) := by decide +kernel
theorem dX3_isWithin_15 : decode cX3_isWithin 15 = .ok (.ireturn, 1) := by decide +kernel
theorem dX3_onAddShelf_0 : decode cX3_onAddShelf 0 = .ok (.iload_n 2, 1) := by decide +kernel
theorem dX3_onAddShelf_1 : decode cX3_onAddShelf 1 = .ok (.iconst 0, 1) := by decide +kernel
theorem dX3_onAddShelf_2 : decode cX3_onAddShelf 2 = .ok (.iconst 2, 1) := by decide +kernel
theorem dX3_onAddShelf_3 : decode cX3_onAddShelf 3 = .ok (.invokestatic 71, 3) := by decide +kernel
theorem dX3_onAddShelf_6 : decode cX3_onAddShelf 6 = .ok (.ifCond .eq 13, 3) := by decide +kernel
theorem dX3_onAddShelf_9 : decode cX3_onAddShelf 9 = .ok (.iload_n 3, 1) := by decide +kernel
theorem dX3_onAddShelf_10 : decode cX3_onAddShelf 10 = .ok (.iconst 1, 1) := by decide +kernel
theorem dX3_onAddShelf_11 : decode cX3_onAddShelf 11 = .ok (.bipush 40, 2) := by decide +kernel
theorem dX3_onAddShelf_13 : decode cX3_onAddShelf 13 = .ok (.invokestatic 71, 3) := by decide +kernel
theorem dX3_onAddShelf_16 : decode cX3_onAddShelf 16 = .ok (.ifCond .ne 6, 3) := by decide +kernel
theorem dX3_onAddShelf_19 : decode cX3_onAddShelf 19 = .ok (.bipush (-3), 2) := by decide +kernel
theorem dX3_onAddShelf_21 : decode cX3_onAddShelf 21 = .ok (.ireturn, 1) := by decide +kernel
theorem dX3_onAddShelf_22 : decode cX3_onAddShelf 22 = .ok (.aload_n 1, 1) := by decide +kernel
theorem dX3_onAddShelf_23 : decode cX3_onAddShelf 23 = .ok (.getfield 64, 3) := by decide +kernel
theorem dX3_onAddShelf_26 : decode cX3_onAddShelf 26 = .ok (.getfield 75, 3) := by decide +kernel
theorem dX3_onAddShelf_29 : decode cX3_onAddShelf 29 = .ok (.bipush 8, 2) := by decide +kernel
theorem dX3_onAddShelf_31 : decode cX3_onAddShelf 31 = .ok (.if_icmp .ge 7, 3) := by decide +kernel
theorem dX3_onAddShelf_34 : decode cX3_onAddShelf 34 = .ok (.iconst 0, 1) := by decide +kernel
theorem dX3_onAddShelf_35 : decode cX3_onAddShelf 35 = .ok (.goto 10, 3) := by decide +kernel
theorem dX3_onAddShelf_38 : decode cX3_onAddShelf 38 = .ok (.aload_n 0, 1) := by decide +kernel
theorem dX3_onAddShelf_39 : decode cX3_onAddShelf 39 = .ok (.iconst 1, 1) := by decide +kernel
theorem dX3_onAddShelf_40 : decode cX3_onAddShelf 40 = .ok (.bipush 8, 2) := by decide +kernel
theorem dX3_onAddShelf_42 : decode cX3_onAddShelf 42 = .ok (.invokevirtual 60, 3) := by decide +kernel
theorem dX3_onAddShelf_45 : decode cX3_onAddShelf 45 = .ok (.ireturn, 1) := by decide +kernel
theorem dX3_onReceive_0 : decode cX3_onReceive 0 = .ok (.iload_n 2, 1) := by decide +kernel
theorem dX3_onReceive_1 : decode cX3_onReceive 1 = .ok (.iconst 0, 1) := by decide +kernel
theorem dX3_onReceive_2 : decode cX3_onReceive 2 = .ok (.iconst 5, 1) := by decide +kernel
theorem dX3_onReceive_3 : decode cX3_onReceive 3 = .ok (.invokestatic 71, 3) := by decide +kernel
theorem dX3_onReceive_6 : decode cX3_onReceive 6 = .ok (.ifCond .eq 34, 3) := by decide +kernel
theorem dX3_onReceive_9 : decode cX3_onReceive 9 = .ok (.iload_n 3, 1) := by decide +kernel
theorem dX3_onReceive_10 : decode cX3_onReceive 10 = .ok (.iconst 1, 1) := by decide +kernel
theorem dX3_onReceive_11 : decode cX3_onReceive 11 = .ok (.bipush 40, 2) := by decide +kernel
theorem dX3_onReceive_13 : decode cX3_onReceive 13 = .ok (.invokestatic 71, 3) := by decide +kernel
theorem dX3_onReceive_16 : decode cX3_onReceive 16 = .ok (.ifCond .eq 24, 3) := by decide +kernel
theorem dX3_onReceive_19 : decode cX3_onReceive 19 = .ok (.iload 4, 2) := by decide +kernel
theorem dX3_onReceive_21 : decode cX3_onReceive 21 = .ok (.iconst 0, 1) := by decide +kernel
theorem dX3_onReceive_22 : decode cX3_onReceive 22 = .ok (.iconst 2, 1) := by decide +kernel
theorem dX3_onReceive_23 : decode cX3_onReceive 23 = .ok (.invokestatic 71, 3) := by decide +kernel
theorem dX3_onReceive_26 : decode cX3_onReceive 26 = .ok (.ifCond .eq 14, 3) := by decide +kernel
theorem dX3_onReceive_29 : decode cX3_onReceive 29 = .ok (.iload 5, 2) := by decide +kernel
theorem dX3_onReceive_31 : decode cX3_onReceive 31 = .ok (.iconst 0, 1) := by decide +kernel
theorem dX3_onReceive_32 : decode cX3_onReceive 32 = .ok (.bipush 99, 2) := by decide +kernel
theorem dX3_onReceive_34 : decode cX3_onReceive 34 = .ok (.invokestatic 71, 3) := by decide +kernel
theorem dX3_onReceive_37 : decode cX3_onReceive 37 = .ok (.ifCond .ne 6, 3) := by decide +kernel
theorem dX3_onReceive_40 : decode cX3_onReceive 40 = .ok (.bipush (-3), 2) := by decide +kernel
theorem dX3_onReceive_42 : decode cX3_onReceive 42 = .ok (.ireturn, 1) := by decide +kernel
theorem dX3_onReceive_43 : decode cX3_onReceive 43 = .ok (.aload_n 0, 1) := by decide +kernel
theorem dX3_onReceive_44 : decode cX3_onReceive 44 = .ok (.aload_n 1, 1) := by decide +kernel
theorem dX3_onReceive_45 : decode cX3_onReceive 45 = .ok (.invokevirtual 76, 3) := by decide +kernel
theorem dX3_onReceive_48 : decode cX3_onReceive 48 = .ok (.istore 6, 2) := by decide +kernel
theorem dX3_onReceive_50 : decode cX3_onReceive 50 = .ok (.iload 6, 2) := by decide +kernel
theorem dX3_onReceive_52 : decode cX3_onReceive 52 = .ok (.ifCond .eq 6, 3) := by decide +kernel
theorem dX3_onReceive_55 : decode cX3_onReceive 55 = .ok (.iload 6, 2) := by decide +kernel
theorem dX3_onReceive_57 : decode cX3_onReceive 57 = .ok (.ireturn, 1) := by decide +kernel
theorem dX3_onReceive_58 : decode cX3_onReceive 58 = .ok (.aload_n 1, 1) := by decide +kernel
theorem dX3_onReceive_59 : decode cX3_onReceive 59 = .ok (.iload 4, 2) := by decide +kernel
theorem dX3_onReceive_61 : decode cX3_onReceive 61 = .ok (.iload_n 3, 1) := by decide +kernel
theorem dX3_onReceive_62 : decode cX3_onReceive 62 = .ok (.iconst (-1), 1) := by decide +kernel
theorem dX3_onReceive_63 : decode cX3_onReceive 63 = .ok (.iconst (-1), 1) := by decide +kernel
theorem dX3_onReceive_64 : decode cX3_onReceive 64 = .ok (.invokevirtual 80, 3) := by decide +kernel
theorem dX3_onReceive_67 : decode cX3_onReceive 67 = .ok (.iconst (-1), 1) := by decide +kernel
theorem dX3_onReceive_68 : decode cX3_onReceive 68 = .ok (.if_icmp .eq 7, 3) := by decide +kernel
theorem dX3_onReceive_71 : decode cX3_onReceive 71 = .ok (.iconst 0, 1) := by decide +kernel
theorem dX3_onReceive_72 : decode cX3_onReceive 72 = .ok (.goto 9, 3) := by decide +kernel
theorem dX3_onReceive_75 : decode cX3_onReceive 75 = .ok (.aload_n 0, 1) := by decide +kernel
theorem dX3_onReceive_76 : decode cX3_onReceive 76 = .ok (.iconst 2, 1) := by decide +kernel
theorem dX3_onReceive_77 : decode cX3_onReceive 77 = .ok (.iload_n 3, 1) := by decide +kernel
theorem dX3_onReceive_78 : decode cX3_onReceive 78 = .ok (.invokevirtual 60, 3) := by decide +kernel
theorem dX3_onReceive_81 : decode cX3_onReceive 81 = .ok (.ireturn, 1) := by decide +kernel
theorem dX3_onLotLimit_0 : decode cX3_onLotLimit 0 = .ok (.aload_n 1, 1) := by decide +kernel
theorem dX3_onLotLimit_1 : decode cX3_onLotLimit 1 = .ok (.getfield 35, 3) := by decide +kernel
theorem dX3_onLotLimit_4 : decode cX3_onLotLimit 4 = .ok (.getfield 84, 3) := by decide +kernel
theorem dX3_onLotLimit_7 : decode cX3_onLotLimit 7 = .ok (.bipush 20, 2) := by decide +kernel
theorem dX3_onLotLimit_9 : decode cX3_onLotLimit 9 = .ok (.if_icmp .ge 7, 3) := by decide +kernel
theorem dX3_onLotLimit_12 : decode cX3_onLotLimit 12 = .ok (.iconst 0, 1) := by decide +kernel
theorem dX3_onLotLimit_13 : decode cX3_onLotLimit 13 = .ok (.goto 10, 3) := by decide +kernel
theorem dX3_onLotLimit_16 : decode cX3_onLotLimit 16 = .ok (.aload_n 0, 1) := by decide +kernel
theorem dX3_onLotLimit_17 : decode cX3_onLotLimit 17 = .ok (.iconst 1, 1) := by decide +kernel
theorem dX3_onLotLimit_18 : decode cX3_onLotLimit 18 = .ok (.bipush 20, 2) := by decide +kernel
theorem dX3_onLotLimit_20 : decode cX3_onLotLimit 20 = .ok (.invokevirtual 60, 3) := by decide +kernel
theorem dX3_onLotLimit_23 : decode cX3_onLotLimit 23 = .ok (.ireturn, 1) := by decide +kernel
theorem dX3_onBothLimits_0 : decode cX3_onBothLimits 0 = .ok (.aload_n 0, 1) := by decide +kernel
theorem dX3_onBothLimits_1 : decode cX3_onBothLimits 1 = .ok (.aload_n 1, 1) := by decide +kernel
theorem dX3_onBothLimits_2 : decode cX3_onBothLimits 2 = .ok (.invokevirtual 85, 3) := by decide +kernel
theorem dX3_onBothLimits_5 : decode cX3_onBothLimits 5 = .ok (.ifCond .eq 5, 3) := by decide +kernel
theorem dX3_onBothLimits_8 : decode cX3_onBothLimits 8 = .ok (.iconst 1, 1) := by decide +kernel
theorem dX3_onBothLimits_9 : decode cX3_onBothLimits 9 = .ok (.ireturn, 1) := by decide +kernel
theorem dX3_onBothLimits_10 : decode cX3_onBothLimits 10 = .ok (.aload_n 1, 1) := by decide +kernel
theorem dX3_onBothLimits_11 : decode cX3_onBothLimits 11 = .ok (.getfield 35, 3) := by decide +kernel
theorem dX3_onBothLimits_14 : decode cX3_onBothLimits 14 = .ok (.invokevirtual 56, 3) := by decide +kernel
theorem dX3_onBothLimits_17 : decode cX3_onBothLimits 17 = .ok (.bipush 8, 2) := by decide +kernel
theorem dX3_onBothLimits_19 : decode cX3_onBothLimits 19 = .ok (.if_icmp .ge 7, 3) := by decide +kernel
theorem dX3_onBothLimits_22 : decode cX3_onBothLimits 22 = .ok (.iconst 0, 1) := by decide +kernel
theorem dX3_onBothLimits_23 : decode cX3_onBothLimits 23 = .ok (.goto 10, 3) := by decide +kernel
theorem dX3_onBothLimits_26 : decode cX3_onBothLimits 26 = .ok (.aload_n 0, 1) := by decide +kernel
theorem dX3_onBothLimits_27 : decode cX3_onBothLimits 27 = .ok (.iconst 1, 1) := by decide +kernel
theorem dX3_onBothLimits_28 : decode cX3_onBothLimits 28 = .ok (.bipush 8, 2) := by decide +kernel
theorem dX3_onBothLimits_30 : decode cX3_onBothLimits 30 = .ok (.invokevirtual 60, 3) := by decide +kernel
theorem dX3_onBothLimits_33 : decode cX3_onBothLimits 33 = .ok (.ireturn, 1) := by decide +kernel
theorem dX3_onSplit_0 : decode cX3_onSplit 0 = .ok (.aload_n 1, 1) := by decide +kernel
theorem dX3_onSplit_1 : decode cX3_onSplit 1 = .ok (.getfield 35, 3) := by decide +kernel
theorem dX3_onSplit_4 : decode cX3_onSplit 4 = .ok (.iload_n 2, 1) := by decide +kernel
theorem dX3_onSplit_5 : decode cX3_onSplit 5 = .ok (.invokevirtual 41, 3) := by decide +kernel
theorem dX3_onSplit_8 : decode cX3_onSplit 8 = .ok (.ifCond .ne 5, 3) := by decide +kernel
theorem dX3_onSplit_11 : decode cX3_onSplit 11 = .ok (.iconst (-1), 1) := by decide +kernel
theorem dX3_onSplit_12 : decode cX3_onSplit 12 = .ok (.ireturn, 1) := by decide +kernel
theorem dX3_onSplit_13 : decode cX3_onSplit 13 = .ok (.iload_n 3, 1) := by decide +kernel
theorem dX3_onSplit_14 : decode cX3_onSplit 14 = .ok (.iconst 1, 1) := by decide +kernel
theorem dX3_onSplit_15 : decode cX3_onSplit 15 = .ok (.bipush 40, 2) := by decide +kernel
theorem dX3_onSplit_17 : decode cX3_onSplit 17 = .ok (.invokestatic 71, 3) := by decide +kernel
theorem dX3_onSplit_20 : decode cX3_onSplit 20 = .ok (.ifCond .ne 6, 3) := by decide +kernel
theorem dX3_onSplit_23 : decode cX3_onSplit 23 = .ok (.bipush (-3), 2) := by decide +kernel
theorem dX3_onSplit_25 : decode cX3_onSplit 25 = .ok (.ireturn, 1) := by decide +kernel
theorem dX3_onSplit_26 : decode cX3_onSplit 26 = .ok (.aload_n 1, 1) := by decide +kernel
theorem dX3_onSplit_27 : decode cX3_onSplit 27 = .ok (.getfield 35, 3) := by decide +kernel
theorem dX3_onSplit_30 : decode cX3_onSplit 30 = .ok (.iload_n 2, 1) := by decide +kernel
theorem dX3_onSplit_31 : decode cX3_onSplit 31 = .ok (.invokevirtual 88, 3) := by decide +kernel
theorem dX3_onSplit_34 : decode cX3_onSplit 34 = .ok (.ifCond .ne 10, 3) := by decide +kernel
theorem dX3_onSplit_37 : decode cX3_onSplit 37 = .ok (.aload_n 0, 1) := by decide +kernel
theorem dX3_onSplit_38 : decode cX3_onSplit 38 = .ok (.iconst 5, 1) := by decide +kernel
theorem dX3_onSplit_39 : decode cX3_onSplit 39 = .ok (.iload_n 2, 1) := by decide +kernel
theorem dX3_onSplit_40 : decode cX3_onSplit 40 = .ok (.invokevirtual 60, 3) := by decide +kernel
theorem dX3_onSplit_43 : decode cX3_onSplit 43 = .ok (.ireturn, 1) := by decide +kernel
theorem dX3_onSplit_44 : decode cX3_onSplit 44 = .ok (.aload_n 1, 1) := by decide +kernel
theorem dX3_onSplit_45 : decode cX3_onSplit 45 = .ok (.iload_n 2, 1) := by decide +kernel
theorem dX3_onSplit_46 : decode cX3_onSplit 46 = .ok (.invokevirtual 91, 3) := by decide +kernel
theorem dX3_onSplit_49 : decode cX3_onSplit 49 = .ok (.ifCond .eq 10, 3) := by decide +kernel
theorem dX3_onSplit_52 : decode cX3_onSplit 52 = .ok (.aload_n 0, 1) := by decide +kernel
theorem dX3_onSplit_53 : decode cX3_onSplit 53 = .ok (.iconst 3, 1) := by decide +kernel
theorem dX3_onSplit_54 : decode cX3_onSplit 54 = .ok (.iload_n 2, 1) := by decide +kernel
theorem dX3_onSplit_55 : decode cX3_onSplit 55 = .ok (.invokevirtual 60, 3) := by decide +kernel
theorem dX3_onSplit_58 : decode cX3_onSplit 58 = .ok (.ireturn, 1) := by decide +kernel
theorem dX3_onSplit_59 : decode cX3_onSplit 59 = .ok (.aload_n 1, 1) := by decide +kernel
theorem dX3_onSplit_60 : decode cX3_onSplit 60 = .ok (.getfield 35, 3) := by decide +kernel
theorem dX3_onSplit_63 : decode cX3_onSplit 63 = .ok (.getfield 94, 3) := by decide +kernel
theorem dX3_onSplit_66 : decode cX3_onSplit 66 = .ok (.iload_n 2, 1) := by decide +kernel
theorem dX3_onSplit_67 : decode cX3_onSplit 67 = .ok (.invokevirtual 98, 3) := by decide +kernel
theorem dX3_onSplit_70 : decode cX3_onSplit 70 = .ok (.istore 4, 2) := by decide +kernel
theorem dX3_onSplit_72 : decode cX3_onSplit 72 = .ok (.iload 4, 2) := by decide +kernel
theorem dX3_onSplit_74 : decode cX3_onSplit 74 = .ok (.iload_n 3, 1) := by decide +kernel
theorem dX3_onSplit_75 : decode cX3_onSplit 75 = .ok (.if_icmp .le 11, 3) := by decide +kernel
theorem dX3_onSplit_78 : decode cX3_onSplit 78 = .ok (.aload_n 0, 1) := by decide +kernel
theorem dX3_onSplit_79 : decode cX3_onSplit 79 = .ok (.aload_n 1, 1) := by decide +kernel
theorem dX3_onSplit_80 : decode cX3_onSplit 80 = .ok (.invokevirtual 76, 3) := by decide +kernel
theorem dX3_onSplit_83 : decode cX3_onSplit 83 = .ok (.goto 11, 3) := by decide +kernel
theorem dX3_onSplit_86 : decode cX3_onSplit 86 = .ok (.aload_n 0, 1) := by decide +kernel
theorem dX3_onSplit_87 : decode cX3_onSplit 87 = .ok (.bipush 6, 2) := by decide +kernel
theorem dX3_onSplit_89 : decode cX3_onSplit 89 = .ok (.iload 4, 2) := by decide +kernel
theorem dX3_onSplit_91 : decode cX3_onSplit 91 = .ok (.invokevirtual 60, 3) := by decide +kernel
theorem dX3_onSplit_94 : decode cX3_onSplit 94 = .ok (.ireturn, 1) := by decide +kernel
theorem dX3_onMix_0 : decode cX3_onMix 0 = .ok (.aload_n 1, 1) := by decide +kernel
theorem dX3_onMix_1 : decode cX3_onMix 1 = .ok (.getfield 35, 3) := by decide +kernel
theorem dX3_onMix_4 : decode cX3_onMix 4 = .ok (.astore 4, 2) := by decide +kernel
theorem dX3_onMix_6 : decode cX3_onMix 6 = .ok (.aload 4, 2) := by decide +kernel
theorem dX3_onMix_8 : decode cX3_onMix 8 = .ok (.iload_n 2, 1) := by decide +kernel
theorem dX3_onMix_9 : decode cX3_onMix 9 = .ok (.invokevirtual 41, 3) := by decide +kernel
theorem dX3_onMix_12 : decode cX3_onMix 12 = .ok (.ifCond .eq 12, 3) := by decide +kernel
theorem dX3_onMix_15 : decode cX3_onMix 15 = .ok (.aload 4, 2) := by decide +kernel
theorem dX3_onMix_17 : decode cX3_onMix 17 = .ok (.iload_n 3, 1) := by decide +kernel
theorem dX3_onMix_18 : decode cX3_onMix 18 = .ok (.invokevirtual 41, 3) := by decide +kernel
theorem dX3_onMix_21 : decode cX3_onMix 21 = .ok (.ifCond .ne 5, 3) := by decide +kernel
theorem dX3_onMix_24 : decode cX3_onMix 24 = .ok (.iconst (-1), 1) := by decide +kernel
theorem dX3_onMix_25 : decode cX3_onMix 25 = .ok (.ireturn, 1) := by decide +kernel
theorem dX3_onMix_26 : decode cX3_onMix 26 = .ok (.iload_n 2, 1) := by decide +kernel
theorem dX3_onMix_27 : decode cX3_onMix 27 = .ok (.iload_n 3, 1) := by decide +kernel
theorem dX3_onMix_28 : decode cX3_onMix 28 = .ok (.if_icmp .ne 6, 3) := by decide +kernel
theorem dX3_onMix_31 : decode cX3_onMix 31 = .ok (.bipush (-3), 2) := by decide +kernel
theorem dX3_onMix_33 : decode cX3_onMix 33 = .ok (.ireturn, 1) := by decide +kernel
theorem dX3_onMix_34 : decode cX3_onMix 34 = .ok (.aload 4, 2) := by decide +kernel
theorem dX3_onMix_36 : decode cX3_onMix 36 = .ok (.iload_n 2, 1) := by decide +kernel
theorem dX3_onMix_37 : decode cX3_onMix 37 = .ok (.invokevirtual 88, 3) := by decide +kernel
theorem dX3_onMix_40 : decode cX3_onMix 40 = .ok (.ifCond .eq 12, 3) := by decide +kernel
theorem dX3_onMix_43 : decode cX3_onMix 43 = .ok (.aload 4, 2) := by decide +kernel
theorem dX3_onMix_45 : decode cX3_onMix 45 = .ok (.iload_n 3, 1) := by decide +kernel
theorem dX3_onMix_46 : decode cX3_onMix 46 = .ok (.invokevirtual 88, 3) := by decide +kernel
theorem dX3_onMix_49 : decode cX3_onMix 49 = .ok (.ifCond .ne 23, 3) := by decide +kernel
theorem dX3_onMix_52 : decode cX3_onMix 52 = .ok (.aload_n 0, 1) := by decide +kernel
theorem dX3_onMix_53 : decode cX3_onMix 53 = .ok (.iconst 5, 1) := by decide +kernel
theorem dX3_onMix_54 : decode cX3_onMix 54 = .ok (.aload 4, 2) := by decide +kernel
theorem dX3_onMix_56 : decode cX3_onMix 56 = .ok (.iload_n 2, 1) := by decide +kernel
theorem dX3_onMix_57 : decode cX3_onMix 57 = .ok (.invokevirtual 88, 3) := by decide +kernel
theorem dX3_onMix_60 : decode cX3_onMix 60 = .ok (.ifCond .eq 7, 3) := by decide +kernel
theorem dX3_onMix_63 : decode cX3_onMix 63 = .ok (.iload_n 3, 1) := by decide +kernel
theorem dX3_onMix_64 : decode cX3_onMix 64 = .ok (.goto 4, 3) := by decide +kernel
theorem dX3_onMix_67 : decode cX3_onMix 67 = .ok (.iload_n 2, 1) := by decide +kernel
theorem dX3_onMix_68 : decode cX3_onMix 68 = .ok (.invokevirtual 60, 3) := by decide +kernel
theorem dX3_onMix_71 : decode cX3_onMix 71 = .ok (.ireturn, 1) := by decide +kernel
theorem dX3_onMix_72 : decode cX3_onMix 72 = .ok (.aload_n 1, 1) := by decide +kernel
theorem dX3_onMix_73 : decode cX3_onMix 73 = .ok (.iload_n 2, 1) := by decide +kernel
theorem dX3_onMix_74 : decode cX3_onMix 74 = .ok (.invokevirtual 91, 3) := by decide +kernel
theorem dX3_onMix_77 : decode cX3_onMix 77 = .ok (.ifCond .ne 11, 3) := by decide +kernel
theorem dX3_onMix_80 : decode cX3_onMix 80 = .ok (.aload_n 1, 1) := by decide +kernel
theorem dX3_onMix_81 : decode cX3_onMix 81 = .ok (.iload_n 3, 1) := by decide +kernel
theorem dX3_onMix_82 : decode cX3_onMix 82 = .ok (.invokevirtual 91, 3) := by decide +kernel
theorem dX3_onMix_85 : decode cX3_onMix 85 = .ok (.ifCond .eq 22, 3) := by decide +kernel
theorem dX3_onMix_88 : decode cX3_onMix 88 = .ok (.aload_n 0, 1) := by decide +kernel
theorem dX3_onMix_89 : decode cX3_onMix 89 = .ok (.iconst 3, 1) := by decide +kernel
theorem dX3_onMix_90 : decode cX3_onMix 90 = .ok (.aload_n 1, 1) := by decide +kernel
theorem dX3_onMix_91 : decode cX3_onMix 91 = .ok (.iload_n 2, 1) := by decide +kernel
theorem dX3_onMix_92 : decode cX3_onMix 92 = .ok (.invokevirtual 91, 3) := by decide +kernel
theorem dX3_onMix_95 : decode cX3_onMix 95 = .ok (.ifCond .eq 7, 3) := by decide +kernel
theorem dX3_onMix_98 : decode cX3_onMix 98 = .ok (.iload_n 2, 1) := by decide +kernel
theorem dX3_onMix_99 : decode cX3_onMix 99 = .ok (.goto 4, 3) := by decide +kernel
theorem dX3_onMix_102 : decode cX3_onMix 102 = .ok (.iload_n 3, 1) := by decide +kernel
theorem dX3_onMix_103 : decode cX3_onMix 103 = .ok (.invokevirtual 60, 3) := by decide +kernel
theorem dX3_onMix_106 : decode cX3_onMix 106 = .ok (.ireturn, 1) := by decide +kernel
theorem dX3_onMix_107 : decode cX3_onMix 107 = .ok (.aload 4, 2) := by decide +kernel
theorem dX3_onMix_109 : decode cX3_onMix 109 = .ok (.getfield 104, 3) := by decide +kernel
theorem dX3_onMix_112 : decode cX3_onMix 112 = .ok (.iload_n 3, 1) := by decide +kernel
theorem dX3_onMix_113 : decode cX3_onMix 113 = .ok (.invokevirtual 98, 3) := by decide +kernel
theorem dX3_onMix_116 : decode cX3_onMix 116 = .ok (.istore 5, 2) := by decide +kernel
theorem dX3_onMix_118 : decode cX3_onMix 118 = .ok (.aload 4, 2) := by decide +kernel
theorem dX3_onMix_120 : decode cX3_onMix 120 = .ok (.getfield 104, 3) := by decide +kernel
theorem dX3_onMix_123 : decode cX3_onMix 123 = .ok (.iload_n 2, 1) := by decide +kernel
theorem dX3_onMix_124 : decode cX3_onMix 124 = .ok (.invokevirtual 98, 3) := by decide +kernel
theorem dX3_onMix_127 : decode cX3_onMix 127 = .ok (.iload 5, 2) := by decide +kernel
theorem dX3_onMix_129 : decode cX3_onMix 129 = .ok (.if_icmp .ne 24, 3) := by decide +kernel
theorem dX3_onMix_132 : decode cX3_onMix 132 = .ok (.aload 4, 2) := by decide +kernel
theorem dX3_onMix_134 : decode cX3_onMix 134 = .ok (.getfield 107, 3) := by decide +kernel
theorem dX3_onMix_137 : decode cX3_onMix 137 = .ok (.iload_n 2, 1) := by decide +kernel
theorem dX3_onMix_138 : decode cX3_onMix 138 = .ok (.invokevirtual 98, 3) := by decide +kernel
theorem dX3_onMix_141 : decode cX3_onMix 141 = .ok (.aload 4, 2) := by decide +kernel
theorem dX3_onMix_143 : decode cX3_onMix 143 = .ok (.getfield 107, 3) := by decide +kernel
theorem dX3_onMix_146 : decode cX3_onMix 146 = .ok (.iload_n 3, 1) := by decide +kernel
theorem dX3_onMix_147 : decode cX3_onMix 147 = .ok (.invokevirtual 98, 3) := by decide +kernel
theorem dX3_onMix_150 : decode cX3_onMix 150 = .ok (.if_icmp .eq 11, 3) := by decide +kernel
theorem dX3_onMix_153 : decode cX3_onMix 153 = .ok (.aload_n 0, 1) := by decide +kernel
theorem dX3_onMix_154 : decode cX3_onMix 154 = .ok (.iconst 4, 1) := by decide +kernel
theorem dX3_onMix_155 : decode cX3_onMix 155 = .ok (.iload 5, 2) := by decide +kernel
theorem dX3_onMix_157 : decode cX3_onMix 157 = .ok (.invokevirtual 60, 3) := by decide +kernel
theorem dX3_onMix_160 : decode cX3_onMix 160 = .ok (.ireturn, 1) := by decide +kernel
theorem dX3_onMix_161 : decode cX3_onMix 161 = .ok (.aload_n 0, 1) := by decide +kernel
theorem dX3_onMix_162 : decode cX3_onMix 162 = .ok (.aload_n 1, 1) := by decide +kernel
theorem dX3_onMix_163 : decode cX3_onMix 163 = .ok (.invokevirtual 85, 3) := by decide +kernel
theorem dX3_onMix_166 : decode cX3_onMix 166 = .ok (.ifCond .eq 5, 3) := by decide +kernel
theorem dX3_onMix_169 : decode cX3_onMix 169 = .ok (.iconst 1, 1) := by decide +kernel
theorem dX3_onMix_170 : decode cX3_onMix 170 = .ok (.ireturn, 1) := by decide +kernel
theorem dX3_onMix_171 : decode cX3_onMix 171 = .ok (.aload 4, 2) := by decide +kernel
theorem dX3_onMix_173 : decode cX3_onMix 173 = .ok (.getfield 94, 3) := by decide +kernel
theorem dX3_onMix_176 : decode cX3_onMix 176 = .ok (.iload_n 2, 1) := by decide +kernel
theorem dX3_onMix_177 : decode cX3_onMix 177 = .ok (.invokevirtual 98, 3) := by decide +kernel
theorem dX3_onMix_180 : decode cX3_onMix 180 = .ok (.aload 4, 2) := by decide +kernel
theorem dX3_onMix_182 : decode cX3_onMix 182 = .ok (.getfield 94, 3) := by decide +kernel
theorem dX3_onMix_185 : decode cX3_onMix 185 = .ok (.iload_n 3, 1) := by decide +kernel
theorem dX3_onMix_186 : decode cX3_onMix 186 = .ok (.invokevirtual 98, 3) := by decide +kernel
theorem dX3_onMix_189 : decode cX3_onMix 189 = .ok (.iadd, 1) := by decide +kernel
theorem dX3_onMix_190 : decode cX3_onMix 190 = .ok (.istore 6, 2) := by decide +kernel
theorem dX3_onMix_192 : decode cX3_onMix 192 = .ok (.aload_n 1, 1) := by decide +kernel
theorem dX3_onMix_193 : decode cX3_onMix 193 = .ok (.iload 5, 2) := by decide +kernel
theorem dX3_onMix_195 : decode cX3_onMix 195 = .ok (.iload 6, 2) := by decide +kernel
theorem dX3_onMix_197 : decode cX3_onMix 197 = .ok (.iload_n 2, 1) := by decide +kernel
theorem dX3_onMix_198 : decode cX3_onMix 198 = .ok (.iload_n 3, 1) := by decide +kernel
theorem dX3_onMix_199 : decode cX3_onMix 199 = .ok (.invokevirtual 80, 3) := by decide +kernel
theorem dX3_onMix_202 : decode cX3_onMix 202 = .ok (.iconst (-1), 1) := by decide +kernel
theorem dX3_onMix_203 : decode cX3_onMix 203 = .ok (.if_icmp .eq 7, 3) := by decide +kernel
theorem dX3_onMix_206 : decode cX3_onMix 206 = .ok (.iconst 0, 1) := by decide +kernel
theorem dX3_onMix_207 : decode cX3_onMix 207 = .ok (.goto 10, 3) := by decide +kernel
theorem dX3_onMix_210 : decode cX3_onMix 210 = .ok (.aload_n 0, 1) := by decide +kernel
theorem dX3_onMix_211 : decode cX3_onMix 211 = .ok (.iconst 2, 1) := by decide +kernel
theorem dX3_onMix_212 : decode cX3_onMix 212 = .ok (.iload 6, 2) := by decide +kernel
theorem dX3_onMix_214 : decode cX3_onMix 214 = .ok (.invokevirtual 60, 3) := by decide +kernel
theorem dX3_onMix_217 : decode cX3_onMix 217 = .ok (.ireturn, 1) := by decide +kernel
theorem dX3_onMove_0 : decode cX3_onMove 0 = .ok (.aload_n 1, 1) := by decide +kernel
theorem dX3_onMove_1 : decode cX3_onMove 1 = .ok (.getfield 35, 3) := by decide +kernel
theorem dX3_onMove_4 : decode cX3_onMove 4 = .ok (.iload_n 2, 1) := by decide +kernel
theorem dX3_onMove_5 : decode cX3_onMove 5 = .ok (.invokevirtual 41, 3) := by decide +kernel
theorem dX3_onMove_8 : decode cX3_onMove 8 = .ok (.ifCond .ne 5, 3) := by decide +kernel
theorem dX3_onMove_11 : decode cX3_onMove 11 = .ok (.iconst (-1), 1) := by decide +kernel
theorem dX3_onMove_12 : decode cX3_onMove 12 = .ok (.ireturn, 1) := by decide +kernel
theorem dX3_onMove_13 : decode cX3_onMove 13 = .ok (.aload_n 1, 1) := by decide +kernel
theorem dX3_onMove_14 : decode cX3_onMove 14 = .ok (.getfield 64, 3) := by decide +kernel
theorem dX3_onMove_17 : decode cX3_onMove 17 = .ok (.iload_n 3, 1) := by decide +kernel
theorem dX3_onMove_18 : decode cX3_onMove 18 = .ok (.invokevirtual 68, 3) := by decide +kernel
theorem dX3_onMove_21 : decode cX3_onMove 21 = .ok (.ifCond .ne 6, 3) := by decide +kernel
theorem dX3_onMove_24 : decode cX3_onMove 24 = .ok (.bipush (-2), 2) := by decide +kernel
theorem dX3_onMove_26 : decode cX3_onMove 26 = .ok (.ireturn, 1) := by decide +kernel
theorem dX3_onMove_27 : decode cX3_onMove 27 = .ok (.aload_n 1, 1) := by decide +kernel
theorem dX3_onMove_28 : decode cX3_onMove 28 = .ok (.getfield 35, 3) := by decide +kernel
theorem dX3_onMove_31 : decode cX3_onMove 31 = .ok (.iload_n 2, 1) := by decide +kernel
theorem dX3_onMove_32 : decode cX3_onMove 32 = .ok (.invokevirtual 88, 3) := by decide +kernel
theorem dX3_onMove_35 : decode cX3_onMove 35 = .ok (.ifCond .ne 10, 3) := by decide +kernel
theorem dX3_onMove_38 : decode cX3_onMove 38 = .ok (.aload_n 0, 1) := by decide +kernel
theorem dX3_onMove_39 : decode cX3_onMove 39 = .ok (.iconst 5, 1) := by decide +kernel
theorem dX3_onMove_40 : decode cX3_onMove 40 = .ok (.iload_n 2, 1) := by decide +kernel
theorem dX3_onMove_41 : decode cX3_onMove 41 = .ok (.invokevirtual 60, 3) := by decide +kernel
theorem dX3_onMove_44 : decode cX3_onMove 44 = .ok (.ireturn, 1) := by decide +kernel
theorem dX3_onMove_45 : decode cX3_onMove 45 = .ok (.aload_n 1, 1) := by decide +kernel
theorem dX3_onMove_46 : decode cX3_onMove 46 = .ok (.iload_n 2, 1) := by decide +kernel
theorem dX3_onMove_47 : decode cX3_onMove 47 = .ok (.invokevirtual 91, 3) := by decide +kernel
theorem dX3_onMove_50 : decode cX3_onMove 50 = .ok (.ifCond .eq 10, 3) := by decide +kernel
theorem dX3_onMove_53 : decode cX3_onMove 53 = .ok (.aload_n 0, 1) := by decide +kernel
theorem dX3_onMove_54 : decode cX3_onMove 54 = .ok (.iconst 3, 1) := by decide +kernel
theorem dX3_onMove_55 : decode cX3_onMove 55 = .ok (.iload_n 2, 1) := by decide +kernel
theorem dX3_onMove_56 : decode cX3_onMove 56 = .ok (.invokevirtual 60, 3) := by decide +kernel
theorem dX3_onMove_59 : decode cX3_onMove 59 = .ok (.ireturn, 1) := by decide +kernel
theorem dX3_onMove_60 : decode cX3_onMove 60 = .ok (.aload_n 1, 1) := by decide +kernel
theorem dX3_onMove_61 : decode cX3_onMove 61 = .ok (.getfield 64, 3) := by decide +kernel
theorem dX3_onMove_64 : decode cX3_onMove 64 = .ok (.getfield 110, 3) := by decide +kernel
theorem dX3_onMove_67 : decode cX3_onMove 67 = .ok (.iload_n 3, 1) := by decide +kernel
theorem dX3_onMove_68 : decode cX3_onMove 68 = .ok (.invokevirtual 98, 3) := by decide +kernel
theorem dX3_onMove_71 : decode cX3_onMove 71 = .ok (.istore 4, 2) := by decide +kernel
theorem dX3_onMove_73 : decode cX3_onMove 73 = .ok (.aload_n 1, 1) := by decide +kernel
theorem dX3_onMove_74 : decode cX3_onMove 74 = .ok (.getfield 35, 3) := by decide +kernel
theorem dX3_onMove_77 : decode cX3_onMove 77 = .ok (.getfield 104, 3) := by decide +kernel
theorem dX3_onMove_80 : decode cX3_onMove 80 = .ok (.iload_n 2, 1) := by decide +kernel
theorem dX3_onMove_81 : decode cX3_onMove 81 = .ok (.invokevirtual 98, 3) := by decide +kernel
theorem dX3_onMove_84 : decode cX3_onMove 84 = .ok (.iload 4, 2) := by decide +kernel
theorem dX3_onMove_86 : decode cX3_onMove 86 = .ok (.if_icmp .eq 11, 3) := by decide +kernel
theorem dX3_onMove_89 : decode cX3_onMove 89 = .ok (.aload_n 0, 1) := by decide +kernel
theorem dX3_onMove_90 : decode cX3_onMove 90 = .ok (.iconst 4, 1) := by decide +kernel
theorem dX3_onMove_91 : decode cX3_onMove 91 = .ok (.iload 4, 2) := by decide +kernel
theorem dX3_onMove_93 : decode cX3_onMove 93 = .ok (.invokevirtual 60, 3) := by decide +kernel
theorem dX3_onMove_96 : decode cX3_onMove 96 = .ok (.ireturn, 1) := by decide +kernel
theorem dX3_onMove_97 : decode cX3_onMove 97 = .ok (.aload_n 1, 1) := by decide +kernel
theorem dX3_onMove_98 : decode cX3_onMove 98 = .ok (.getfield 35, 3) := by decide +kernel
theorem dX3_onMove_101 : decode cX3_onMove 101 = .ok (.getfield 94, 3) := by decide +kernel
theorem dX3_onMove_104 : decode cX3_onMove 104 = .ok (.iload_n 2, 1) := by decide +kernel
theorem dX3_onMove_105 : decode cX3_onMove 105 = .ok (.invokevirtual 98, 3) := by decide +kernel
theorem dX3_onMove_108 : decode cX3_onMove 108 = .ok (.istore 5, 2) := by decide +kernel
theorem dX3_onMove_110 : decode cX3_onMove 110 = .ok (.aload_n 1, 1) := by decide +kernel
theorem dX3_onMove_111 : decode cX3_onMove 111 = .ok (.iload_n 3, 1) := by decide +kernel
theorem dX3_onMove_112 : decode cX3_onMove 112 = .ok (.iload_n 2, 1) := by decide +kernel
theorem dX3_onMove_113 : decode cX3_onMove 113 = .ok (.iconst (-1), 1) := by decide +kernel
theorem dX3_onMove_114 : decode cX3_onMove 114 = .ok (.invokevirtual 111, 3) := by decide +kernel
theorem dX3_onMove_117 : decode cX3_onMove 117 = .ok (.iload 5, 2) := by decide +kernel
theorem dX3_onMove_119 : decode cX3_onMove 119 = .ok (.if_icmp .lt 7, 3) := by decide +kernel
theorem dX3_onMove_122 : decode cX3_onMove 122 = .ok (.iconst 0, 1) := by decide +kernel
theorem dX3_onMove_123 : decode cX3_onMove 123 = .ok (.goto 10, 3) := by decide +kernel
theorem dX3_onMove_126 : decode cX3_onMove 126 = .ok (.aload_n 0, 1) := by decide +kernel
theorem dX3_onMove_127 : decode cX3_onMove 127 = .ok (.iconst 2, 1) := by decide +kernel
theorem dX3_onMove_128 : decode cX3_onMove 128 = .ok (.iload 5, 2) := by decide +kernel
theorem dX3_onMove_130 : decode cX3_onMove 130 = .ok (.invokevirtual 60, 3) := by decide +kernel
theorem dX3_onMove_133 : decode cX3_onMove 133 = .ok (.ireturn, 1) := by decide +kernel
theorem dX3_onShip_0 : decode cX3_onShip 0 = .ok (.iload_n 2, 1) := by decide +kernel
theorem dX3_onShip_1 : decode cX3_onShip 1 = .ok (.iconst 0, 1) := by decide +kernel
theorem dX3_onShip_2 : decode cX3_onShip 2 = .ok (.iconst 5, 1) := by decide +kernel
theorem dX3_onShip_3 : decode cX3_onShip 3 = .ok (.invokestatic 71, 3) := by decide +kernel
theorem dX3_onShip_6 : decode cX3_onShip 6 = .ok (.ifCond .eq 13, 3) := by decide +kernel
theorem dX3_onShip_9 : decode cX3_onShip 9 = .ok (.iload_n 3, 1) := by decide +kernel
theorem dX3_onShip_10 : decode cX3_onShip 10 = .ok (.iconst 1, 1) := by decide +kernel
theorem dX3_onShip_11 : decode cX3_onShip 11 = .ok (.bipush 99, 2) := by decide +kernel
theorem dX3_onShip_13 : decode cX3_onShip 13 = .ok (.invokestatic 71, 3) := by decide +kernel
theorem dX3_onShip_16 : decode cX3_onShip 16 = .ok (.ifCond .ne 6, 3) := by decide +kernel
theorem dX3_onShip_19 : decode cX3_onShip 19 = .ok (.bipush (-3), 2) := by decide +kernel
theorem dX3_onShip_21 : decode cX3_onShip 21 = .ok (.ireturn, 1) := by decide +kernel
theorem dX3_onShip_22 : decode cX3_onShip 22 = .ok (.aload_n 1, 1) := by decide +kernel
theorem dX3_onShip_23 : decode cX3_onShip 23 = .ok (.iload_n 2, 1) := by decide +kernel
theorem dX3_onShip_24 : decode cX3_onShip 24 = .ok (.invokevirtual 115, 3) := by decide +kernel
theorem dX3_onShip_27 : decode cX3_onShip 27 = .ok (.istore 4, 2) := by decide +kernel
theorem dX3_onShip_29 : decode cX3_onShip 29 = .ok (.iload 4, 2) := by decide +kernel
theorem dX3_onShip_31 : decode cX3_onShip 31 = .ok (.iload_n 3, 1) := by decide +kernel
theorem dX3_onShip_32 : decode cX3_onShip 32 = .ok (.if_icmp .lt 7, 3) := by decide +kernel
theorem dX3_onShip_35 : decode cX3_onShip 35 = .ok (.iconst 0, 1) := by decide +kernel
theorem dX3_onShip_36 : decode cX3_onShip 36 = .ok (.goto 11, 3) := by decide +kernel
theorem dX3_onShip_39 : decode cX3_onShip 39 = .ok (.aload_n 0, 1) := by decide +kernel
theorem dX3_onShip_40 : decode cX3_onShip 40 = .ok (.bipush 6, 2) := by decide +kernel
theorem dX3_onShip_42 : decode cX3_onShip 42 = .ok (.iload 4, 2) := by decide +kernel
theorem dX3_onShip_44 : decode cX3_onShip 44 = .ok (.invokevirtual 60, 3) := by decide +kernel
theorem dX3_onShip_47 : decode cX3_onShip 47 = .ok (.ireturn, 1) := by decide +kernel
theorem dX4_init_0 : decode cX4_init 0 = .ok (.aload_n 0, 1) := by decide +kernel
theorem dX4_init_1 : decode cX4_init 1 = .ok (.invokespecial 3, 3) := by decide +kernel
theorem dX4_init_4 : decode cX4_init 4 = .ok (.aload_n 0, 1) := by decide +kernel
theorem dX4_init_5 : decode cX4_init 5 = .ok (.bipush 8, 2) := by decide +kernel
theorem dX4_init_7 : decode cX4_init 7 = .ok (.anewarray 9, 3) := by decide +kernel
theorem dX4_init_10 : decode cX4_init 10 = .ok (.putfield 11, 3) := by decide +kernel
theorem dX4_init_13 : decode cX4_init 13 = .ok (.aload_n 0, 1) := by decide +kernel
theorem dX4_init_14 : decode cX4_init 14 = .ok (.iconst 0, 1) := by decide +kernel
theorem dX4_init_15 : decode cX4_init 15 = .ok (.putfield 17, 3) := by decide +kernel
theorem dX4_init_18 : decode cX4_init 18 = .ok (.aload_n 0, 1) := by decide +kernel
theorem dX4_init_19 : decode cX4_init 19 = .ok (.iconst 0, 1) := by decide +kernel
theorem dX4_init_20 : decode cX4_init 20 = .ok (.putfield 21, 3) := by decide +kernel
theorem dX4_init_23 : decode cX4_init 23 = .ok (.iconst 0, 1) := by decide +kernel
theorem dX4_init_24 : decode cX4_init 24 = .ok (.istore_n 1, 1) := by decide +kernel
theorem dX4_init_25 : decode cX4_init 25 = .ok (.iload_n 1, 1) := by decide +kernel
theorem dX4_init_26 : decode cX4_init 26 = .ok (.aload_n 0, 1) := by decide +kernel
theorem dX4_init_27 : decode cX4_init 27 = .ok (.getfield 11, 3) := by decide +kernel
theorem dX4_init_30 : decode cX4_init 30 = .ok (.arraylength, 1) := by decide +kernel
theorem dX4_init_31 : decode cX4_init 31 = .ok (.if_icmp .ge 22, 3) := by decide +kernel
theorem dX4_init_34 : decode cX4_init 34 = .ok (.aload_n 0, 1) := by decide +kernel
theorem dX4_init_35 : decode cX4_init 35 = .ok (.getfield 11, 3) := by decide +kernel
theorem dX4_init_38 : decode cX4_init 38 = .ok (.iload_n 1, 1) := by decide +kernel
theorem dX4_init_39 : decode cX4_init 39 = .ok (.new 9, 3) := by decide +kernel
theorem dX4_init_42 : decode cX4_init 42 = .ok (.dup, 1) := by decide +kernel
theorem dX4_init_43 : decode cX4_init 43 = .ok (.invokespecial 24, 3) := by decide +kernel
theorem dX4_init_46 : decode cX4_init 46 = .ok (.aastore, 1) := by decide +kernel
theorem dX4_init_47 : decode cX4_init 47 = .ok (.iinc 1 1, 3) := by decide +kernel
theorem dX4_init_50 : decode cX4_init 50 = .ok (.goto (-25), 3) := by decide +kernel
theorem dX4_init_53 : decode cX4_init 53 = .ok (.return_, 1) := by decide +kernel
theorem dX4_keep_0 : decode cX4_keep 0 = .ok (.aload_n 0, 1) := by decide +kernel
theorem dX4_keep_1 : decode cX4_keep 1 = .ok (.getfield 17, 3) := by decide +kernel
theorem dX4_keep_4 : decode cX4_keep 4 = .ok (.ifCond .lt 40, 3) := by decide +kernel
theorem dX4_keep_7 : decode cX4_keep 7 = .ok (.aload_n 0, 1) := by decide +kernel
theorem dX4_keep_8 : decode cX4_keep 8 = .ok (.getfield 17, 3) := by decide +kernel
theorem dX4_keep_11 : decode cX4_keep 11 = .ok (.aload_n 0, 1) := by decide +kernel
theorem dX4_keep_12 : decode cX4_keep 12 = .ok (.getfield 11, 3) := by decide +kernel
theorem dX4_keep_15 : decode cX4_keep 15 = .ok (.arraylength, 1) := by decide +kernel
theorem dX4_keep_16 : decode cX4_keep 16 = .ok (.if_icmp .ge 28, 3) := by decide +kernel
theorem dX4_keep_19 : decode cX4_keep 19 = .ok (.aload_n 0, 1) := by decide +kernel
theorem dX4_keep_20 : decode cX4_keep 20 = .ok (.getfield 11, 3) := by decide +kernel
theorem dX4_keep_23 : decode cX4_keep 23 = .ok (.aload_n 0, 1) := by decide +kernel
theorem dX4_keep_24 : decode cX4_keep 24 = .ok (.getfield 17, 3) := by decide +kernel
theorem dX4_keep_27 : decode cX4_keep 27 = .ok (.aaload, 1) := by decide +kernel
theorem dX4_keep_28 : decode cX4_keep 28 = .ok (.ifnull 16, 3) := by decide +kernel
theorem dX4_keep_31 : decode cX4_keep 31 = .ok (.aload_n 0, 1) := by decide +kernel
theorem dX4_keep_32 : decode cX4_keep 32 = .ok (.getfield 11, 3) := by decide +kernel
theorem dX4_keep_35 : decode cX4_keep 35 = .ok (.aload_n 0, 1) := by decide +kernel
theorem dX4_keep_36 : decode cX4_keep 36 = .ok (.getfield 17, 3) := by decide +kernel
theorem dX4_keep_39 : decode cX4_keep 39 = .ok (.aaload, 1) := by decide +kernel
theorem dX4_keep_40 : decode cX4_keep 40 = .ok (.aload_n 1, 1) := by decide +kernel
theorem dX4_keep_41 : decode cX4_keep 41 = .ok (.invokevirtual 25, 3) := by decide +kernel
theorem dX4_keep_44 : decode cX4_keep 44 = .ok (.aload_n 0, 1) := by decide +kernel
theorem dX4_keep_45 : decode cX4_keep 45 = .ok (.aload_n 0, 1) := by decide +kernel
theorem dX4_keep_46 : decode cX4_keep 46 = .ok (.getfield 17, 3) := by decide +kernel
theorem dX4_keep_49 : decode cX4_keep 49 = .ok (.iconst 1, 1) := by decide +kernel
theorem dX4_keep_50 : decode cX4_keep 50 = .ok (.iadd, 1) := by decide +kernel
theorem dX4_keep_51 : decode cX4_keep 51 = .ok (.bipush 8, 2) := by decide +kernel
theorem dX4_keep_53 : decode cX4_keep 53 = .ok (.irem, 1) := by decide +kernel
theorem dX4_keep_54 : decode cX4_keep 54 = .ok (.putfield 17, 3) := by decide +kernel
theorem dX4_keep_57 : decode cX4_keep 57 = .ok (.aload_n 0, 1) := by decide +kernel
theorem dX4_keep_58 : decode cX4_keep 58 = .ok (.aload_n 0, 1) := by decide +kernel
theorem dX4_keep_59 : decode cX4_keep 59 = .ok (.getfield 21, 3) := by decide +kernel
theorem dX4_keep_62 : decode cX4_keep 62 = .ok (.iconst 1, 1) := by decide +kernel
theorem dX4_keep_63 : decode cX4_keep 63 = .ok (.iadd, 1) := by decide +kernel
theorem dX4_keep_64 : decode cX4_keep 64 = .ok (.bipush 8, 2) := by decide +kernel
theorem dX4_keep_66 : decode cX4_keep 66 = .ok (.invokestatic 29, 3) := by decide +kernel
theorem dX4_keep_69 : decode cX4_keep 69 = .ok (.putfield 21, 3) := by decide +kernel
theorem dX4_keep_72 : decode cX4_keep 72 = .ok (.return_, 1) := by decide +kernel
theorem dX4_giveBack_0 : decode cX4_giveBack 0 = .ok (.aload_n 0, 1) := by decide +kernel
theorem dX4_giveBack_1 : decode cX4_giveBack 1 = .ok (.aload_n 0, 1) := by decide +kernel
theorem dX4_giveBack_2 : decode cX4_giveBack 2 = .ok (.getfield 17, 3) := by decide +kernel
theorem dX4_giveBack_5 : decode cX4_giveBack 5 = .ok (.bipush 8, 2) := by decide +kernel
theorem dX4_giveBack_7 : decode cX4_giveBack 7 = .ok (.iadd, 1) := by decide +kernel
theorem dX4_giveBack_8 : decode cX4_giveBack 8 = .ok (.iconst 1, 1) := by decide +kernel
theorem dX4_giveBack_9 : decode cX4_giveBack 9 = .ok (.isub, 1) := by decide +kernel
theorem dX4_giveBack_10 : decode cX4_giveBack 10 = .ok (.bipush 8, 2) := by decide +kernel
theorem dX4_giveBack_12 : decode cX4_giveBack 12 = .ok (.irem, 1) := by decide +kernel
theorem dX4_giveBack_13 : decode cX4_giveBack 13 = .ok (.putfield 17, 3) := by decide +kernel
theorem dX4_giveBack_16 : decode cX4_giveBack 16 = .ok (.aload_n 0, 1) := by decide +kernel
theorem dX4_giveBack_17 : decode cX4_giveBack 17 = .ok (.dup, 1) := by decide +kernel
theorem dX4_giveBack_18 : decode cX4_giveBack 18 = .ok (.getfield 21, 3) := by decide +kernel
theorem dX4_giveBack_21 : decode cX4_giveBack 21 = .ok (.iconst 1, 1) := by decide +kernel
theorem dX4_giveBack_22 : decode cX4_giveBack 22 = .ok (.isub, 1) := by decide +kernel
theorem dX4_giveBack_23 : decode cX4_giveBack 23 = .ok (.putfield 21, 3) := by decide +kernel
theorem dX4_giveBack_26 : decode cX4_giveBack 26 = .ok (.aload_n 0, 1) := by decide +kernel
theorem dX4_giveBack_27 : decode cX4_giveBack 27 = .ok (.getfield 17, 3) := by decide +kernel
theorem dX4_giveBack_30 : decode cX4_giveBack 30 = .ok (.ifCond .lt 40, 3) := by decide +kernel
theorem dX4_giveBack_33 : decode cX4_giveBack 33 = .ok (.aload_n 0, 1) := by decide +kernel
theorem dX4_giveBack_34 : decode cX4_giveBack 34 = .ok (.getfield 17, 3) := by decide +kernel
theorem dX4_giveBack_37 : decode cX4_giveBack 37 = .ok (.aload_n 0, 1) := by decide +kernel
theorem dX4_giveBack_38 : decode cX4_giveBack 38 = .ok (.getfield 11, 3) := by decide +kernel
theorem dX4_giveBack_41 : decode cX4_giveBack 41 = .ok (.arraylength, 1) := by decide +kernel
theorem dX4_giveBack_42 : decode cX4_giveBack 42 = .ok (.if_icmp .ge 28, 3) := by decide +kernel
theorem dX4_giveBack_45 : decode cX4_giveBack 45 = .ok (.aload_n 0, 1) := by decide +kernel
theorem dX4_giveBack_46 : decode cX4_giveBack 46 = .ok (.getfield 11, 3) := by decide +kernel
theorem dX4_giveBack_49 : decode cX4_giveBack 49 = .ok (.aload_n 0, 1) := by decide +kernel
theorem dX4_giveBack_50 : decode cX4_giveBack 50 = .ok (.getfield 17, 3) := by decide +kernel
theorem dX4_giveBack_53 : decode cX4_giveBack 53 = .ok (.aaload, 1) := by decide +kernel
theorem dX4_giveBack_54 : decode cX4_giveBack 54 = .ok (.ifnull 16, 3) := by decide +kernel
theorem dX4_giveBack_57 : decode cX4_giveBack 57 = .ok (.aload_n 1, 1) := by decide +kernel
theorem dX4_giveBack_58 : decode cX4_giveBack 58 = .ok (.aload_n 0, 1) := by decide +kernel
theorem dX4_giveBack_59 : decode cX4_giveBack 59 = .ok (.getfield 11, 3) := by decide +kernel
theorem dX4_giveBack_62 : decode cX4_giveBack 62 = .ok (.aload_n 0, 1) := by decide +kernel
theorem dX4_giveBack_63 : decode cX4_giveBack 63 = .ok (.getfield 17, 3) := by decide +kernel
theorem dX4_giveBack_66 : decode cX4_giveBack 66 = .ok (.aaload, 1) := by decide +kernel
theorem dX4_giveBack_67 : decode cX4_giveBack 67 = .ok (.invokevirtual 25, 3) := by decide +kernel
theorem dX4_giveBack_70 : decode cX4_giveBack 70 = .ok (.return_, 1) := by decide +kernel
theorem dX4_forget_0 : decode cX4_forget 0 = .ok (.aload_n 0, 1) := by decide +kernel
theorem dX4_forget_1 : decode cX4_forget 1 = .ok (.iconst 0, 1) := by decide +kernel
theorem dX4_forget_2 : decode cX4_forget 2 = .ok (.putfield 21, 3) := by decide +kernel
theorem dX4_forget_5 : decode cX4_forget 5 = .ok (.return_, 1) := by decide +kernel
theorem dX5_init_0 : decode cX5_init 0 = .ok (.aload_n 0, 1) := by decide +kernel
theorem dX5_init_1 : decode cX5_init 1 = .ok (.invokespecial 3, 3) := by decide +kernel
theorem dX5_init_4 : decode cX5_init 4 = .ok (.aload_n 0, 1) := by decide +kernel
theorem dX5_init_5 : decode cX5_init 5 = .ok (.new 9, 3) := by decide +kernel
theorem dX5_init_8 : decode cX5_init 8 = .ok (.dup, 1) := by decide +kernel
theorem dX5_init_9 : decode cX5_init 9 = .ok (.bipush 20, 2) := by decide +kernel
theorem dX5_init_11 : decode cX5_init 11 = .ok (.invokespecial 11, 3) := by decide +kernel
theorem dX5_init_14 : decode cX5_init 14 = .ok (.putfield 14, 3) := by decide +kernel
theorem dX5_init_17 : decode cX5_init 17 = .ok (.aload_n 0, 1) := by decide +kernel
theorem dX5_init_18 : decode cX5_init 18 = .ok (.new 9, 3) := by decide +kernel
theorem dX5_init_21 : decode cX5_init 21 = .ok (.dup, 1) := by decide +kernel
theorem dX5_init_22 : decode cX5_init 22 = .ok (.bipush 20, 2) := by decide +kernel
theorem dX5_init_24 : decode cX5_init 24 = .ok (.invokespecial 11, 3) := by decide +kernel
theorem dX5_init_27 : decode cX5_init 27 = .ok (.putfield 20, 3) := by decide +kernel
theorem dX5_init_30 : decode cX5_init 30 = .ok (.aload_n 0, 1) := by decide +kernel
theorem dX5_init_31 : decode cX5_init 31 = .ok (.new 9, 3) := by decide +kernel
theorem dX5_init_34 : decode cX5_init 34 = .ok (.dup, 1) := by decide +kernel
theorem dX5_init_35 : decode cX5_init 35 = .ok (.bipush 20, 2) := by decide +kernel
theorem dX5_init_37 : decode cX5_init 37 = .ok (.invokespecial 11, 3) := by decide +kernel
theorem dX5_init_40 : decode cX5_init 40 = .ok (.putfield 23, 3) := by decide +kernel
theorem dX5_init_43 : decode cX5_init 43 = .ok (.aload_n 0, 1) := by decide +kernel
theorem dX5_init_44 : decode cX5_init 44 = .ok (.new 9, 3) := by decide +kernel
theorem dX5_init_47 : decode cX5_init 47 = .ok (.dup, 1) := by decide +kernel
theorem dX5_init_48 : decode cX5_init 48 = .ok (.bipush 20, 2) := by decide +kernel
theorem dX5_init_50 : decode cX5_init 50 = .ok (.invokespecial 11, 3) := by decide +kernel
theorem dX5_init_53 : decode cX5_init 53 = .ok (.putfield 26, 3) := by decide +kernel
theorem dX5_init_56 : decode cX5_init 56 = .ok (.aload_n 0, 1) := by decide +kernel
theorem dX5_init_57 : decode cX5_init 57 = .ok (.new 9, 3) := by decide +kernel
theorem dX5_init_60 : decode cX5_init 60 = .ok (.dup, 1) := by decide +kernel
theorem dX5_init_61 : decode cX5_init 61 = .ok (.bipush 20, 2) := by decide +kernel
theorem dX5_init_63 : decode cX5_init 63 = .ok (.invokespecial 11, 3) := by decide +kernel
theorem dX5_init_66 : decode cX5_init 66 = .ok (.putfield 29, 3) := by decide +kernel
theorem dX5_init_69 : decode cX5_init 69 = .ok (.aload_n 0, 1) := by decide +kernel
theorem dX5_init_70 : decode cX5_init 70 = .ok (.new 9, 3) := by decide +kernel
theorem dX5_init_73 : decode cX5_init 73 = .ok (.dup, 1) := by decide +kernel
theorem dX5_init_74 : decode cX5_init 74 = .ok (.bipush 20, 2) := by decide +kernel
theorem dX5_init_76 : decode cX5_init 76 = .ok (.invokespecial 11, 3) := by decide +kernel
theorem dX5_init_79 : decode cX5_init 79 = .ok (.putfield 32, 3) := by decide +kernel
theorem dX5_init_82 : decode cX5_init 82 = .ok (.aload_n 0, 1) := by decide +kernel
theorem dX5_init_83 : decode cX5_init 83 = .ok (.new 9, 3) := by decide +kernel
theorem dX5_init_86 : decode cX5_init 86 = .ok (.dup, 1) := by decide +kernel
theorem dX5_init_87 : decode cX5_init 87 = .ok (.bipush 20, 2) := by decide +kernel
theorem dX5_init_89 : decode cX5_init 89 = .ok (.invokespecial 11, 3) := by decide +kernel
theorem dX5_init_92 : decode cX5_init 92 = .ok (.putfield 35, 3) := by decide +kernel
theorem dX5_init_95 : decode cX5_init 95 = .ok (.aload_n 0, 1) := by decide +kernel
theorem dX5_init_96 : decode cX5_init 96 = .ok (.iconst 0, 1) := by decide +kernel
theorem dX5_init_97 : decode cX5_init 97 = .ok (.putfield 38, 3) := by decide +kernel
theorem dX5_init_100 : decode cX5_init 100 = .ok (.return_, 1) := by decide +kernel
theorem dX5_copyFrom_0 : decode cX5_copyFrom 0 = .ok (.aload_n 0, 1) := by decide +kernel
theorem dX5_copyFrom_1 : decode cX5_copyFrom 1 = .ok (.getfield 14, 3) := by decide +kernel
theorem dX5_copyFrom_4 : decode cX5_copyFrom 4 = .ok (.aload_n 1, 1) := by decide +kernel
theorem dX5_copyFrom_5 : decode cX5_copyFrom 5 = .ok (.getfield 14, 3) := by decide +kernel
theorem dX5_copyFrom_8 : decode cX5_copyFrom 8 = .ok (.invokevirtual 42, 3) := by decide +kernel
theorem dX5_copyFrom_11 : decode cX5_copyFrom 11 = .ok (.aload_n 0, 1) := by decide +kernel
theorem dX5_copyFrom_12 : decode cX5_copyFrom 12 = .ok (.getfield 20, 3) := by decide +kernel
theorem dX5_copyFrom_15 : decode cX5_copyFrom 15 = .ok (.aload_n 1, 1) := by decide +kernel
theorem dX5_copyFrom_16 : decode cX5_copyFrom 16 = .ok (.getfield 20, 3) := by decide +kernel
theorem dX5_copyFrom_19 : decode cX5_copyFrom 19 = .ok (.invokevirtual 42, 3) := by decide +kernel
theorem dX5_copyFrom_22 : decode cX5_copyFrom 22 = .ok (.aload_n 0, 1) := by decide +kernel
theorem dX5_copyFrom_23 : decode cX5_copyFrom 23 = .ok (.getfield 23, 3) := by decide +kernel
theorem dX5_copyFrom_26 : decode cX5_copyFrom 26 = .ok (.aload_n 1, 1) := by decide +kernel
theorem dX5_copyFrom_27 : decode cX5_copyFrom 27 = .ok (.getfield 23, 3) := by decide +kernel
theorem dX5_copyFrom_30 : decode cX5_copyFrom 30 = .ok (.invokevirtual 42, 3) := by decide +kernel
theorem dX5_copyFrom_33 : decode cX5_copyFrom 33 = .ok (.aload_n 0, 1) := by decide +kernel
theorem dX5_copyFrom_34 : decode cX5_copyFrom 34 = .ok (.getfield 26, 3) := by decide +kernel
theorem dX5_copyFrom_37 : decode cX5_copyFrom 37 = .ok (.aload_n 1, 1) := by decide +kernel
theorem dX5_copyFrom_38 : decode cX5_copyFrom 38 = .ok (.getfield 26, 3) := by decide +kernel
theorem dX5_copyFrom_41 : decode cX5_copyFrom 41 = .ok (.invokevirtual 42, 3) := by decide +kernel
theorem dX5_copyFrom_44 : decode cX5_copyFrom 44 = .ok (.aload_n 0, 1) := by decide +kernel
theorem dX5_copyFrom_45 : decode cX5_copyFrom 45 = .ok (.getfield 29, 3) := by decide +kernel
theorem dX5_copyFrom_48 : decode cX5_copyFrom 48 = .ok (.aload_n 1, 1) := by decide +kernel
theorem dX5_copyFrom_49 : decode cX5_copyFrom 49 = .ok (.getfield 29, 3) := by decide +kernel
theorem dX5_copyFrom_52 : decode cX5_copyFrom 52 = .ok (.invokevirtual 42, 3) := by decide +kernel
theorem dX5_copyFrom_55 : decode cX5_copyFrom 55 = .ok (.aload_n 0, 1) := by decide +kernel
theorem dX5_copyFrom_56 : decode cX5_copyFrom 56 = .ok (.getfield 32, 3) := by decide +kernel
theorem dX5_copyFrom_59 : decode cX5_copyFrom 59 = .ok (.aload_n 1, 1) := by decide +kernel
theorem dX5_copyFrom_60 : decode cX5_copyFrom 60 = .ok (.getfield 32, 3) := by decide +kernel
theorem dX5_copyFrom_63 : decode cX5_copyFrom 63 = .ok (.invokevirtual 42, 3) := by decide +kernel
theorem dX5_copyFrom_66 : decode cX5_copyFrom 66 = .ok (.aload_n 0, 1) := by decide +kernel
theorem dX5_copyFrom_67 : decode cX5_copyFrom 67 = .ok (.getfield 35, 3) := by decide +kernel
theorem dX5_copyFrom_70 : decode cX5_copyFrom 70 = .ok (.aload_n 1, 1) := by decide +kernel
theorem dX5_copyFrom_71 : decode cX5_copyFrom 71 = .ok (.getfield 35, 3) := by decide +kernel
theorem dX5_copyFrom_74 : decode cX5_copyFrom 74 = .ok (.invokevirtual 42, 3) := by decide +kernel
theorem dX5_copyFrom_77 : decode cX5_copyFrom 77 = .ok (.aload_n 0, 1) := by decide +kernel
theorem dX5_copyFrom_78 : decode cX5_copyFrom 78 = .ok (.aload_n 1, 1) := by decide +kernel
theorem dX5_copyFrom_79 : decode cX5_copyFrom 79 = .ok (.getfield 38, 3) := by decide +kernel
theorem dX5_copyFrom_82 : decode cX5_copyFrom 82 = .ok (.putfield 38, 3) := by decide +kernel
theorem dX5_copyFrom_85 : decode cX5_copyFrom 85 = .ok (.return_, 1) := by decide +kernel
theorem dX5_has_0 : decode cX5_has 0 = .ok (.iload_n 1, 1) := by decide +kernel
theorem dX5_has_1 : decode cX5_has 1 = .ok (.ifCond .lt 15, 3) := by decide +kernel
theorem dX5_has_4 : decode cX5_has 4 = .ok (.iload_n 1, 1) := by decide +kernel
theorem dX5_has_5 : decode cX5_has 5 = .ok (.aload_n 0, 1) := by decide +kernel
theorem dX5_has_6 : decode cX5_has 6 = .ok (.getfield 38, 3) := by decide +kernel
theorem dX5_has_9 : decode cX5_has 9 = .ok (.if_icmp .ge 7, 3) := by decide +kernel
theorem dX5_has_12 : decode cX5_has 12 = .ok (.iconst 1, 1) := by decide +kernel
theorem dX5_has_13 : decode cX5_has 13 = .ok (.goto 4, 3) := by decide +kernel
theorem dX5_has_16 : decode cX5_has 16 = .ok (.iconst 0, 1) := by decide +kernel
theorem dX5_has_17 : decode cX5_has 17 = .ok (.ireturn, 1) := by decide +kernel
theorem dX5_add_0 : decode cX5_add 0 = .ok (.aload_n 0, 1) := by decide +kernel
theorem dX5_add_1 : decode cX5_add 1 = .ok (.getfield 38, 3) := by decide +kernel
theorem dX5_add_4 : decode cX5_add 4 = .ok (.istore 6, 2) := by decide +kernel
theorem dX5_add_6 : decode cX5_add 6 = .ok (.aload_n 0, 1) := by decide +kernel
theorem dX5_add_7 : decode cX5_add 7 = .ok (.getfield 14, 3) := by decide +kernel
theorem dX5_add_10 : decode cX5_add 10 = .ok (.iload 6, 2) := by decide +kernel
theorem dX5_add_12 : decode cX5_add 12 = .ok (.iload_n 1, 1) := by decide +kernel
theorem dX5_add_13 : decode cX5_add 13 = .ok (.invokevirtual 46, 3) := by decide +kernel
theorem dX5_add_16 : decode cX5_add 16 = .ok (.aload_n 0, 1) := by decide +kernel
theorem dX5_add_17 : decode cX5_add 17 = .ok (.getfield 20, 3) := by decide +kernel
theorem dX5_add_20 : decode cX5_add 20 = .ok (.iload 6, 2) := by decide +kernel
theorem dX5_add_22 : decode cX5_add 22 = .ok (.iload_n 2, 1) := by decide +kernel
theorem dX5_add_23 : decode cX5_add 23 = .ok (.invokevirtual 46, 3) := by decide +kernel
theorem dX5_add_26 : decode cX5_add 26 = .ok (.aload_n 0, 1) := by decide +kernel
theorem dX5_add_27 : decode cX5_add 27 = .ok (.getfield 23, 3) := by decide +kernel
theorem dX5_add_30 : decode cX5_add 30 = .ok (.iload 6, 2) := by decide +kernel
theorem dX5_add_32 : decode cX5_add 32 = .ok (.iload_n 3, 1) := by decide +kernel
theorem dX5_add_33 : decode cX5_add 33 = .ok (.invokevirtual 46, 3) := by decide +kernel
theorem dX5_add_36 : decode cX5_add 36 = .ok (.aload_n 0, 1) := by decide +kernel
theorem dX5_add_37 : decode cX5_add 37 = .ok (.getfield 26, 3) := by decide +kernel
theorem dX5_add_40 : decode cX5_add 40 = .ok (.iload 6, 2) := by decide +kernel
theorem dX5_add_42 : decode cX5_add 42 = .ok (.iload 4, 2) := by decide +kernel
theorem dX5_add_44 : decode cX5_add 44 = .ok (.invokevirtual 46, 3) := by decide +kernel
theorem dX5_add_47 : decode cX5_add 47 = .ok (.aload_n 0, 1) := by decide +kernel
theorem dX5_add_48 : decode cX5_add 48 = .ok (.getfield 29, 3) := by decide +kernel
theorem dX5_add_51 : decode cX5_add 51 = .ok (.iload 6, 2) := by decide +kernel
theorem dX5_add_53 : decode cX5_add 53 = .ok (.iload 5, 2) := by decide +kernel
theorem dX5_add_55 : decode cX5_add 55 = .ok (.invokevirtual 46, 3) := by decide +kernel
theorem dX5_add_58 : decode cX5_add 58 = .ok (.aload_n 0, 1) := by decide +kernel
theorem dX5_add_59 : decode cX5_add 59 = .ok (.getfield 32, 3) := by decide +kernel
theorem dX5_add_62 : decode cX5_add 62 = .ok (.iload 6, 2) := by decide +kernel
theorem dX5_add_64 : decode cX5_add 64 = .ok (.iconst (-1), 1) := by decide +kernel
theorem dX5_add_65 : decode cX5_add 65 = .ok (.invokevirtual 46, 3) := by decide +kernel
theorem dX5_add_68 : decode cX5_add 68 = .ok (.aload_n 0, 1) := by decide +kernel
theorem dX5_add_69 : decode cX5_add 69 = .ok (.getfield 35, 3) := by decide +kernel
theorem dX5_add_72 : decode cX5_add 72 = .ok (.iload 6, 2) := by decide +kernel
theorem dX5_add_74 : decode cX5_add 74 = .ok (.iconst (-1), 1) := by decide +kernel
theorem dX5_add_75 : decode cX5_add 75 = .ok (.invokevirtual 46, 3) := by decide +kernel
theorem dX5_add_78 : decode cX5_add 78 = .ok (.aload_n 0, 1) := by decide +kernel
theorem dX5_add_79 : decode cX5_add 79 = .ok (.dup, 1) := by decide +kernel
theorem dX5_add_80 : decode cX5_add 80 = .ok (.getfield 38, 3) := by decide +kernel
theorem dX5_add_83 : decode cX5_add 83 = .ok (.iconst 1, 1) := by decide +kernel
theorem dX5_add_84 : decode cX5_add 84 = .ok (.iadd, 1) := by decide +kernel
theorem dX5_add_85 : decode cX5_add 85 = .ok (.putfield 38, 3) := by decide +kernel
theorem dX5_add_88 : decode cX5_add 88 = .ok (.iload 6, 2) := by decide +kernel
theorem dX5_add_90 : decode cX5_add 90 = .ok (.ireturn, 1) := by decide +kernel
theorem dX5_setParents_0 : decode cX5_setParents 0 = .ok (.aload_n 0, 1) := by decide +kernel
theorem dX5_setParents_1 : decode cX5_setParents 1 = .ok (.getfield 32, 3) := by decide +kernel
theorem dX5_setParents_4 : decode cX5_setParents 4 = .ok (.iload_n 1, 1) := by decide +kernel
theorem dX5_setParents_5 : decode cX5_setParents 5 = .ok (.iload_n 2, 1) := by decide +kernel
theorem dX5_setParents_6 : decode cX5_setParents 6 = .ok (.invokevirtual 46, 3) := by decide +kernel
theorem dX5_setParents_9 : decode cX5_setParents 9 = .ok (.aload_n 0, 1) := by decide +kernel
theorem dX5_setParents_10 : decode cX5_setParents 10 = .ok (.getfield 35, 3) := by decide +kernel
theorem dX5_setParents_13 : decode cX5_setParents 13 = .ok (.iload_n 1, 1) := by decide +kernel
theorem dX5_setParents_14 : decode cX5_setParents 14 = .ok (.iload_n 3, 1) := by decide +kernel
theorem dX5_setParents_15 : decode cX5_setParents 15 = .ok (.invokevirtual 46, 3) := by decide +kernel
theorem dX5_setParents_18 : decode cX5_setParents 18 = .ok (.return_, 1) := by decide +kernel
theorem dX5_remove_0 : decode cX5_remove 0 = .ok (.aload_n 0, 1) := by decide +kernel
theorem dX5_remove_1 : decode cX5_remove 1 = .ok (.getfield 23, 3) := by decide +kernel
theorem dX5_remove_4 : decode cX5_remove 4 = .ok (.iload_n 1, 1) := by decide +kernel
theorem dX5_remove_5 : decode cX5_remove 5 = .ok (.iconst 0, 1) := by decide +kernel
theorem dX5_remove_6 : decode cX5_remove 6 = .ok (.invokevirtual 46, 3) := by decide +kernel
theorem dX5_remove_9 : decode cX5_remove 9 = .ok (.aload_n 0, 1) := by decide +kernel
theorem dX5_remove_10 : decode cX5_remove 10 = .ok (.getfield 29, 3) := by decide +kernel
theorem dX5_remove_13 : decode cX5_remove 13 = .ok (.iload_n 1, 1) := by decide +kernel
theorem dX5_remove_14 : decode cX5_remove 14 = .ok (.bipush (-2), 2) := by decide +kernel
theorem dX5_remove_16 : decode cX5_remove 16 = .ok (.invokevirtual 46, 3) := by decide +kernel
theorem dX5_remove_19 : decode cX5_remove 19 = .ok (.return_, 1) := by decide +kernel
theorem dX5_isShelved_0 : decode cX5_isShelved 0 = .ok (.aload_n 0, 1) := by decide +kernel
theorem dX5_isShelved_1 : decode cX5_isShelved 1 = .ok (.getfield 29, 3) := by decide +kernel
theorem dX5_isShelved_4 : decode cX5_isShelved 4 = .ok (.iload_n 1, 1) := by decide +kernel
theorem dX5_isShelved_5 : decode cX5_isShelved 5 = .ok (.invokevirtual 50, 3) := by decide +kernel
theorem dX5_isShelved_8 : decode cX5_isShelved 8 = .ok (.ifCond .lt 7, 3) := by decide +kernel
theorem dX5_isShelved_11 : decode cX5_isShelved 11 = .ok (.iconst 1, 1) := by decide +kernel
theorem dX5_isShelved_12 : decode cX5_isShelved 12 = .ok (.goto 4, 3) := by decide +kernel
theorem dX5_isShelved_15 : decode cX5_isShelved 15 = .ok (.iconst 0, 1) := by decide +kernel
theorem dX5_isShelved_16 : decode cX5_isShelved 16 = .ok (.ireturn, 1) := by decide +kernel
theorem dX5_parentsOf_0 : decode cX5_parentsOf 0 = .ok (.aload_n 0, 1) := by decide +kernel
theorem dX5_parentsOf_1 : decode cX5_parentsOf 1 = .ok (.getfield 32, 3) := by decide +kernel
theorem dX5_parentsOf_4 : decode cX5_parentsOf 4 = .ok (.iload_n 1, 1) := by decide +kernel
theorem dX5_parentsOf_5 : decode cX5_parentsOf 5 = .ok (.invokevirtual 50, 3) := by decide +kernel
theorem dX5_parentsOf_8 : decode cX5_parentsOf 8 = .ok (.iconst (-1), 1) := by decide +kernel
theorem dX5_parentsOf_9 : decode cX5_parentsOf 9 = .ok (.if_icmp .ne 7, 3) := by decide +kernel
theorem dX5_parentsOf_12 : decode cX5_parentsOf 12 = .ok (.iconst 0, 1) := by decide +kernel
theorem dX5_parentsOf_13 : decode cX5_parentsOf 13 = .ok (.goto 4, 3) := by decide +kernel
theorem dX5_parentsOf_16 : decode cX5_parentsOf 16 = .ok (.iconst 1, 1) := by decide +kernel
theorem dX5_parentsOf_17 : decode cX5_parentsOf 17 = .ok (.aload_n 0, 1) := by decide +kernel
theorem dX5_parentsOf_18 : decode cX5_parentsOf 18 = .ok (.getfield 35, 3) := by decide +kernel
theorem dX5_parentsOf_21 : decode cX5_parentsOf 21 = .ok (.iload_n 1, 1) := by decide +kernel
theorem dX5_parentsOf_22 : decode cX5_parentsOf 22 = .ok (.invokevirtual 50, 3) := by decide +kernel
theorem dX5_parentsOf_25 : decode cX5_parentsOf 25 = .ok (.iconst (-1), 1) := by decide +kernel
theorem dX5_parentsOf_26 : decode cX5_parentsOf 26 = .ok (.if_icmp .ne 7, 3) := by decide +kernel
theorem dX5_parentsOf_29 : decode cX5_parentsOf 29 = .ok (.iconst 0, 1) := by decide +kernel
theorem dX5_parentsOf_30 : decode cX5_parentsOf 30 = .ok (.goto 4, 3) := by decide +kernel
theorem dX5_parentsOf_33 : decode cX5_parentsOf 33 = .ok (.iconst 1, 1) := by decide +kernel
theorem dX5_parentsOf_34 : decode cX5_parentsOf 34 = .ok (.iadd, 1) := by decide +kernel
theorem dX5_parentsOf_35 : decode cX5_parentsOf 35 = .ok (.ireturn, 1) := by decide +kernel
theorem dX5_isParent_0 : decode cX5_isParent 0 = .ok (.aload_n 0, 1) := by decide +kernel
theorem dX5_isParent_1 : decode cX5_isParent 1 = .ok (.getfield 32, 3) := by decide +kernel
theorem dX5_isParent_4 : decode cX5_isParent 4 = .ok (.iload_n 2, 1) := by decide +kernel
theorem dX5_isParent_5 : decode cX5_isParent 5 = .ok (.invokevirtual 50, 3) := by decide +kernel
theorem dX5_isParent_8 : decode cX5_isParent 8 = .ok (.iload_n 1, 1) := by decide +kernel
theorem dX5_isParent_9 : decode cX5_isParent 9 = .ok (.if_icmp .eq 15, 3) := by decide +kernel
theorem dX5_isParent_12 : decode cX5_isParent 12 = .ok (.aload_n 0, 1) := by decide +kernel
theorem dX5_isParent_13 : decode cX5_isParent 13 = .ok (.getfield 35, 3) := by decide +kernel
theorem dX5_isParent_16 : decode cX5_isParent 16 = .ok (.iload_n 2, 1) := by decide +kernel
theorem dX5_isParent_17 : decode cX5_isParent 17 = .ok (.invokevirtual 50, 3) := by decide +kernel
theorem dX5_isParent_20 : decode cX5_isParent 20 = .ok (.iload_n 1, 1) := by decide +kernel
theorem dX5_isParent_21 : decode cX5_isParent 21 = .ok (.if_icmp .ne 7, 3) := by decide +kernel
theorem dX5_isParent_24 : decode cX5_isParent 24 = .ok (.iconst 1, 1) := by decide +kernel
theorem dX5_isParent_25 : decode cX5_isParent 25 = .ok (.goto 4, 3) := by decide +kernel
theorem dX5_isParent_28 : decode cX5_isParent 28 = .ok (.iconst 0, 1) := by decide +kernel
theorem dX5_isParent_29 : decode cX5_isParent 29 = .ok (.ireturn, 1) := by decide +kernel
theorem dX5_countAt_0 : decode cX5_countAt 0 = .ok (.iconst 0, 1) := by decide +kernel
theorem dX5_countAt_1 : decode cX5_countAt 1 = .ok (.istore_n 2, 1) := by decide +kernel
theorem dX5_countAt_2 : decode cX5_countAt 2 = .ok (.iconst 0, 1) := by decide +kernel
theorem dX5_countAt_3 : decode cX5_countAt 3 = .ok (.istore_n 3, 1) := by decide +kernel
theorem dX5_countAt_4 : decode cX5_countAt 4 = .ok (.iload_n 3, 1) := by decide +kernel
theorem dX5_countAt_5 : decode cX5_countAt 5 = .ok (.aload_n 0, 1) := by decide +kernel
theorem dX5_countAt_6 : decode cX5_countAt 6 = .ok (.getfield 38, 3) := by decide +kernel
theorem dX5_countAt_9 : decode cX5_countAt 9 = .ok (.if_icmp .ge 24, 3) := by decide +kernel
theorem dX5_countAt_12 : decode cX5_countAt 12 = .ok (.aload_n 0, 1) := by decide +kernel
theorem dX5_countAt_13 : decode cX5_countAt 13 = .ok (.getfield 29, 3) := by decide +kernel
theorem dX5_countAt_16 : decode cX5_countAt 16 = .ok (.iload_n 3, 1) := by decide +kernel
theorem dX5_countAt_17 : decode cX5_countAt 17 = .ok (.invokevirtual 50, 3) := by decide +kernel
theorem dX5_countAt_20 : decode cX5_countAt 20 = .ok (.iload_n 1, 1) := by decide +kernel
theorem dX5_countAt_21 : decode cX5_countAt 21 = .ok (.if_icmp .ne 6, 3) := by decide +kernel
theorem dX5_countAt_24 : decode cX5_countAt 24 = .ok (.iinc 2 1, 3) := by decide +kernel
theorem dX5_countAt_27 : decode cX5_countAt 27 = .ok (.iinc 3 1, 3) := by decide +kernel
theorem dX5_countAt_30 : decode cX5_countAt 30 = .ok (.goto (-26), 3) := by decide +kernel
theorem dX5_countAt_33 : decode cX5_countAt 33 = .ok (.iload_n 2, 1) := by decide +kernel
theorem dX5_countAt_34 : decode cX5_countAt 34 = .ok (.ireturn, 1) := by decide +kernel
theorem dX5_volumeAt_0 : decode cX5_volumeAt 0 = .ok (.iconst 0, 1) := by decide +kernel
theorem dX5_volumeAt_1 : decode cX5_volumeAt 1 = .ok (.istore_n 2, 1) := by decide +kernel
theorem dX5_volumeAt_2 : decode cX5_volumeAt 2 = .ok (.iconst 0, 1) := by decide +kernel
theorem dX5_volumeAt_3 : decode cX5_volumeAt 3 = .ok (.istore_n 3, 1) := by decide +kernel
theorem dX5_volumeAt_4 : decode cX5_volumeAt 4 = .ok (.iload_n 3, 1) := by decide +kernel
theorem dX5_volumeAt_5 : decode cX5_volumeAt 5 = .ok (.aload_n 0, 1) := by decide +kernel
theorem dX5_volumeAt_6 : decode cX5_volumeAt 6 = .ok (.getfield 38, 3) := by decide +kernel
theorem dX5_volumeAt_9 : decode cX5_volumeAt 9 = .ok (.if_icmp .ge 32, 3) := by decide +kernel
theorem dX5_volumeAt_12 : decode cX5_volumeAt 12 = .ok (.aload_n 0, 1) := by decide +kernel
theorem dX5_volumeAt_13 : decode cX5_volumeAt 13 = .ok (.getfield 29, 3) := by decide +kernel
theorem dX5_volumeAt_16 : decode cX5_volumeAt 16 = .ok (.iload_n 3, 1) := by decide +kernel
theorem dX5_volumeAt_17 : decode cX5_volumeAt 17 = .ok (.invokevirtual 50, 3) := by decide +kernel
theorem dX5_volumeAt_20 : decode cX5_volumeAt 20 = .ok (.iload_n 1, 1) := by decide +kernel
theorem dX5_volumeAt_21 : decode cX5_volumeAt 21 = .ok (.if_icmp .ne 14, 3) := by decide +kernel
theorem dX5_volumeAt_24 : decode cX5_volumeAt 24 = .ok (.iload_n 2, 1) := by decide +kernel
theorem dX5_volumeAt_25 : decode cX5_volumeAt 25 = .ok (.aload_n 0, 1) := by decide +kernel
theorem dX5_volumeAt_26 : decode cX5_volumeAt 26 = .ok (.getfield 23, 3) := by decide +kernel
theorem dX5_volumeAt_29 : decode cX5_volumeAt 29 = .ok (.iload_n 3, 1) := by decide +kernel
theorem dX5_volumeAt_30 : decode cX5_volumeAt 30 = .ok (.invokevirtual 50, 3) := by decide +kernel
theorem dX5_volumeAt_33 : decode cX5_volumeAt 33 = .ok (.iadd, 1) := by decide +kernel
theorem dX5_volumeAt_34 : decode cX5_volumeAt 34 = .ok (.istore_n 2, 1) := by decide +kernel
theorem dX5_volumeAt_35 : decode cX5_volumeAt 35 = .ok (.iinc 3 1, 3) := by decide +kernel
theorem dX5_volumeAt_38 : decode cX5_volumeAt 38 = .ok (.goto (-34), 3) := by decide +kernel
theorem dX5_volumeAt_41 : decode cX5_volumeAt 41 = .ok (.iload_n 2, 1) := by decide +kernel
theorem dX5_volumeAt_42 : decode cX5_volumeAt 42 = .ok (.ireturn, 1) := by decide +kernel
theorem dX5_shelvedCount_0 : decode cX5_shelvedCount 0 = .ok (.iconst 0, 1) := by decide +kernel
theorem dX5_shelvedCount_1 : decode cX5_shelvedCount 1 = .ok (.istore_n 1, 1) := by decide +kernel
theorem dX5_shelvedCount_2 : decode cX5_shelvedCount 2 = .ok (.iconst 0, 1) := by decide +kernel
theorem dX5_shelvedCount_3 : decode cX5_shelvedCount 3 = .ok (.istore_n 2, 1) := by decide +kernel
theorem dX5_shelvedCount_4 : decode cX5_shelvedCount 4 = .ok (.iload_n 2, 1) := by decide +kernel
theorem dX5_shelvedCount_5 : decode cX5_shelvedCount 5 = .ok (.aload_n 0, 1) := by decide +kernel
theorem dX5_shelvedCount_6 : decode cX5_shelvedCount 6 = .ok (.getfield 38, 3) := by decide +kernel
theorem dX5_shelvedCount_9 : decode cX5_shelvedCount 9 = .ok (.if_icmp .ge 20, 3) := by decide +kernel
theorem dX5_shelvedCount_12 : decode cX5_shelvedCount 12 = .ok (.aload_n 0, 1) := by decide +kernel
theorem dX5_shelvedCount_13 : decode cX5_shelvedCount 13 = .ok (.iload_n 2, 1) := by decide +kernel
theorem dX5_shelvedCount_14 : decode cX5_shelvedCount 14 = .ok (.invokevirtual 54, 3) := by decide +kernel
theorem dX5_shelvedCount_17 : decode cX5_shelvedCount 17 = .ok (.ifCond .eq 6, 3) := by decide +kernel
theorem dX5_shelvedCount_20 : decode cX5_shelvedCount 20 = .ok (.iinc 1 1, 3) := by decide +kernel
theorem dX5_shelvedCount_23 : decode cX5_shelvedCount 23 = .ok (.iinc 2 1, 3) := by decide +kernel
theorem dX5_shelvedCount_26 : decode cX5_shelvedCount 26 = .ok (.goto (-22), 3) := by decide +kernel
theorem dX5_shelvedCount_29 : decode cX5_shelvedCount 29 = .ok (.iload_n 1, 1) := by decide +kernel
theorem dX5_shelvedCount_30 : decode cX5_shelvedCount 30 = .ok (.ireturn, 1) := by decide +kernel
theorem dX5_shelvedVolume_0 : decode cX5_shelvedVolume 0 = .ok (.iconst 0, 1) := by decide +kernel
theorem dX5_shelvedVolume_1 : decode cX5_shelvedVolume 1 = .ok (.istore_n 1, 1) := by decide +kernel
theorem dX5_shelvedVolume_2 : decode cX5_shelvedVolume 2 = .ok (.iconst 0, 1) := by decide +kernel
theorem dX5_shelvedVolume_3 : decode cX5_shelvedVolume 3 = .ok (.istore_n 2, 1) := by decide +kernel
theorem dX5_shelvedVolume_4 : decode cX5_shelvedVolume 4 = .ok (.iload_n 2, 1) := by decide +kernel
theorem dX5_shelvedVolume_5 : decode cX5_shelvedVolume 5 = .ok (.aload_n 0, 1) := by decide +kernel
theorem dX5_shelvedVolume_6 : decode cX5_shelvedVolume 6 = .ok (.getfield 38, 3) := by decide +kernel
theorem dX5_shelvedVolume_9 : decode cX5_shelvedVolume 9 = .ok (.if_icmp .ge 28, 3) := by decide +kernel
theorem dX5_shelvedVolume_12 : decode cX5_shelvedVolume 12 = .ok (.aload_n 0, 1) := by decide +kernel
theorem dX5_shelvedVolume_13 : decode cX5_shelvedVolume 13 = .ok (.iload_n 2, 1) := by decide +kernel
theorem dX5_shelvedVolume_14 : decode cX5_shelvedVolume 14 = .ok (.invokevirtual 54, 3) := by decide +kernel
theorem dX5_shelvedVolume_17 : decode cX5_shelvedVolume 17 = .ok (.ifCond .eq 14, 3) := by decide +kernel
theorem dX5_shelvedVolume_20 : decode cX5_shelvedVolume 20 = .ok (.iload_n 1, 1) := by decide +kernel
theorem dX5_shelvedVolume_21 : decode cX5_shelvedVolume 21 = .ok (.aload_n 0, 1) := by decide +kernel
theorem dX5_shelvedVolume_22 : decode cX5_shelvedVolume 22 = .ok (.getfield 23, 3) := by decide +kernel
theorem dX5_shelvedVolume_25 : decode cX5_shelvedVolume 25 = .ok (.iload_n 2, 1) := by decide +kernel
theorem dX5_shelvedVolume_26 : decode cX5_shelvedVolume 26 = .ok (.invokevirtual 50, 3) := by decide +kernel
theorem dX5_shelvedVolume_29 : decode cX5_shelvedVolume 29 = .ok (.iadd, 1) := by decide +kernel
theorem dX5_shelvedVolume_30 : decode cX5_shelvedVolume 30 = .ok (.istore_n 1, 1) := by decide +kernel
theorem dX5_shelvedVolume_31 : decode cX5_shelvedVolume 31 = .ok (.iinc 2 1, 3) := by decide +kernel
theorem dX5_shelvedVolume_34 : decode cX5_shelvedVolume 34 = .ok (.goto (-30), 3) := by decide +kernel
theorem dX5_shelvedVolume_37 : decode cX5_shelvedVolume 37 = .ok (.iload_n 1, 1) := by decide +kernel
theorem dX5_shelvedVolume_38 : decode cX5_shelvedVolume 38 = .ok (.ireturn, 1) := by decide +kernel
theorem dX5_expiresBefore_0 : decode cX5_expiresBefore 0 = .ok (.aload_n 0, 1) := by decide +kernel
theorem dX5_expiresBefore_1 : decode cX5_expiresBefore 1 = .ok (.getfield 26, 3) := by decide +kernel
theorem dX5_expiresBefore_4 : decode cX5_expiresBefore 4 = .ok (.iload_n 1, 1) := by decide +kernel
theorem dX5_expiresBefore_5 : decode cX5_expiresBefore 5 = .ok (.invokevirtual 50, 3) := by decide +kernel
theorem dX5_expiresBefore_8 : decode cX5_expiresBefore 8 = .ok (.istore_n 3, 1) := by decide +kernel
theorem dX5_expiresBefore_9 : decode cX5_expiresBefore 9 = .ok (.aload_n 0, 1) := by decide +kernel
theorem dX5_expiresBefore_10 : decode cX5_expiresBefore 10 = .ok (.getfield 26, 3) := by decide +kernel
theorem dX5_expiresBefore_13 : decode cX5_expiresBefore 13 = .ok (.iload_n 2, 1) := by decide +kernel
theorem dX5_expiresBefore_14 : decode cX5_expiresBefore 14 = .ok (.invokevirtual 50, 3) := by decide +kernel
theorem dX5_expiresBefore_17 : decode cX5_expiresBefore 17 = .ok (.istore 4, 2) := by decide +kernel
theorem dX5_expiresBefore_19 : decode cX5_expiresBefore 19 = .ok (.iload_n 3, 1) := by decide +kernel
theorem dX5_expiresBefore_20 : decode cX5_expiresBefore 20 = .ok (.iload 4, 2) := by decide +kernel
theorem dX5_expiresBefore_22 : decode cX5_expiresBefore 22 = .ok (.if_icmp .lt 14, 3) := by decide +kernel
theorem dX5_expiresBefore_25 : decode cX5_expiresBefore 25 = .ok (.iload_n 3, 1) := by decide +kernel
theorem dX5_expiresBefore_26 : decode cX5_expiresBefore 26 = .ok (.iload 4, 2) := by decide +kernel
theorem dX5_expiresBefore_28 : decode cX5_expiresBefore 28 = .ok (.if_icmp .ne 12, 3) := by decide +kernel
theorem dX5_expiresBefore_31 : decode cX5_expiresBefore 31 = .ok (.iload_n 1, 1) := by decide +kernel
theorem dX5_expiresBefore_32 : decode cX5_expiresBefore 32 = .ok (.iload_n 2, 1) := by decide +kernel
theorem dX5_expiresBefore_33 : decode cX5_expiresBefore 33 = .ok (.if_icmp .ge 7, 3) := by decide +kernel
theorem dX5_expiresBefore_36 : decode cX5_expiresBefore 36 = .ok (.iconst 1, 1) := by decide +kernel
theorem dX5_expiresBefore_37 : decode cX5_expiresBefore 37 = .ok (.goto 4, 3) := by decide +kernel
theorem dX5_expiresBefore_40 : decode cX5_expiresBefore 40 = .ok (.iconst 0, 1) := by decide +kernel
theorem dX5_expiresBefore_41 : decode cX5_expiresBefore 41 = .ok (.ireturn, 1) := by decide +kernel
theorem dX5_compostsBefore_0 : decode cX5_compostsBefore 0 = .ok (.aload_n 0, 1) := by decide +kernel
theorem dX5_compostsBefore_1 : decode cX5_compostsBefore 1 = .ok (.getfield 23, 3) := by decide +kernel
theorem dX5_compostsBefore_4 : decode cX5_compostsBefore 4 = .ok (.iload_n 1, 1) := by decide +kernel
theorem dX5_compostsBefore_5 : decode cX5_compostsBefore 5 = .ok (.invokevirtual 50, 3) := by decide +kernel
theorem dX5_compostsBefore_8 : decode cX5_compostsBefore 8 = .ok (.istore_n 3, 1) := by decide +kernel
theorem dX5_compostsBefore_9 : decode cX5_compostsBefore 9 = .ok (.aload_n 0, 1) := by decide +kernel
theorem dX5_compostsBefore_10 : decode cX5_compostsBefore 10 = .ok (.getfield 23, 3) := by decide +kernel
theorem dX5_compostsBefore_13 : decode cX5_compostsBefore 13 = .ok (.iload_n 2, 1) := by decide +kernel
theorem dX5_compostsBefore_14 : decode cX5_compostsBefore 14 = .ok (.invokevirtual 50, 3) := by decide +kernel
theorem dX5_compostsBefore_17 : decode cX5_compostsBefore 17 = .ok (.istore 4, 2) := by decide +kernel
theorem dX5_compostsBefore_19 : decode cX5_compostsBefore 19 = .ok (.iload_n 3, 1) := by decide +kernel
theorem dX5_compostsBefore_20 : decode cX5_compostsBefore 20 = .ok (.iload 4, 2) := by decide +kernel
theorem dX5_compostsBefore_22 : decode cX5_compostsBefore 22 = .ok (.if_icmp .eq 15, 3) := by decide +kernel
theorem dX5_compostsBefore_25 : decode cX5_compostsBefore 25 = .ok (.iload_n 3, 1) := by decide +kernel
theorem dX5_compostsBefore_26 : decode cX5_compostsBefore 26 = .ok (.iload 4, 2) := by decide +kernel
theorem dX5_compostsBefore_28 : decode cX5_compostsBefore 28 = .ok (.if_icmp .le 7, 3) := by decide +kernel
theorem dX5_compostsBefore_31 : decode cX5_compostsBefore 31 = .ok (.iconst 1, 1) := by decide +kernel
theorem dX5_compostsBefore_32 : decode cX5_compostsBefore 32 = .ok (.goto 4, 3) := by decide +kernel
theorem dX5_compostsBefore_35 : decode cX5_compostsBefore 35 = .ok (.iconst 0, 1) := by decide +kernel
theorem dX5_compostsBefore_36 : decode cX5_compostsBefore 36 = .ok (.ireturn, 1) := by decide +kernel
theorem dX5_compostsBefore_37 : decode cX5_compostsBefore 37 = .ok (.aload_n 0, 1) := by decide +kernel
theorem dX5_compostsBefore_38 : decode cX5_compostsBefore 38 = .ok (.getfield 26, 3) := by decide +kernel
theorem dX5_compostsBefore_41 : decode cX5_compostsBefore 41 = .ok (.iload_n 1, 1) := by decide +kernel
theorem dX5_compostsBefore_42 : decode cX5_compostsBefore 42 = .ok (.invokevirtual 50, 3) := by decide +kernel
theorem dX5_compostsBefore_45 : decode cX5_compostsBefore 45 = .ok (.istore 5, 2) := by decide +kernel
theorem dX5_compostsBefore_47 : decode cX5_compostsBefore 47 = .ok (.aload_n 0, 1) := by decide +kernel
theorem dX5_compostsBefore_48 : decode cX5_compostsBefore 48 = .ok (.getfield 26, 3) := by decide +kernel
theorem dX5_compostsBefore_51 : decode cX5_compostsBefore 51 = .ok (.iload_n 2, 1) := by decide +kernel
theorem dX5_compostsBefore_52 : decode cX5_compostsBefore 52 = .ok (.invokevirtual 50, 3) := by decide +kernel
theorem dX5_compostsBefore_55 : decode cX5_compostsBefore 55 = .ok (.istore 6, 2) := by decide +kernel
theorem dX5_compostsBefore_57 : decode cX5_compostsBefore 57 = .ok (.iload 5, 2) := by decide +kernel
theorem dX5_compostsBefore_59 : decode cX5_compostsBefore 59 = .ok (.iload 6, 2) := by decide +kernel
theorem dX5_compostsBefore_61 : decode cX5_compostsBefore 61 = .ok (.if_icmp .lt 15, 3) := by decide +kernel
theorem dX5_compostsBefore_64 : decode cX5_compostsBefore 64 = .ok (.iload 5, 2) := by decide +kernel
theorem dX5_compostsBefore_66 : decode cX5_compostsBefore 66 = .ok (.iload 6, 2) := by decide +kernel
theorem dX5_compostsBefore_68 : decode cX5_compostsBefore 68 = .ok (.if_icmp .ne 12, 3) := by decide +kernel
theorem dX5_compostsBefore_71 : decode cX5_compostsBefore 71 = .ok (.iload_n 1, 1) := by decide +kernel
theorem dX5_compostsBefore_72 : decode cX5_compostsBefore 72 = .ok (.iload_n 2, 1) := by decide +kernel
theorem dX5_compostsBefore_73 : decode cX5_compostsBefore 73 = .ok (.if_icmp .ge 7, 3) := by decide +kernel
theorem dX5_compostsBefore_76 : decode cX5_compostsBefore 76 = .ok (.iconst 1, 1) := by decide +kernel
theorem dX5_compostsBefore_77 : decode cX5_compostsBefore 77 = .ok (.goto 4, 3) := by decide +kernel
theorem dX5_compostsBefore_80 : decode cX5_compostsBefore 80 = .ok (.iconst 0, 1) := by decide +kernel
theorem dX5_compostsBefore_81 : decode cX5_compostsBefore 81 = .ok (.ireturn, 1) := by decide +kernel
theorem dX6_init_0 : decode cX6_init 0 = .ok (.aload_n 0, 1) := by decide +kernel
theorem dX6_init_1 : decode cX6_init 1 = .ok (.invokespecial 5, 3) := by decide +kernel
theorem dX6_init_4 : decode cX6_init 4 = .ok (.aload_n 0, 1) := by decide +kernel
theorem dX6_init_5 : decode cX6_init 5 = .ok (.new 11, 3) := by decide +kernel
theorem dX6_init_8 : decode cX6_init 8 = .ok (.dup, 1) := by decide +kernel
theorem dX6_init_9 : decode cX6_init 9 = .ok (.bipush 8, 2) := by decide +kernel
theorem dX6_init_11 : decode cX6_init 11 = .ok (.invokespecial 13, 3) := by decide +kernel
theorem dX6_init_14 : decode cX6_init 14 = .ok (.putfield 16, 3) := by decide +kernel
theorem dX6_init_17 : decode cX6_init 17 = .ok (.aload_n 0, 1) := by decide +kernel
theorem dX6_init_18 : decode cX6_init 18 = .ok (.new 11, 3) := by decide +kernel
theorem dX6_init_21 : decode cX6_init 21 = .ok (.dup, 1) := by decide +kernel
theorem dX6_init_22 : decode cX6_init 22 = .ok (.bipush 8, 2) := by decide +kernel
theorem dX6_init_24 : decode cX6_init 24 = .ok (.invokespecial 13, 3) := by decide +kernel
theorem dX6_init_27 : decode cX6_init 27 = .ok (.putfield 20, 3) := by decide +kernel
theorem dX6_init_30 : decode cX6_init 30 = .ok (.aload_n 0, 1) := by decide +kernel
theorem dX6_init_31 : decode cX6_init 31 = .ok (.new 11, 3) := by decide +kernel
theorem dX6_init_34 : decode cX6_init 34 = .ok (.dup, 1) := by decide +kernel
theorem dX6_init_35 : decode cX6_init 35 = .ok (.bipush 8, 2) := by decide +kernel
theorem dX6_init_37 : decode cX6_init 37 = .ok (.invokespecial 13, 3) := by decide +kernel
theorem dX6_init_40 : decode cX6_init 40 = .ok (.putfield 23, 3) := by decide +kernel
theorem dX6_init_43 : decode cX6_init 43 = .ok (.aload_n 0, 1) := by decide +kernel
theorem dX6_init_44 : decode cX6_init 44 = .ok (.new 11, 3) := by decide +kernel
theorem dX6_init_47 : decode cX6_init 47 = .ok (.dup, 1) := by decide +kernel
theorem dX6_init_48 : decode cX6_init 48 = .ok (.sipush 256, 3) := by decide +kernel
theorem dX6_init_51 : decode cX6_init 51 = .ok (.invokespecial 13, 3) := by decide +kernel
theorem dX6_init_54 : decode cX6_init 54 = .ok (.putfield 26, 3) := by decide +kernel
theorem dX6_init_57 : decode cX6_init 57 = .ok (.aload_n 0, 1) := by decide +kernel
theorem dX6_init_58 : decode cX6_init 58 = .ok (.iconst 0, 1) := by decide +kernel
theorem dX6_init_59 : decode cX6_init 59 = .ok (.putfield 29, 3) := by decide +kernel
theorem dX6_init_62 : decode cX6_init 62 = .ok (.aload_n 0, 1) := by decide +kernel
theorem dX6_init_63 : decode cX6_init 63 = .ok (.iconst 0, 1) := by decide +kernel
theorem dX6_init_64 : decode cX6_init 64 = .ok (.putfield 33, 3) := by decide +kernel
theorem dX6_init_67 : decode cX6_init 67 = .ok (.return_, 1) := by decide +kernel
theorem dX6_fewestBySets_0 : decode cX6_fewestBySets 0 = .ok (.aload_n 0, 1) := by decide +kernel
theorem dX6_fewestBySets_1 : decode cX6_fewestBySets 1 = .ok (.aload_n 1, 1) := by decide +kernel
theorem dX6_fewestBySets_2 : decode cX6_fewestBySets 2 = .ok (.iload_n 2, 1) := by decide +kernel
theorem dX6_fewestBySets_3 : decode cX6_fewestBySets 3 = .ok (.invokevirtual 36, 3) := by decide +kernel
theorem dX6_fewestBySets_6 : decode cX6_fewestBySets 6 = .ok (.iconst 1, 1) := by decide +kernel
theorem dX6_fewestBySets_7 : decode cX6_fewestBySets 7 = .ok (.aload_n 0, 1) := by decide +kernel
theorem dX6_fewestBySets_8 : decode cX6_fewestBySets 8 = .ok (.getfield 33, 3) := by decide +kernel
theorem dX6_fewestBySets_11 : decode cX6_fewestBySets 11 = .ok (.ishl, 1) := by decide +kernel
theorem dX6_fewestBySets_12 : decode cX6_fewestBySets 12 = .ok (.istore_n 3, 1) := by decide +kernel
theorem dX6_fewestBySets_13 : decode cX6_fewestBySets 13 = .ok (.aload_n 0, 1) := by decide +kernel
theorem dX6_fewestBySets_14 : decode cX6_fewestBySets 14 = .ok (.getfield 26, 3) := by decide +kernel
theorem dX6_fewestBySets_17 : decode cX6_fewestBySets 17 = .ok (.iconst 0, 1) := by decide +kernel
theorem dX6_fewestBySets_18 : decode cX6_fewestBySets 18 = .ok (.iconst 0, 1) := by decide +kernel
theorem dX6_fewestBySets_19 : decode cX6_fewestBySets 19 = .ok (.invokevirtual 40, 3) := by decide +kernel
theorem dX6_fewestBySets_22 : decode cX6_fewestBySets 22 = .ok (.iconst 1, 1) := by decide +kernel
theorem dX6_fewestBySets_23 : decode cX6_fewestBySets 23 = .ok (.istore 4, 2) := by decide +kernel
theorem dX6_fewestBySets_25 : decode cX6_fewestBySets 25 = .ok (.iload 4, 2) := by decide +kernel
theorem dX6_fewestBySets_27 : decode cX6_fewestBySets 27 = .ok (.iload_n 3, 1) := by decide +kernel
theorem dX6_fewestBySets_28 : decode cX6_fewestBySets 28 = .ok (.if_icmp .ge 24, 3) := by decide +kernel
theorem dX6_fewestBySets_31 : decode cX6_fewestBySets 31 = .ok (.aload_n 0, 1) := by decide +kernel
theorem dX6_fewestBySets_32 : decode cX6_fewestBySets 32 = .ok (.getfield 26, 3) := by decide +kernel
theorem dX6_fewestBySets_35 : decode cX6_fewestBySets 35 = .ok (.iload 4, 2) := by decide +kernel
theorem dX6_fewestBySets_37 : decode cX6_fewestBySets 37 = .ok (.aload_n 0, 1) := by decide +kernel
theorem dX6_fewestBySets_38 : decode cX6_fewestBySets 38 = .ok (.iload 4, 2) := by decide +kernel
theorem dX6_fewestBySets_40 : decode cX6_fewestBySets 40 = .ok (.invokevirtual 44, 3) := by decide +kernel
theorem dX6_fewestBySets_43 : decode cX6_fewestBySets 43 = .ok (.invokevirtual 40, 3) := by decide +kernel
theorem dX6_fewestBySets_46 : decode cX6_fewestBySets 46 = .ok (.iinc 4 1, 3) := by decide +kernel
theorem dX6_fewestBySets_49 : decode cX6_fewestBySets 49 = .ok (.goto (-24), 3) := by decide +kernel
theorem dX6_fewestBySets_52 : decode cX6_fewestBySets 52 = .ok (.aload_n 0, 1) := by decide +kernel
theorem dX6_fewestBySets_53 : decode cX6_fewestBySets 53 = .ok (.getfield 33, 3) := by decide +kernel
theorem dX6_fewestBySets_56 : decode cX6_fewestBySets 56 = .ok (.ifCond .ne 7, 3) := by decide +kernel
theorem dX6_fewestBySets_59 : decode cX6_fewestBySets 59 = .ok (.iconst 0, 1) := by decide +kernel
theorem dX6_fewestBySets_60 : decode cX6_fewestBySets 60 = .ok (.goto 18, 3) := by decide +kernel
theorem dX6_fewestBySets_63 : decode cX6_fewestBySets 63 = .ok (.aload_n 0, 1) := by decide +kernel
theorem dX6_fewestBySets_64 : decode cX6_fewestBySets 64 = .ok (.getfield 26, 3) := by decide +kernel
theorem dX6_fewestBySets_67 : decode cX6_fewestBySets 67 = .ok (.iload_n 3, 1) := by decide +kernel
theorem dX6_fewestBySets_68 : decode cX6_fewestBySets 68 = .ok (.iconst 1, 1) := by decide +kernel
theorem dX6_fewestBySets_69 : decode cX6_fewestBySets 69 = .ok (.isub, 1) := by decide +kernel
theorem dX6_fewestBySets_70 : decode cX6_fewestBySets 70 = .ok (.invokevirtual 48, 3) := by decide +kernel
theorem dX6_fewestBySets_73 : decode cX6_fewestBySets 73 = .ok (.bipush 64, 2) := by decide +kernel
theorem dX6_fewestBySets_75 : decode cX6_fewestBySets 75 = .ok (.idiv, 1) := by decide +kernel
theorem dX6_fewestBySets_76 : decode cX6_fewestBySets 76 = .ok (.iconst 1, 1) := by decide +kernel
theorem dX6_fewestBySets_77 : decode cX6_fewestBySets 77 = .ok (.iadd, 1) := by decide +kernel
theorem dX6_fewestBySets_78 : decode cX6_fewestBySets 78 = .ok (.ireturn, 1) := by decide +kernel
theorem dX6_leastFilling_0 : decode cX6_leastFilling 0 = .ok (.sipush 512, 3) := by decide +kernel
theorem dX6_leastFilling_3 : decode cX6_leastFilling 3 = .ok (.istore_n 2, 1) := by decide +kernel
theorem dX6_leastFilling_4 : decode cX6_leastFilling 4 = .ok (.iconst 0, 1) := by decide +kernel
theorem dX6_leastFilling_5 : decode cX6_leastFilling 5 = .ok (.istore_n 3, 1) := by decide +kernel
theorem dX6_leastFilling_6 : decode cX6_leastFilling 6 = .ok (.iload_n 3, 1) := by decide +kernel
theorem dX6_leastFilling_7 : decode cX6_leastFilling 7 = .ok (.aload_n 0, 1) := by decide +kernel
theorem dX6_leastFilling_8 : decode cX6_leastFilling 8 = .ok (.getfield 33, 3) := by decide +kernel
theorem dX6_leastFilling_11 : decode cX6_leastFilling 11 = .ok (.if_icmp .ge 51, 3) := by decide +kernel
theorem dX6_leastFilling_14 : decode cX6_leastFilling 14 = .ok (.iload_n 1, 1) := by decide +kernel
theorem dX6_leastFilling_15 : decode cX6_leastFilling 15 = .ok (.iload_n 3, 1) := by decide +kernel
theorem dX6_leastFilling_16 : decode cX6_leastFilling 16 = .ok (.ishr, 1) := by decide +kernel
theorem dX6_leastFilling_17 : decode cX6_leastFilling 17 = .ok (.iconst 1, 1) := by decide +kernel
theorem dX6_leastFilling_18 : decode cX6_leastFilling 18 = .ok (.iand, 1) := by decide +kernel
theorem dX6_leastFilling_19 : decode cX6_leastFilling 19 = .ok (.iconst 1, 1) := by decide +kernel
theorem dX6_leastFilling_20 : decode cX6_leastFilling 20 = .ok (.if_icmp .ne 36, 3) := by decide +kernel
theorem dX6_leastFilling_23 : decode cX6_leastFilling 23 = .ok (.aload_n 0, 1) := by decide +kernel
theorem dX6_leastFilling_24 : decode cX6_leastFilling 24 = .ok (.getfield 26, 3) := by decide +kernel
theorem dX6_leastFilling_27 : decode cX6_leastFilling 27 = .ok (.iload_n 1, 1) := by decide +kernel
theorem dX6_leastFilling_28 : decode cX6_leastFilling 28 = .ok (.iconst 1, 1) := by decide +kernel
theorem dX6_leastFilling_29 : decode cX6_leastFilling 29 = .ok (.iload_n 3, 1) := by decide +kernel
theorem dX6_leastFilling_30 : decode cX6_leastFilling 30 = .ok (.ishl, 1) := by decide +kernel
theorem dX6_leastFilling_31 : decode cX6_leastFilling 31 = .ok (.ixor, 1) := by decide +kernel
theorem dX6_leastFilling_32 : decode cX6_leastFilling 32 = .ok (.invokevirtual 48, 3) := by decide +kernel
theorem dX6_leastFilling_35 : decode cX6_leastFilling 35 = .ok (.istore 4, 2) := by decide +kernel
theorem dX6_leastFilling_37 : decode cX6_leastFilling 37 = .ok (.iload_n 2, 1) := by decide +kernel
theorem dX6_leastFilling_38 : decode cX6_leastFilling 38 = .ok (.aload_n 0, 1) := by decide +kernel
theorem dX6_leastFilling_39 : decode cX6_leastFilling 39 = .ok (.iload 4, 2) := by decide +kernel
theorem dX6_leastFilling_41 : decode cX6_leastFilling 41 = .ok (.aload_n 0, 1) := by decide +kernel
theorem dX6_leastFilling_42 : decode cX6_leastFilling 42 = .ok (.getfield 20, 3) := by decide +kernel
theorem dX6_leastFilling_45 : decode cX6_leastFilling 45 = .ok (.iload_n 3, 1) := by decide +kernel
theorem dX6_leastFilling_46 : decode cX6_leastFilling 46 = .ok (.invokevirtual 48, 3) := by decide +kernel
theorem dX6_leastFilling_49 : decode cX6_leastFilling 49 = .ok (.invokevirtual 51, 3) := by decide +kernel
theorem dX6_leastFilling_52 : decode cX6_leastFilling 52 = .ok (.invokestatic 55, 3) := by decide +kernel
theorem dX6_leastFilling_55 : decode cX6_leastFilling 55 = .ok (.istore_n 2, 1) := by decide +kernel
theorem dX6_leastFilling_56 : decode cX6_leastFilling 56 = .ok (.iinc 3 1, 3) := by decide +kernel
theorem dX6_leastFilling_59 : decode cX6_leastFilling 59 = .ok (.goto (-53), 3) := by decide +kernel
theorem dX6_leastFilling_62 : decode cX6_leastFilling 62 = .ok (.iload_n 2, 1) := by decide +kernel
theorem dX6_leastFilling_63 : decode cX6_leastFilling 63 = .ok (.ireturn, 1) := by decide +kernel
theorem dX6_fillingWith_0 : decode cX6_fillingWith 0 = .ok (.iload_n 1, 1) := by decide +kernel
theorem dX6_fillingWith_1 : decode cX6_fillingWith 1 = .ok (.bipush 64, 2) := by decide +kernel
theorem dX6_fillingWith_3 : decode cX6_fillingWith 3 = .ok (.idiv, 1) := by decide +kernel
theorem dX6_fillingWith_4 : decode cX6_fillingWith 4 = .ok (.istore_n 3, 1) := by decide +kernel
theorem dX6_fillingWith_5 : decode cX6_fillingWith 5 = .ok (.iload_n 1, 1) := by decide +kernel
theorem dX6_fillingWith_6 : decode cX6_fillingWith 6 = .ok (.bipush 64, 2) := by decide +kernel
theorem dX6_fillingWith_8 : decode cX6_fillingWith 8 = .ok (.irem, 1) := by decide +kernel
theorem dX6_fillingWith_9 : decode cX6_fillingWith 9 = .ok (.iload_n 2, 1) := by decide +kernel
theorem dX6_fillingWith_10 : decode cX6_fillingWith 10 = .ok (.iadd, 1) := by decide +kernel
theorem dX6_fillingWith_11 : decode cX6_fillingWith 11 = .ok (.aload_n 0, 1) := by decide +kernel
theorem dX6_fillingWith_12 : decode cX6_fillingWith 12 = .ok (.getfield 16, 3) := by decide +kernel
theorem dX6_fillingWith_15 : decode cX6_fillingWith 15 = .ok (.iload_n 3, 1) := by decide +kernel
theorem dX6_fillingWith_16 : decode cX6_fillingWith 16 = .ok (.invokevirtual 48, 3) := by decide +kernel
theorem dX6_fillingWith_19 : decode cX6_fillingWith 19 = .ok (.if_icmp .gt 7, 3) := by decide +kernel
theorem dX6_fillingWith_22 : decode cX6_fillingWith 22 = .ok (.iload_n 1, 1) := by decide +kernel
theorem dX6_fillingWith_23 : decode cX6_fillingWith 23 = .ok (.iload_n 2, 1) := by decide +kernel
theorem dX6_fillingWith_24 : decode cX6_fillingWith 24 = .ok (.iadd, 1) := by decide +kernel
theorem dX6_fillingWith_25 : decode cX6_fillingWith 25 = .ok (.ireturn, 1) := by decide +kernel
theorem dX6_fillingWith_26 : decode cX6_fillingWith 26 = .ok (.iload_n 2, 1) := by decide +kernel
theorem dX6_fillingWith_27 : decode cX6_fillingWith 27 = .ok (.aload_n 0, 1) := by decide +kernel
theorem dX6_fillingWith_28 : decode cX6_fillingWith 28 = .ok (.getfield 16, 3) := by decide +kernel
theorem dX6_fillingWith_31 : decode cX6_fillingWith 31 = .ok (.iload_n 3, 1) := by decide +kernel
theorem dX6_fillingWith_32 : decode cX6_fillingWith 32 = .ok (.iconst 1, 1) := by decide +kernel
theorem dX6_fillingWith_33 : decode cX6_fillingWith 33 = .ok (.iadd, 1) := by decide +kernel
theorem dX6_fillingWith_34 : decode cX6_fillingWith 34 = .ok (.invokevirtual 48, 3) := by decide +kernel
theorem dX6_fillingWith_37 : decode cX6_fillingWith 37 = .ok (.if_icmp .gt 12, 3) := by decide +kernel
theorem dX6_fillingWith_40 : decode cX6_fillingWith 40 = .ok (.iload_n 3, 1) := by decide +kernel
theorem dX6_fillingWith_41 : decode cX6_fillingWith 41 = .ok (.iconst 1, 1) := by decide +kernel
theorem dX6_fillingWith_42 : decode cX6_fillingWith 42 = .ok (.iadd, 1) := by decide +kernel
theorem dX6_fillingWith_43 : decode cX6_fillingWith 43 = .ok (.bipush 64, 2) := by decide +kernel
theorem dX6_fillingWith_45 : decode cX6_fillingWith 45 = .ok (.imul, 1) := by decide +kernel
theorem dX6_fillingWith_46 : decode cX6_fillingWith 46 = .ok (.iload_n 2, 1) := by decide +kernel
theorem dX6_fillingWith_47 : decode cX6_fillingWith 47 = .ok (.iadd, 1) := by decide +kernel
theorem dX6_fillingWith_48 : decode cX6_fillingWith 48 = .ok (.ireturn, 1) := by decide +kernel
theorem dX6_fillingWith_49 : decode cX6_fillingWith 49 = .ok (.sipush 512, 3) := by decide +kernel
theorem dX6_fillingWith_52 : decode cX6_fillingWith 52 = .ok (.ireturn, 1) := by decide +kernel
theorem dX6_fewestBySearch_0 : decode cX6_fewestBySearch 0 = .ok (.aload_n 0, 1) := by decide +kernel
theorem dX6_fewestBySearch_1 : decode cX6_fewestBySearch 1 = .ok (.aload_n 1, 1) := by decide +kernel
theorem dX6_fewestBySearch_2 : decode cX6_fewestBySearch 2 = .ok (.iload_n 2, 1) := by decide +kernel
theorem dX6_fewestBySearch_3 : decode cX6_fewestBySearch 3 = .ok (.invokevirtual 36, 3) := by decide +kernel
theorem dX6_fewestBySearch_6 : decode cX6_fewestBySearch 6 = .ok (.iconst 0, 1) := by decide +kernel
theorem dX6_fewestBySearch_7 : decode cX6_fewestBySearch 7 = .ok (.istore_n 3, 1) := by decide +kernel
theorem dX6_fewestBySearch_8 : decode cX6_fewestBySearch 8 = .ok (.iload_n 3, 1) := by decide +kernel
theorem dX6_fewestBySearch_9 : decode cX6_fewestBySearch 9 = .ok (.aload_n 0, 1) := by decide +kernel
theorem dX6_fewestBySearch_10 : decode cX6_fewestBySearch 10 = .ok (.getfield 29, 3) := by decide +kernel
theorem dX6_fewestBySearch_13 : decode cX6_fewestBySearch 13 = .ok (.if_icmp .ge 42, 3) := by decide +kernel
theorem dX6_fewestBySearch_16 : decode cX6_fewestBySearch 16 = .ok (.aload_n 0, 1) := by decide +kernel
theorem dX6_fewestBySearch_17 : decode cX6_fewestBySearch 17 = .ok (.getfield 23, 3) := by decide +kernel
theorem dX6_fewestBySearch_20 : decode cX6_fewestBySearch 20 = .ok (.aload_n 0, 1) := by decide +kernel
theorem dX6_fewestBySearch_21 : decode cX6_fewestBySearch 21 = .ok (.getfield 16, 3) := by decide +kernel
theorem dX6_fewestBySearch_24 : decode cX6_fewestBySearch 24 = .ok (.invokevirtual 60, 3) := by decide +kernel
theorem dX6_fewestBySearch_27 : decode cX6_fewestBySearch 27 = .ok (.aload_n 0, 1) := by decide +kernel
theorem dX6_fewestBySearch_28 : decode cX6_fewestBySearch 28 = .ok (.getfield 20, 3) := by decide +kernel
theorem dX6_fewestBySearch_31 : decode cX6_fewestBySearch 31 = .ok (.aload_n 0, 1) := by decide +kernel
theorem dX6_fewestBySearch_32 : decode cX6_fewestBySearch 32 = .ok (.getfield 33, 3) := by decide +kernel
theorem dX6_fewestBySearch_35 : decode cX6_fewestBySearch 35 = .ok (.aload_n 0, 1) := by decide +kernel
theorem dX6_fewestBySearch_36 : decode cX6_fewestBySearch 36 = .ok (.getfield 23, 3) := by decide +kernel
theorem dX6_fewestBySearch_39 : decode cX6_fewestBySearch 39 = .ok (.iload_n 3, 1) := by decide +kernel
theorem dX6_fewestBySearch_40 : decode cX6_fewestBySearch 40 = .ok (.iconst 0, 1) := by decide +kernel
theorem dX6_fewestBySearch_41 : decode cX6_fewestBySearch 41 = .ok (.invokestatic 64, 3) := by decide +kernel
theorem dX6_fewestBySearch_44 : decode cX6_fewestBySearch 44 = .ok (.ifCond .eq 5, 3) := by decide +kernel
theorem dX6_fewestBySearch_47 : decode cX6_fewestBySearch 47 = .ok (.iload_n 3, 1) := by decide +kernel
theorem dX6_fewestBySearch_48 : decode cX6_fewestBySearch 48 = .ok (.ireturn, 1) := by decide +kernel
theorem dX6_fewestBySearch_49 : decode cX6_fewestBySearch 49 = .ok (.iinc 3 1, 3) := by decide +kernel
theorem dX6_fewestBySearch_52 : decode cX6_fewestBySearch 52 = .ok (.goto (-44), 3) := by decide +kernel
theorem dX6_fewestBySearch_55 : decode cX6_fewestBySearch 55 = .ok (.aload_n 0, 1) := by decide +kernel
theorem dX6_fewestBySearch_56 : decode cX6_fewestBySearch 56 = .ok (.getfield 29, 3) := by decide +kernel
theorem dX6_fewestBySearch_59 : decode cX6_fewestBySearch 59 = .ok (.ireturn, 1) := by decide +kernel
theorem dX6_lay_0 : decode cX6_lay 0 = .ok (.iload 4, 2) := by decide +kernel
theorem dX6_lay_2 : decode cX6_lay 2 = .ok (.iload_n 1, 1) := by decide +kernel
theorem dX6_lay_3 : decode cX6_lay 3 = .ok (.if_icmp .ge 10, 3) := by decide +kernel
theorem dX6_lay_6 : decode cX6_lay 6 = .ok (.iload 4, 2) := by decide +kernel
theorem dX6_lay_8 : decode cX6_lay 8 = .ok (.bipush 8, 2) := by decide +kernel
theorem dX6_lay_10 : decode cX6_lay 10 = .ok (.if_icmp .lt 5, 3) := by decide +kernel
theorem dX6_lay_13 : decode cX6_lay 13 = .ok (.iconst 1, 1) := by decide +kernel
theorem dX6_lay_14 : decode cX6_lay 14 = .ok (.ireturn, 1) := by decide +kernel
theorem dX6_lay_15 : decode cX6_lay 15 = .ok (.aload_n 0, 1) := by decide +kernel
theorem dX6_lay_16 : decode cX6_lay 16 = .ok (.iload 4, 2) := by decide +kernel
theorem dX6_lay_18 : decode cX6_lay 18 = .ok (.invokevirtual 48, 3) := by decide +kernel
theorem dX6_lay_21 : decode cX6_lay 21 = .ok (.istore 5, 2) := by decide +kernel
theorem dX6_lay_23 : decode cX6_lay 23 = .ok (.iconst 0, 1) := by decide +kernel
theorem dX6_lay_24 : decode cX6_lay 24 = .ok (.istore 6, 2) := by decide +kernel
theorem dX6_lay_26 : decode cX6_lay 26 = .ok (.iload 6, 2) := by decide +kernel
theorem dX6_lay_28 : decode cX6_lay 28 = .ok (.iload_n 3, 1) := by decide +kernel
theorem dX6_lay_29 : decode cX6_lay 29 = .ok (.if_icmp .ge 68, 3) := by decide +kernel
theorem dX6_lay_32 : decode cX6_lay 32 = .ok (.aload_n 2, 1) := by decide +kernel
theorem dX6_lay_33 : decode cX6_lay 33 = .ok (.iload 6, 2) := by decide +kernel
theorem dX6_lay_35 : decode cX6_lay 35 = .ok (.invokevirtual 48, 3) := by decide +kernel
theorem dX6_lay_38 : decode cX6_lay 38 = .ok (.istore 7, 2) := by decide +kernel
theorem dX6_lay_40 : decode cX6_lay 40 = .ok (.iload 7, 2) := by decide +kernel
theorem dX6_lay_42 : decode cX6_lay 42 = .ok (.iload 5, 2) := by decide +kernel
theorem dX6_lay_44 : decode cX6_lay 44 = .ok (.if_icmp .lt 47, 3) := by decide +kernel
theorem dX6_lay_47 : decode cX6_lay 47 = .ok (.aload_n 2, 1) := by decide +kernel
theorem dX6_lay_48 : decode cX6_lay 48 = .ok (.iload 6, 2) := by decide +kernel
theorem dX6_lay_50 : decode cX6_lay 50 = .ok (.invokestatic 68, 3) := by decide +kernel
theorem dX6_lay_53 : decode cX6_lay 53 = .ok (.ifCond .ne 38, 3) := by decide +kernel
theorem dX6_lay_56 : decode cX6_lay 56 = .ok (.aload_n 2, 1) := by decide +kernel
theorem dX6_lay_57 : decode cX6_lay 57 = .ok (.iload 6, 2) := by decide +kernel
theorem dX6_lay_59 : decode cX6_lay 59 = .ok (.iload 7, 2) := by decide +kernel
theorem dX6_lay_61 : decode cX6_lay 61 = .ok (.iload 5, 2) := by decide +kernel
theorem dX6_lay_63 : decode cX6_lay 63 = .ok (.isub, 1) := by decide +kernel
theorem dX6_lay_64 : decode cX6_lay 64 = .ok (.invokevirtual 40, 3) := by decide +kernel
theorem dX6_lay_67 : decode cX6_lay 67 = .ok (.aload_n 0, 1) := by decide +kernel
theorem dX6_lay_68 : decode cX6_lay 68 = .ok (.iload_n 1, 1) := by decide +kernel
theorem dX6_lay_69 : decode cX6_lay 69 = .ok (.aload_n 2, 1) := by decide +kernel
theorem dX6_lay_70 : decode cX6_lay 70 = .ok (.iload_n 3, 1) := by decide +kernel
theorem dX6_lay_71 : decode cX6_lay 71 = .ok (.iload 4, 2) := by decide +kernel
theorem dX6_lay_73 : decode cX6_lay 73 = .ok (.iconst 1, 1) := by decide +kernel
theorem dX6_lay_74 : decode cX6_lay 74 = .ok (.iadd, 1) := by decide +kernel
theorem dX6_lay_75 : decode cX6_lay 75 = .ok (.invokestatic 64, 3) := by decide +kernel
theorem dX6_lay_78 : decode cX6_lay 78 = .ok (.ifCond .eq 5, 3) := by decide +kernel
theorem dX6_lay_81 : decode cX6_lay 81 = .ok (.iconst 1, 1) := by decide +kernel
theorem dX6_lay_82 : decode cX6_lay 82 = .ok (.ireturn, 1) := by decide +kernel
theorem dX6_lay_83 : decode cX6_lay 83 = .ok (.aload_n 2, 1) := by decide +kernel
theorem dX6_lay_84 : decode cX6_lay 84 = .ok (.iload 6, 2) := by decide +kernel
theorem dX6_lay_86 : decode cX6_lay 86 = .ok (.iload 7, 2) := by decide +kernel
theorem dX6_lay_88 : decode cX6_lay 88 = .ok (.invokevirtual 40, 3) := by decide +kernel
theorem dX6_lay_91 : decode cX6_lay 91 = .ok (.iinc 6 1, 3) := by decide +kernel
theorem dX6_lay_94 : decode cX6_lay 94 = .ok (.goto (-68), 3) := by decide +kernel
theorem dX6_lay_97 : decode cX6_lay 97 = .ok (.iconst 0, 1) := by decide +kernel
theorem dX6_lay_98 : decode cX6_lay 98 = .ok (.ireturn, 1) := by decide +kernel
theorem dX6_hasRoomBefore_0 : decode cX6_hasRoomBefore 0 = .ok (.iconst 0, 1) := by decide +kernel
theorem dX6_hasRoomBefore_1 : decode cX6_hasRoomBefore 1 = .ok (.istore_n 2, 1) := by decide +kernel
theorem dX6_hasRoomBefore_2 : decode cX6_hasRoomBefore 2 = .ok (.iload_n 2, 1) := by decide +kernel
theorem dX6_hasRoomBefore_3 : decode cX6_hasRoomBefore 3 = .ok (.iload_n 1, 1) := by decide +kernel
theorem dX6_hasRoomBefore_4 : decode cX6_hasRoomBefore 4 = .ok (.if_icmp .ge 24, 3) := by decide +kernel
theorem dX6_hasRoomBefore_7 : decode cX6_hasRoomBefore 7 = .ok (.aload_n 0, 1) := by decide +kernel
theorem dX6_hasRoomBefore_8 : decode cX6_hasRoomBefore 8 = .ok (.iload_n 2, 1) := by decide +kernel
theorem dX6_hasRoomBefore_9 : decode cX6_hasRoomBefore 9 = .ok (.invokevirtual 48, 3) := by decide +kernel
theorem dX6_hasRoomBefore_12 : decode cX6_hasRoomBefore 12 = .ok (.aload_n 0, 1) := by decide +kernel
theorem dX6_hasRoomBefore_13 : decode cX6_hasRoomBefore 13 = .ok (.iload_n 1, 1) := by decide +kernel
theorem dX6_hasRoomBefore_14 : decode cX6_hasRoomBefore 14 = .ok (.invokevirtual 48, 3) := by decide +kernel
theorem dX6_hasRoomBefore_17 : decode cX6_hasRoomBefore 17 = .ok (.if_icmp .ne 5, 3) := by decide +kernel
theorem dX6_hasRoomBefore_20 : decode cX6_hasRoomBefore 20 = .ok (.iconst 1, 1) := by decide +kernel
theorem dX6_hasRoomBefore_21 : decode cX6_hasRoomBefore 21 = .ok (.ireturn, 1) := by decide +kernel
theorem dX6_hasRoomBefore_22 : decode cX6_hasRoomBefore 22 = .ok (.iinc 2 1, 3) := by decide +kernel
theorem dX6_hasRoomBefore_25 : decode cX6_hasRoomBefore 25 = .ok (.goto (-23), 3) := by decide +kernel
theorem dX6_hasRoomBefore_28 : decode cX6_hasRoomBefore 28 = .ok (.iconst 0, 1) := by decide +kernel
theorem dX6_hasRoomBefore_29 : decode cX6_hasRoomBefore 29 = .ok (.ireturn, 1) := by decide +kernel
theorem dX6_gather_0 : decode cX6_gather 0 = .ok (.aload_n 0, 1) := by decide +kernel
theorem dX6_gather_1 : decode cX6_gather 1 = .ok (.getfield 16, 3) := by decide +kernel
theorem dX6_gather_4 : decode cX6_gather 4 = .ok (.iconst 0, 1) := by decide +kernel
theorem dX6_gather_5 : decode cX6_gather 5 = .ok (.invokevirtual 72, 3) := by decide +kernel
theorem dX6_gather_8 : decode cX6_gather 8 = .ok (.aload_n 0, 1) := by decide +kernel
theorem dX6_gather_9 : decode cX6_gather 9 = .ok (.getfield 20, 3) := by decide +kernel
theorem dX6_gather_12 : decode cX6_gather 12 = .ok (.iconst 0, 1) := by decide +kernel
theorem dX6_gather_13 : decode cX6_gather 13 = .ok (.invokevirtual 72, 3) := by decide +kernel
theorem dX6_gather_16 : decode cX6_gather 16 = .ok (.aload_n 0, 1) := by decide +kernel
theorem dX6_gather_17 : decode cX6_gather 17 = .ok (.iconst 0, 1) := by decide +kernel
theorem dX6_gather_18 : decode cX6_gather 18 = .ok (.putfield 29, 3) := by decide +kernel
theorem dX6_gather_21 : decode cX6_gather 21 = .ok (.aload_n 0, 1) := by decide +kernel
theorem dX6_gather_22 : decode cX6_gather 22 = .ok (.iconst 0, 1) := by decide +kernel
theorem dX6_gather_23 : decode cX6_gather 23 = .ok (.putfield 33, 3) := by decide +kernel
theorem dX6_gather_26 : decode cX6_gather 26 = .ok (.iconst 0, 1) := by decide +kernel
theorem dX6_gather_27 : decode cX6_gather 27 = .ok (.istore_n 3, 1) := by decide +kernel
theorem dX6_gather_28 : decode cX6_gather 28 = .ok (.iload_n 3, 1) := by decide +kernel
theorem dX6_gather_29 : decode cX6_gather 29 = .ok (.aload_n 1, 1) := by decide +kernel
theorem dX6_gather_30 : decode cX6_gather 30 = .ok (.getfield 75, 3) := by decide +kernel
theorem dX6_gather_33 : decode cX6_gather 33 = .ok (.getfield 81, 3) := by decide +kernel
theorem dX6_gather_36 : decode cX6_gather 36 = .ok (.if_icmp .ge 65, 3) := by decide +kernel
theorem dX6_gather_39 : decode cX6_gather 39 = .ok (.aload_n 0, 1) := by decide +kernel
theorem dX6_gather_40 : decode cX6_gather 40 = .ok (.getfield 29, 3) := by decide +kernel
theorem dX6_gather_43 : decode cX6_gather 43 = .ok (.bipush 8, 2) := by decide +kernel
theorem dX6_gather_45 : decode cX6_gather 45 = .ok (.if_icmp .ge 56, 3) := by decide +kernel
theorem dX6_gather_48 : decode cX6_gather 48 = .ok (.aload_n 1, 1) := by decide +kernel
theorem dX6_gather_49 : decode cX6_gather 49 = .ok (.getfield 75, 3) := by decide +kernel
theorem dX6_gather_52 : decode cX6_gather 52 = .ok (.getfield 86, 3) := by decide +kernel
theorem dX6_gather_55 : decode cX6_gather 55 = .ok (.iload_n 3, 1) := by decide +kernel
theorem dX6_gather_56 : decode cX6_gather 56 = .ok (.invokevirtual 48, 3) := by decide +kernel
theorem dX6_gather_59 : decode cX6_gather 59 = .ok (.iload_n 2, 1) := by decide +kernel
theorem dX6_gather_60 : decode cX6_gather 60 = .ok (.if_icmp .ne 35, 3) := by decide +kernel
theorem dX6_gather_63 : decode cX6_gather 63 = .ok (.aload_n 0, 1) := by decide +kernel
theorem dX6_gather_64 : decode cX6_gather 64 = .ok (.getfield 16, 3) := by decide +kernel
theorem dX6_gather_67 : decode cX6_gather 67 = .ok (.aload_n 0, 1) := by decide +kernel
theorem dX6_gather_68 : decode cX6_gather 68 = .ok (.getfield 29, 3) := by decide +kernel
theorem dX6_gather_71 : decode cX6_gather 71 = .ok (.aload_n 1, 1) := by decide +kernel
theorem dX6_gather_72 : decode cX6_gather 72 = .ok (.getfield 75, 3) := by decide +kernel
theorem dX6_gather_75 : decode cX6_gather 75 = .ok (.getfield 89, 3) := by decide +kernel
theorem dX6_gather_78 : decode cX6_gather 78 = .ok (.iload_n 3, 1) := by decide +kernel
theorem dX6_gather_79 : decode cX6_gather 79 = .ok (.invokevirtual 48, 3) := by decide +kernel
theorem dX6_gather_82 : decode cX6_gather 82 = .ok (.invokestatic 90, 3) := by decide +kernel
theorem dX6_gather_85 : decode cX6_gather 85 = .ok (.aload_n 0, 1) := by decide +kernel
theorem dX6_gather_86 : decode cX6_gather 86 = .ok (.dup, 1) := by decide +kernel
theorem dX6_gather_87 : decode cX6_gather 87 = .ok (.getfield 29, 3) := by decide +kernel
theorem dX6_gather_90 : decode cX6_gather 90 = .ok (.iconst 1, 1) := by decide +kernel
theorem dX6_gather_91 : decode cX6_gather 91 = .ok (.iadd, 1) := by decide +kernel
theorem dX6_gather_92 : decode cX6_gather 92 = .ok (.putfield 29, 3) := by decide +kernel
theorem dX6_gather_95 : decode cX6_gather 95 = .ok (.iinc 3 1, 3) := by decide +kernel
theorem dX6_gather_98 : decode cX6_gather 98 = .ok (.goto (-70), 3) := by decide +kernel
theorem dX6_gather_101 : decode cX6_gather 101 = .ok (.iconst 0, 1) := by decide +kernel
theorem dX6_gather_102 : decode cX6_gather 102 = .ok (.istore_n 3, 1) := by decide +kernel
theorem dX6_gather_103 : decode cX6_gather 103 = .ok (.iload_n 3, 1) := by decide +kernel
theorem dX6_gather_104 : decode cX6_gather 104 = .ok (.aload_n 1, 1) := by decide +kernel
theorem dX6_gather_105 : decode cX6_gather 105 = .ok (.getfield 94, 3) := by decide +kernel
theorem dX6_gather_108 : decode cX6_gather 108 = .ok (.getfield 98, 3) := by decide +kernel
theorem dX6_gather_111 : decode cX6_gather 111 = .ok (.if_icmp .ge 76, 3) := by decide +kernel
theorem dX6_gather_114 : decode cX6_gather 114 = .ok (.aload_n 0, 1) := by decide +kernel
theorem dX6_gather_115 : decode cX6_gather 115 = .ok (.getfield 33, 3) := by decide +kernel
theorem dX6_gather_118 : decode cX6_gather 118 = .ok (.bipush 8, 2) := by decide +kernel
theorem dX6_gather_120 : decode cX6_gather 120 = .ok (.if_icmp .ge 67, 3) := by decide +kernel
theorem dX6_gather_123 : decode cX6_gather 123 = .ok (.aload_n 1, 1) := by decide +kernel
theorem dX6_gather_124 : decode cX6_gather 124 = .ok (.getfield 94, 3) := by decide +kernel
theorem dX6_gather_127 : decode cX6_gather 127 = .ok (.iload_n 3, 1) := by decide +kernel
theorem dX6_gather_128 : decode cX6_gather 128 = .ok (.invokevirtual 101, 3) := by decide +kernel
theorem dX6_gather_131 : decode cX6_gather 131 = .ok (.ifCond .eq 50, 3) := by decide +kernel
theorem dX6_gather_134 : decode cX6_gather 134 = .ok (.aload_n 1, 1) := by decide +kernel
theorem dX6_gather_135 : decode cX6_gather 135 = .ok (.getfield 94, 3) := by decide +kernel
theorem dX6_gather_138 : decode cX6_gather 138 = .ok (.getfield 105, 3) := by decide +kernel
theorem dX6_gather_141 : decode cX6_gather 141 = .ok (.iload_n 3, 1) := by decide +kernel
theorem dX6_gather_142 : decode cX6_gather 142 = .ok (.invokevirtual 48, 3) := by decide +kernel
theorem dX6_gather_145 : decode cX6_gather 145 = .ok (.iload_n 2, 1) := by decide +kernel
theorem dX6_gather_146 : decode cX6_gather 146 = .ok (.if_icmp .ne 35, 3) := by decide +kernel
theorem dX6_gather_149 : decode cX6_gather 149 = .ok (.aload_n 0, 1) := by decide +kernel
theorem dX6_gather_150 : decode cX6_gather 150 = .ok (.getfield 20, 3) := by decide +kernel
theorem dX6_gather_153 : decode cX6_gather 153 = .ok (.aload_n 0, 1) := by decide +kernel
theorem dX6_gather_154 : decode cX6_gather 154 = .ok (.getfield 33, 3) := by decide +kernel
theorem dX6_gather_157 : decode cX6_gather 157 = .ok (.aload_n 1, 1) := by decide +kernel
theorem dX6_gather_158 : decode cX6_gather 158 = .ok (.getfield 94, 3) := by decide +kernel
theorem dX6_gather_161 : decode cX6_gather 161 = .ok (.getfield 106, 3) := by decide +kernel
theorem dX6_gather_164 : decode cX6_gather 164 = .ok (.iload_n 3, 1) := by decide +kernel
theorem dX6_gather_165 : decode cX6_gather 165 = .ok (.invokevirtual 48, 3) := by decide +kernel
theorem dX6_gather_168 : decode cX6_gather 168 = .ok (.invokestatic 90, 3) := by decide +kernel
theorem dX6_gather_171 : decode cX6_gather 171 = .ok (.aload_n 0, 1) := by decide +kernel
theorem dX6_gather_172 : decode cX6_gather 172 = .ok (.dup, 1) := by decide +kernel
theorem dX6_gather_173 : decode cX6_gather 173 = .ok (.getfield 33, 3) := by decide +kernel
theorem dX6_gather_176 : decode cX6_gather 176 = .ok (.iconst 1, 1) := by decide +kernel
theorem dX6_gather_177 : decode cX6_gather 177 = .ok (.iadd, 1) := by decide +kernel
theorem dX6_gather_178 : decode cX6_gather 178 = .ok (.putfield 33, 3) := by decide +kernel
theorem dX6_gather_181 : decode cX6_gather 181 = .ok (.iinc 3 1, 3) := by decide +kernel
theorem dX6_gather_184 : decode cX6_gather 184 = .ok (.goto (-81), 3) := by decide +kernel
theorem dX6_gather_187 : decode cX6_gather 187 = .ok (.return_, 1) := by decide +kernel
theorem dX6_insert_0 : decode cX6_insert 0 = .ok (.iload_n 1, 1) := by decide +kernel
theorem dX6_insert_1 : decode cX6_insert 1 = .ok (.istore_n 3, 1) := by decide +kernel
theorem dX6_insert_2 : decode cX6_insert 2 = .ok (.iload_n 1, 1) := by decide +kernel
theorem dX6_insert_3 : decode cX6_insert 3 = .ok (.iconst 1, 1) := by decide +kernel
theorem dX6_insert_4 : decode cX6_insert 4 = .ok (.isub, 1) := by decide +kernel
theorem dX6_insert_5 : decode cX6_insert 5 = .ok (.istore 4, 2) := by decide +kernel
theorem dX6_insert_7 : decode cX6_insert 7 = .ok (.iload 4, 2) := by decide +kernel
theorem dX6_insert_9 : decode cX6_insert 9 = .ok (.ifCond .lt 33, 3) := by decide +kernel
theorem dX6_insert_12 : decode cX6_insert 12 = .ok (.aload_n 0, 1) := by decide +kernel
theorem dX6_insert_13 : decode cX6_insert 13 = .ok (.iload 4, 2) := by decide +kernel
theorem dX6_insert_15 : decode cX6_insert 15 = .ok (.invokevirtual 48, 3) := by decide +kernel
theorem dX6_insert_18 : decode cX6_insert 18 = .ok (.iload_n 2, 1) := by decide +kernel
theorem dX6_insert_19 : decode cX6_insert 19 = .ok (.if_icmp .ge 23, 3) := by decide +kernel
theorem dX6_insert_22 : decode cX6_insert 22 = .ok (.aload_n 0, 1) := by decide +kernel
theorem dX6_insert_23 : decode cX6_insert 23 = .ok (.iload_n 3, 1) := by decide +kernel
theorem dX6_insert_24 : decode cX6_insert 24 = .ok (.aload_n 0, 1) := by decide +kernel
theorem dX6_insert_25 : decode cX6_insert 25 = .ok (.iload 4, 2) := by decide +kernel
theorem dX6_insert_27 : decode cX6_insert 27 = .ok (.invokevirtual 48, 3) := by decide +kernel
theorem dX6_insert_30 : decode cX6_insert 30 = .ok (.invokevirtual 40, 3) := by decide +kernel
theorem dX6_insert_33 : decode cX6_insert 33 = .ok (.iload 4, 2) := by decide +kernel
theorem dX6_insert_35 : decode cX6_insert 35 = .ok (.istore_n 3, 1) := by decide +kernel
theorem dX6_insert_36 : decode cX6_insert 36 = .ok (.iinc 4 (-1), 3) := by decide +kernel
theorem dX6_insert_39 : decode cX6_insert 39 = .ok (.goto (-32), 3) := by decide +kernel
theorem dX6_insert_42 : decode cX6_insert 42 = .ok (.aload_n 0, 1) := by decide +kernel
theorem dX6_insert_43 : decode cX6_insert 43 = .ok (.iload_n 3, 1) := by decide +kernel
theorem dX6_insert_44 : decode cX6_insert 44 = .ok (.iload_n 2, 1) := by decide +kernel
theorem dX6_insert_45 : decode cX6_insert 45 = .ok (.invokevirtual 40, 3) := by decide +kernel
theorem dX6_insert_48 : decode cX6_insert 48 = .ok (.return_, 1) := by decide +kernel
theorem dX7_init_0 : decode cX7_init 0 = .ok (.aload_n 0, 1) := by decide +kernel
theorem dX7_init_1 : decode cX7_init 1 = .ok (.invokespecial 1, 3) := by decide +kernel
theorem dX7_init_4 : decode cX7_init 4 = .ok (.aload_n 0, 1) := by decide +kernel
theorem dX7_init_5 : decode cX7_init 5 = .ok (.iload_n 1, 1) := by decide +kernel
theorem dX7_init_6 : decode cX7_init 6 = .ok (.ifCond .le 7, 3) := by decide +kernel
theorem dX7_init_9 : decode cX7_init 9 = .ok (.iload_n 1, 1) := by decide +kernel
theorem dX7_init_10 : decode cX7_init 10 = .ok (.goto 4, 3) := by decide +kernel
theorem dX7_init_13 : decode cX7_init 13 = .ok (.iconst 0, 1) := by decide +kernel
theorem dX7_init_14 : decode cX7_init 14 = .ok (.newarray .int, 2) := by decide +kernel
theorem dX7_init_16 : decode cX7_init 16 = .ok (.putfield 7, 3) := by decide +kernel
theorem dX7_init_19 : decode cX7_init 19 = .ok (.return_, 1) := by decide +kernel
theorem dX7_get_0 : decode cX7_get 0 = .ok (.iload_n 1, 1) := by decide +kernel
theorem dX7_get_1 : decode cX7_get 1 = .ok (.ifCond .lt 21, 3) := by decide +kernel
theorem dX7_get_4 : decode cX7_get 4 = .ok (.iload_n 1, 1) := by decide +kernel
theorem dX7_get_5 : decode cX7_get 5 = .ok (.aload_n 0, 1) := by decide +kernel
theorem dX7_get_6 : decode cX7_get 6 = .ok (.getfield 7, 3) := by decide +kernel
theorem dX7_get_9 : decode cX7_get 9 = .ok (.arraylength, 1) := by decide +kernel
theorem dX7_get_10 : decode cX7_get 10 = .ok (.if_icmp .ge 12, 3) := by decide +kernel
theorem dX7_get_13 : decode cX7_get 13 = .ok (.aload_n 0, 1) := by decide +kernel
theorem dX7_get_14 : decode cX7_get 14 = .ok (.getfield 7, 3) := by decide +kernel
theorem dX7_get_17 : decode cX7_get 17 = .ok (.iload_n 1, 1) := by decide +kernel
theorem dX7_get_18 : decode cX7_get 18 = .ok (.iaload, 1) := by decide +kernel
theorem dX7_get_19 : decode cX7_get 19 = .ok (.goto 4, 3) := by decide +kernel
theorem dX7_get_22 : decode cX7_get 22 = .ok (.iconst 0, 1) := by decide +kernel
theorem dX7_get_23 : decode cX7_get 23 = .ok (.ireturn, 1) := by decide +kernel
theorem dX7_set_0 : decode cX7_set 0 = .ok (.iload_n 1, 1) := by decide +kernel
theorem dX7_set_1 : decode cX7_set 1 = .ok (.ifCond .lt 19, 3) := by decide +kernel
theorem dX7_set_4 : decode cX7_set 4 = .ok (.iload_n 1, 1) := by decide +kernel
theorem dX7_set_5 : decode cX7_set 5 = .ok (.aload_n 0, 1) := by decide +kernel
theorem dX7_set_6 : decode cX7_set 6 = .ok (.getfield 7, 3) := by decide +kernel
theorem dX7_set_9 : decode cX7_set 9 = .ok (.arraylength, 1) := by decide +kernel
theorem dX7_set_10 : decode cX7_set 10 = .ok (.if_icmp .ge 10, 3) := by decide +kernel
theorem dX7_set_13 : decode cX7_set 13 = .ok (.aload_n 0, 1) := by decide +kernel
theorem dX7_set_14 : decode cX7_set 14 = .ok (.getfield 7, 3) := by decide +kernel
theorem dX7_set_17 : decode cX7_set 17 = .ok (.iload_n 1, 1) := by decide +kernel
theorem dX7_set_18 : decode cX7_set 18 = .ok (.iload_n 2, 1) := by decide +kernel
theorem dX7_set_19 : decode cX7_set 19 = .ok (.iastore, 1) := by decide +kernel
theorem dX7_set_20 : decode cX7_set 20 = .ok (.return_, 1) := by decide +kernel
theorem dX7_fill_0 : decode cX7_fill 0 = .ok (.iconst 0, 1) := by decide +kernel
theorem dX7_fill_1 : decode cX7_fill 1 = .ok (.istore_n 2, 1) := by decide +kernel
theorem dX7_fill_2 : decode cX7_fill 2 = .ok (.iload_n 2, 1) := by decide +kernel
theorem dX7_fill_3 : decode cX7_fill 3 = .ok (.aload_n 0, 1) := by decide +kernel
theorem dX7_fill_4 : decode cX7_fill 4 = .ok (.getfield 7, 3) := by decide +kernel
theorem dX7_fill_7 : decode cX7_fill 7 = .ok (.arraylength, 1) := by decide +kernel
theorem dX7_fill_8 : decode cX7_fill 8 = .ok (.if_icmp .ge 16, 3) := by decide +kernel
theorem dX7_fill_11 : decode cX7_fill 11 = .ok (.aload_n 0, 1) := by decide +kernel
theorem dX7_fill_12 : decode cX7_fill 12 = .ok (.getfield 7, 3) := by decide +kernel
theorem dX7_fill_15 : decode cX7_fill 15 = .ok (.iload_n 2, 1) := by decide +kernel
theorem dX7_fill_16 : decode cX7_fill 16 = .ok (.iload_n 1, 1) := by decide +kernel
theorem dX7_fill_17 : decode cX7_fill 17 = .ok (.iastore, 1) := by decide +kernel
theorem dX7_fill_18 : decode cX7_fill 18 = .ok (.iinc 2 1, 3) := by decide +kernel
theorem dX7_fill_21 : decode cX7_fill 21 = .ok (.goto (-19), 3) := by decide +kernel
theorem dX7_fill_24 : decode cX7_fill 24 = .ok (.return_, 1) := by decide +kernel
theorem dX7_copyFrom_0 : decode cX7_copyFrom 0 = .ok (.aload_n 1, 1) := by decide +kernel
theorem dX7_copyFrom_1 : decode cX7_copyFrom 1 = .ok (.getfield 7, 3) := by decide +kernel
theorem dX7_copyFrom_4 : decode cX7_copyFrom 4 = .ok (.iconst 0, 1) := by decide +kernel
theorem dX7_copyFrom_5 : decode cX7_copyFrom 5 = .ok (.aload_n 0, 1) := by decide +kernel
theorem dX7_copyFrom_6 : decode cX7_copyFrom 6 = .ok (.getfield 7, 3) := by decide +kernel
theorem dX7_copyFrom_9 : decode cX7_copyFrom 9 = .ok (.iconst 0, 1) := by decide +kernel
theorem dX7_copyFrom_10 : decode cX7_copyFrom 10 = .ok (.aload_n 0, 1) := by decide +kernel
theorem dX7_copyFrom_11 : decode cX7_copyFrom 11 = .ok (.getfield 7, 3) := by decide +kernel
theorem dX7_copyFrom_14 : decode cX7_copyFrom 14 = .ok (.arraylength, 1) := by decide +kernel
theorem dX7_copyFrom_15 : decode cX7_copyFrom 15 = .ok (.aload_n 1, 1) := by decide +kernel
theorem dX7_copyFrom_16 : decode cX7_copyFrom 16 = .ok (.getfield 7, 3) := by decide +kernel
theorem dX7_copyFrom_19 : decode cX7_copyFrom 19 = .ok (.arraylength, 1) := by decide +kernel
theorem dX7_copyFrom_20 : decode cX7_copyFrom 20 = .ok (.invokestatic 13, 3) := by decide +kernel
theorem dX7_copyFrom_23 : decode cX7_copyFrom 23 = .ok (.invokestatic 19, 3) := by decide +kernel
theorem dX7_copyFrom_26 : decode cX7_copyFrom 26 = .ok (.return_, 1) := by decide +kernel
theorem dX8_init_0 : decode cX8_init 0 = .ok (.aload_n 0, 1) := by decide +kernel
theorem dX8_init_1 : decode cX8_init 1 = .ok (.invokespecial 3, 3) := by decide +kernel
theorem dX8_init_4 : decode cX8_init 4 = .ok (.aload_n 0, 1) := by decide +kernel
theorem dX8_init_5 : decode cX8_init 5 = .ok (.new 9, 3) := by decide +kernel
theorem dX8_init_8 : decode cX8_init 8 = .ok (.dup, 1) := by decide +kernel
theorem dX8_init_9 : decode cX8_init 9 = .ok (.bipush 8, 2) := by decide +kernel
theorem dX8_init_11 : decode cX8_init 11 = .ok (.invokespecial 11, 3) := by decide +kernel
theorem dX8_init_14 : decode cX8_init 14 = .ok (.putfield 14, 3) := by decide +kernel
theorem dX8_init_17 : decode cX8_init 17 = .ok (.aload_n 0, 1) := by decide +kernel
theorem dX8_init_18 : decode cX8_init 18 = .ok (.new 9, 3) := by decide +kernel
theorem dX8_init_21 : decode cX8_init 21 = .ok (.dup, 1) := by decide +kernel
theorem dX8_init_22 : decode cX8_init 22 = .ok (.bipush 8, 2) := by decide +kernel
theorem dX8_init_24 : decode cX8_init 24 = .ok (.invokespecial 11, 3) := by decide +kernel
theorem dX8_init_27 : decode cX8_init 27 = .ok (.putfield 20, 3) := by decide +kernel
theorem dX8_init_30 : decode cX8_init 30 = .ok (.aload_n 0, 1) := by decide +kernel
theorem dX8_init_31 : decode cX8_init 31 = .ok (.new 9, 3) := by decide +kernel
theorem dX8_init_34 : decode cX8_init 34 = .ok (.dup, 1) := by decide +kernel
theorem dX8_init_35 : decode cX8_init 35 = .ok (.bipush 8, 2) := by decide +kernel
theorem dX8_init_37 : decode cX8_init 37 = .ok (.invokespecial 11, 3) := by decide +kernel
theorem dX8_init_40 : decode cX8_init 40 = .ok (.putfield 23, 3) := by decide +kernel
theorem dX8_init_43 : decode cX8_init 43 = .ok (.aload_n 0, 1) := by decide +kernel
theorem dX8_init_44 : decode cX8_init 44 = .ok (.iconst 0, 1) := by decide +kernel
theorem dX8_init_45 : decode cX8_init 45 = .ok (.putfield 26, 3) := by decide +kernel
theorem dX8_init_48 : decode cX8_init 48 = .ok (.return_, 1) := by decide +kernel
theorem dX8_copyFrom_0 : decode cX8_copyFrom 0 = .ok (.aload_n 0, 1) := by decide +kernel
theorem dX8_copyFrom_1 : decode cX8_copyFrom 1 = .ok (.getfield 14, 3) := by decide +kernel
theorem dX8_copyFrom_4 : decode cX8_copyFrom 4 = .ok (.aload_n 1, 1) := by decide +kernel
theorem dX8_copyFrom_5 : decode cX8_copyFrom 5 = .ok (.getfield 14, 3) := by decide +kernel
theorem dX8_copyFrom_8 : decode cX8_copyFrom 8 = .ok (.invokevirtual 30, 3) := by decide +kernel
theorem dX8_copyFrom_11 : decode cX8_copyFrom 11 = .ok (.aload_n 0, 1) := by decide +kernel
theorem dX8_copyFrom_12 : decode cX8_copyFrom 12 = .ok (.getfield 20, 3) := by decide +kernel
theorem dX8_copyFrom_15 : decode cX8_copyFrom 15 = .ok (.aload_n 1, 1) := by decide +kernel
theorem dX8_copyFrom_16 : decode cX8_copyFrom 16 = .ok (.getfield 20, 3) := by decide +kernel
theorem dX8_copyFrom_19 : decode cX8_copyFrom 19 = .ok (.invokevirtual 30, 3) := by decide +kernel
theorem dX8_copyFrom_22 : decode cX8_copyFrom 22 = .ok (.aload_n 0, 1) := by decide +kernel
theorem dX8_copyFrom_23 : decode cX8_copyFrom 23 = .ok (.getfield 23, 3) := by decide +kernel
theorem dX8_copyFrom_26 : decode cX8_copyFrom 26 = .ok (.aload_n 1, 1) := by decide +kernel
theorem dX8_copyFrom_27 : decode cX8_copyFrom 27 = .ok (.getfield 23, 3) := by decide +kernel
theorem dX8_copyFrom_30 : decode cX8_copyFrom 30 = .ok (.invokevirtual 30, 3) := by decide +kernel
theorem dX8_copyFrom_33 : decode cX8_copyFrom 33 = .ok (.aload_n 0, 1) := by decide +kernel
theorem dX8_copyFrom_34 : decode cX8_copyFrom 34 = .ok (.aload_n 1, 1) := by decide +kernel
theorem dX8_copyFrom_35 : decode cX8_copyFrom 35 = .ok (.getfield 26, 3) := by decide +kernel
theorem dX8_copyFrom_38 : decode cX8_copyFrom 38 = .ok (.putfield 26, 3) := by decide +kernel
theorem dX8_copyFrom_41 : decode cX8_copyFrom 41 = .ok (.return_, 1) := by decide +kernel
theorem dX8_has_0 : decode cX8_has 0 = .ok (.iload_n 1, 1) := by decide +kernel
theorem dX8_has_1 : decode cX8_has 1 = .ok (.ifCond .lt 15, 3) := by decide +kernel
theorem dX8_has_4 : decode cX8_has 4 = .ok (.iload_n 1, 1) := by decide +kernel
theorem dX8_has_5 : decode cX8_has 5 = .ok (.aload_n 0, 1) := by decide +kernel
theorem dX8_has_6 : decode cX8_has 6 = .ok (.getfield 26, 3) := by decide +kernel
theorem dX8_has_9 : decode cX8_has 9 = .ok (.if_icmp .ge 7, 3) := by decide +kernel
theorem dX8_has_12 : decode cX8_has 12 = .ok (.iconst 1, 1) := by decide +kernel
theorem dX8_has_13 : decode cX8_has 13 = .ok (.goto 4, 3) := by decide +kernel
theorem dX8_has_16 : decode cX8_has 16 = .ok (.iconst 0, 1) := by decide +kernel
theorem dX8_has_17 : decode cX8_has 17 = .ok (.ireturn, 1) := by decide +kernel
theorem dX8_add_0 : decode cX8_add 0 = .ok (.aload_n 0, 1) := by decide +kernel
theorem dX8_add_1 : decode cX8_add 1 = .ok (.getfield 26, 3) := by decide +kernel
theorem dX8_add_4 : decode cX8_add 4 = .ok (.istore_n 3, 1) := by decide +kernel
theorem dX8_add_5 : decode cX8_add 5 = .ok (.aload_n 0, 1) := by decide +kernel
theorem dX8_add_6 : decode cX8_add 6 = .ok (.getfield 14, 3) := by decide +kernel
theorem dX8_add_9 : decode cX8_add 9 = .ok (.iload_n 3, 1) := by decide +kernel
theorem dX8_add_10 : decode cX8_add 10 = .ok (.iload_n 1, 1) := by decide +kernel
theorem dX8_add_11 : decode cX8_add 11 = .ok (.invokevirtual 34, 3) := by decide +kernel
theorem dX8_add_14 : decode cX8_add 14 = .ok (.aload_n 0, 1) := by decide +kernel
theorem dX8_add_15 : decode cX8_add 15 = .ok (.getfield 20, 3) := by decide +kernel
theorem dX8_add_18 : decode cX8_add 18 = .ok (.iload_n 3, 1) := by decide +kernel
theorem dX8_add_19 : decode cX8_add 19 = .ok (.iload_n 2, 1) := by decide +kernel
theorem dX8_add_20 : decode cX8_add 20 = .ok (.invokevirtual 34, 3) := by decide +kernel
theorem dX8_add_23 : decode cX8_add 23 = .ok (.aload_n 0, 1) := by decide +kernel
theorem dX8_add_24 : decode cX8_add 24 = .ok (.getfield 23, 3) := by decide +kernel
theorem dX8_add_27 : decode cX8_add 27 = .ok (.iload_n 3, 1) := by decide +kernel
theorem dX8_add_28 : decode cX8_add 28 = .ok (.iconst (-1), 1) := by decide +kernel
theorem dX8_add_29 : decode cX8_add 29 = .ok (.invokevirtual 34, 3) := by decide +kernel
theorem dX8_add_32 : decode cX8_add 32 = .ok (.aload_n 0, 1) := by decide +kernel
theorem dX8_add_33 : decode cX8_add 33 = .ok (.dup, 1) := by decide +kernel
theorem dX8_add_34 : decode cX8_add 34 = .ok (.getfield 26, 3) := by decide +kernel
theorem dX8_add_37 : decode cX8_add 37 = .ok (.iconst 1, 1) := by decide +kernel
theorem dX8_add_38 : decode cX8_add 38 = .ok (.iadd, 1) := by decide +kernel
theorem dX8_add_39 : decode cX8_add 39 = .ok (.putfield 26, 3) := by decide +kernel
theorem dX8_add_42 : decode cX8_add 42 = .ok (.iload_n 3, 1) := by decide +kernel
theorem dX8_add_43 : decode cX8_add 43 = .ok (.ireturn, 1) := by decide +kernel
theorem dX9_init_0 : decode cX9_init 0 = .ok (.aload_n 0, 1) := by decide +kernel
theorem dX9_init_1 : decode cX9_init 1 = .ok (.invokespecial 3, 3) := by decide +kernel
theorem dX9_init_4 : decode cX9_init 4 = .ok (.aload_n 0, 1) := by decide +kernel
theorem dX9_init_5 : decode cX9_init 5 = .ok (.new 9, 3) := by decide +kernel
theorem dX9_init_8 : decode cX9_init 8 = .ok (.dup, 1) := by decide +kernel
theorem dX9_init_9 : decode cX9_init 9 = .ok (.invokespecial 11, 3) := by decide +kernel
theorem dX9_init_12 : decode cX9_init 12 = .ok (.putfield 12, 3) := by decide +kernel
theorem dX9_init_15 : decode cX9_init 15 = .ok (.aload_n 0, 1) := by decide +kernel
theorem dX9_init_16 : decode cX9_init 16 = .ok (.new 18, 3) := by decide +kernel
theorem dX9_init_19 : decode cX9_init 19 = .ok (.dup, 1) := by decide +kernel
theorem dX9_init_20 : decode cX9_init 20 = .ok (.invokespecial 20, 3) := by decide +kernel
theorem dX9_init_23 : decode cX9_init 23 = .ok (.putfield 21, 3) := by decide +kernel
theorem dX9_init_26 : decode cX9_init 26 = .ok (.aload_n 0, 1) := by decide +kernel
theorem dX9_init_27 : decode cX9_init 27 = .ok (.new 25, 3) := by decide +kernel
theorem dX9_init_30 : decode cX9_init 30 = .ok (.dup, 1) := by decide +kernel
theorem dX9_init_31 : decode cX9_init 31 = .ok (.invokespecial 27, 3) := by decide +kernel
theorem dX9_init_34 : decode cX9_init 34 = .ok (.putfield 28, 3) := by decide +kernel
theorem dX9_init_37 : decode cX9_init 37 = .ok (.aload_n 0, 1) := by decide +kernel
theorem dX9_init_38 : decode cX9_init 38 = .ok (.iconst 0, 1) := by decide +kernel
theorem dX9_init_39 : decode cX9_init 39 = .ok (.putfield 32, 3) := by decide +kernel
theorem dX9_init_42 : decode cX9_init 42 = .ok (.aload_n 0, 1) := by decide +kernel
theorem dX9_init_43 : decode cX9_init 43 = .ok (.iconst 0, 1) := by decide +kernel
theorem dX9_init_44 : decode cX9_init 44 = .ok (.putfield 36, 3) := by decide +kernel
theorem dX9_init_47 : decode cX9_init 47 = .ok (.aload_n 0, 1) := by decide +kernel
theorem dX9_init_48 : decode cX9_init 48 = .ok (.iconst 0, 1) := by decide +kernel
theorem dX9_init_49 : decode cX9_init 49 = .ok (.putfield 39, 3) := by decide +kernel
theorem dX9_init_52 : decode cX9_init 52 = .ok (.aload_n 0, 1) := by decide +kernel
theorem dX9_init_53 : decode cX9_init 53 = .ok (.iconst 0, 1) := by decide +kernel
theorem dX9_init_54 : decode cX9_init 54 = .ok (.putfield 42, 3) := by decide +kernel
theorem dX9_init_57 : decode cX9_init 57 = .ok (.return_, 1) := by decide +kernel
theorem dX9_copyFrom_0 : decode cX9_copyFrom 0 = .ok (.aload_n 0, 1) := by decide +kernel
theorem dX9_copyFrom_1 : decode cX9_copyFrom 1 = .ok (.getfield 12, 3) := by decide +kernel
theorem dX9_copyFrom_4 : decode cX9_copyFrom 4 = .ok (.aload_n 1, 1) := by decide +kernel
theorem dX9_copyFrom_5 : decode cX9_copyFrom 5 = .ok (.getfield 12, 3) := by decide +kernel
theorem dX9_copyFrom_8 : decode cX9_copyFrom 8 = .ok (.invokevirtual 45, 3) := by decide +kernel
theorem dX9_copyFrom_11 : decode cX9_copyFrom 11 = .ok (.aload_n 0, 1) := by decide +kernel
theorem dX9_copyFrom_12 : decode cX9_copyFrom 12 = .ok (.getfield 21, 3) := by decide +kernel
theorem dX9_copyFrom_15 : decode cX9_copyFrom 15 = .ok (.aload_n 1, 1) := by decide +kernel
theorem dX9_copyFrom_16 : decode cX9_copyFrom 16 = .ok (.getfield 21, 3) := by decide +kernel
theorem dX9_copyFrom_19 : decode cX9_copyFrom 19 = .ok (.invokevirtual 49, 3) := by decide +kernel
theorem dX9_copyFrom_22 : decode cX9_copyFrom 22 = .ok (.aload_n 0, 1) := by decide +kernel
theorem dX9_copyFrom_23 : decode cX9_copyFrom 23 = .ok (.getfield 28, 3) := by decide +kernel
theorem dX9_copyFrom_26 : decode cX9_copyFrom 26 = .ok (.aload_n 1, 1) := by decide +kernel
theorem dX9_copyFrom_27 : decode cX9_copyFrom 27 = .ok (.getfield 28, 3) := by decide +kernel
theorem dX9_copyFrom_30 : decode cX9_copyFrom 30 = .ok (.invokevirtual 52, 3) := by decide +kernel
theorem dX9_copyFrom_33 : decode cX9_copyFrom 33 = .ok (.aload_n 0, 1) := by decide +kernel
theorem dX9_copyFrom_34 : decode cX9_copyFrom 34 = .ok (.aload_n 1, 1) := by decide +kernel
theorem dX9_copyFrom_35 : decode cX9_copyFrom 35 = .ok (.getfield 32, 3) := by decide +kernel
theorem dX9_copyFrom_38 : decode cX9_copyFrom 38 = .ok (.putfield 32, 3) := by decide +kernel
theorem dX9_copyFrom_41 : decode cX9_copyFrom 41 = .ok (.aload_n 0, 1) := by decide +kernel
theorem dX9_copyFrom_42 : decode cX9_copyFrom 42 = .ok (.aload_n 1, 1) := by decide +kernel
theorem dX9_copyFrom_43 : decode cX9_copyFrom 43 = .ok (.getfield 36, 3) := by decide +kernel
theorem dX9_copyFrom_46 : decode cX9_copyFrom 46 = .ok (.putfield 36, 3) := by decide +kernel
theorem dX9_copyFrom_49 : decode cX9_copyFrom 49 = .ok (.aload_n 0, 1) := by decide +kernel
theorem dX9_copyFrom_50 : decode cX9_copyFrom 50 = .ok (.aload_n 1, 1) := by decide +kernel
theorem dX9_copyFrom_51 : decode cX9_copyFrom 51 = .ok (.getfield 39, 3) := by decide +kernel
theorem dX9_copyFrom_54 : decode cX9_copyFrom 54 = .ok (.putfield 39, 3) := by decide +kernel
theorem dX9_copyFrom_57 : decode cX9_copyFrom 57 = .ok (.aload_n 0, 1) := by decide +kernel
theorem dX9_copyFrom_58 : decode cX9_copyFrom 58 = .ok (.aload_n 1, 1) := by decide +kernel
theorem dX9_copyFrom_59 : decode cX9_copyFrom 59 = .ok (.getfield 42, 3) := by decide +kernel
theorem dX9_copyFrom_62 : decode cX9_copyFrom 62 = .ok (.putfield 42, 3) := by decide +kernel
theorem dX9_copyFrom_65 : decode cX9_copyFrom 65 = .ok (.return_, 1) := by decide +kernel
theorem dX9_hasExpired_0 : decode cX9_hasExpired 0 = .ok (.aload_n 0, 1) := by decide +kernel
theorem dX9_hasExpired_1 : decode cX9_hasExpired 1 = .ok (.getfield 32, 3) := by decide +kernel
theorem dX9_hasExpired_4 : decode cX9_hasExpired 4 = .ok (.aload_n 0, 1) := by decide +kernel
theorem dX9_hasExpired_5 : decode cX9_hasExpired 5 = .ok (.getfield 21, 3) := by decide +kernel
theorem dX9_hasExpired_8 : decode cX9_hasExpired 8 = .ok (.getfield 55, 3) := by decide +kernel
theorem dX9_hasExpired_11 : decode cX9_hasExpired 11 = .ok (.iload_n 1, 1) := by decide +kernel
theorem dX9_hasExpired_12 : decode cX9_hasExpired 12 = .ok (.invokevirtual 59, 3) := by decide +kernel
theorem dX9_hasExpired_15 : decode cX9_hasExpired 15 = .ok (.if_icmp .le 7, 3) := by decide +kernel
theorem dX9_hasExpired_18 : decode cX9_hasExpired 18 = .ok (.iconst 1, 1) := by decide +kernel
theorem dX9_hasExpired_19 : decode cX9_hasExpired 19 = .ok (.goto 4, 3) := by decide +kernel
theorem dX9_hasExpired_22 : decode cX9_hasExpired 22 = .ok (.iconst 0, 1) := by decide +kernel
theorem dX9_hasExpired_23 : decode cX9_hasExpired 23 = .ok (.ireturn, 1) := by decide +kernel
theorem dX9_expiredCount_0 : decode cX9_expiredCount 0 = .ok (.iconst 0, 1) := by decide +kernel
theorem dX9_expiredCount_1 : decode cX9_expiredCount 1 = .ok (.istore_n 1, 1) := by decide +kernel
theorem dX9_expiredCount_2 : decode cX9_expiredCount 2 = .ok (.iconst 0, 1) := by decide +kernel
theorem dX9_expiredCount_3 : decode cX9_expiredCount 3 = .ok (.istore_n 2, 1) := by decide +kernel
theorem dX9_expiredCount_4 : decode cX9_expiredCount 4 = .ok (.iload_n 2, 1) := by decide +kernel
theorem dX9_expiredCount_5 : decode cX9_expiredCount 5 = .ok (.aload_n 0, 1) := by decide +kernel
theorem dX9_expiredCount_6 : decode cX9_expiredCount 6 = .ok (.getfield 21, 3) := by decide +kernel
theorem dX9_expiredCount_9 : decode cX9_expiredCount 9 = .ok (.getfield 65, 3) := by decide +kernel
theorem dX9_expiredCount_12 : decode cX9_expiredCount 12 = .ok (.if_icmp .ge 31, 3) := by decide +kernel
theorem dX9_expiredCount_15 : decode cX9_expiredCount 15 = .ok (.aload_n 0, 1) := by decide +kernel
theorem dX9_expiredCount_16 : decode cX9_expiredCount 16 = .ok (.getfield 21, 3) := by decide +kernel
theorem dX9_expiredCount_19 : decode cX9_expiredCount 19 = .ok (.iload_n 2, 1) := by decide +kernel
theorem dX9_expiredCount_20 : decode cX9_expiredCount 20 = .ok (.invokevirtual 68, 3) := by decide +kernel
theorem dX9_expiredCount_23 : decode cX9_expiredCount 23 = .ok (.ifCond .eq 14, 3) := by decide +kernel
theorem dX9_expiredCount_26 : decode cX9_expiredCount 26 = .ok (.aload_n 0, 1) := by decide +kernel
theorem dX9_expiredCount_27 : decode cX9_expiredCount 27 = .ok (.iload_n 2, 1) := by decide +kernel
theorem dX9_expiredCount_28 : decode cX9_expiredCount 28 = .ok (.invokevirtual 72, 3) := by decide +kernel
theorem dX9_expiredCount_31 : decode cX9_expiredCount 31 = .ok (.ifCond .eq 6, 3) := by decide +kernel
theorem dX9_expiredCount_34 : decode cX9_expiredCount 34 = .ok (.iinc 1 1, 3) := by decide +kernel
theorem dX9_expiredCount_37 : decode cX9_expiredCount 37 = .ok (.iinc 2 1, 3) := by decide +kernel
theorem dX9_expiredCount_40 : decode cX9_expiredCount 40 = .ok (.goto (-36), 3) := by decide +kernel
theorem dX9_expiredCount_43 : decode cX9_expiredCount 43 = .ok (.iload_n 1, 1) := by decide +kernel
theorem dX9_expiredCount_44 : decode cX9_expiredCount 44 = .ok (.ireturn, 1) := by decide +kernel
theorem dX9_roomWithout_0 : decode cX9_roomWithout 0 = .ok (.aload_n 0, 1) := by decide +kernel
theorem dX9_roomWithout_1 : decode cX9_roomWithout 1 = .ok (.getfield 12, 3) := by decide +kernel
theorem dX9_roomWithout_4 : decode cX9_roomWithout 4 = .ok (.getfield 75, 3) := by decide +kernel
theorem dX9_roomWithout_7 : decode cX9_roomWithout 7 = .ok (.iload_n 1, 1) := by decide +kernel
theorem dX9_roomWithout_8 : decode cX9_roomWithout 8 = .ok (.invokevirtual 59, 3) := by decide +kernel
theorem dX9_roomWithout_11 : decode cX9_roomWithout 11 = .ok (.istore 4, 2) := by decide +kernel
theorem dX9_roomWithout_13 : decode cX9_roomWithout 13 = .ok (.iconst 0, 1) := by decide +kernel
theorem dX9_roomWithout_14 : decode cX9_roomWithout 14 = .ok (.istore 5, 2) := by decide +kernel
theorem dX9_roomWithout_16 : decode cX9_roomWithout 16 = .ok (.iload 5, 2) := by decide +kernel
theorem dX9_roomWithout_18 : decode cX9_roomWithout 18 = .ok (.aload_n 0, 1) := by decide +kernel
theorem dX9_roomWithout_19 : decode cX9_roomWithout 19 = .ok (.getfield 21, 3) := by decide +kernel
theorem dX9_roomWithout_22 : decode cX9_roomWithout 22 = .ok (.getfield 65, 3) := by decide +kernel
theorem dX9_roomWithout_25 : decode cX9_roomWithout 25 = .ok (.if_icmp .ge 54, 3) := by decide +kernel
theorem dX9_roomWithout_28 : decode cX9_roomWithout 28 = .ok (.aload_n 0, 1) := by decide +kernel
theorem dX9_roomWithout_29 : decode cX9_roomWithout 29 = .ok (.getfield 21, 3) := by decide +kernel
theorem dX9_roomWithout_32 : decode cX9_roomWithout 32 = .ok (.getfield 78, 3) := by decide +kernel
theorem dX9_roomWithout_35 : decode cX9_roomWithout 35 = .ok (.iload 5, 2) := by decide +kernel
theorem dX9_roomWithout_37 : decode cX9_roomWithout 37 = .ok (.invokevirtual 59, 3) := by decide +kernel
theorem dX9_roomWithout_40 : decode cX9_roomWithout 40 = .ok (.iload_n 1, 1) := by decide +kernel
theorem dX9_roomWithout_41 : decode cX9_roomWithout 41 = .ok (.if_icmp .ne 32, 3) := by decide +kernel
theorem dX9_roomWithout_44 : decode cX9_roomWithout 44 = .ok (.iload 5, 2) := by decide +kernel
theorem dX9_roomWithout_46 : decode cX9_roomWithout 46 = .ok (.iload_n 2, 1) := by decide +kernel
theorem dX9_roomWithout_47 : decode cX9_roomWithout 47 = .ok (.if_icmp .eq 26, 3) := by decide +kernel
theorem dX9_roomWithout_50 : decode cX9_roomWithout 50 = .ok (.iload 5, 2) := by decide +kernel
theorem dX9_roomWithout_52 : decode cX9_roomWithout 52 = .ok (.iload_n 3, 1) := by decide +kernel
theorem dX9_roomWithout_53 : decode cX9_roomWithout 53 = .ok (.if_icmp .eq 20, 3) := by decide +kernel
theorem dX9_roomWithout_56 : decode cX9_roomWithout 56 = .ok (.iload 4, 2) := by decide +kernel
theorem dX9_roomWithout_58 : decode cX9_roomWithout 58 = .ok (.aload_n 0, 1) := by decide +kernel
theorem dX9_roomWithout_59 : decode cX9_roomWithout 59 = .ok (.getfield 21, 3) := by decide +kernel
theorem dX9_roomWithout_62 : decode cX9_roomWithout 62 = .ok (.getfield 81, 3) := by decide +kernel
theorem dX9_roomWithout_65 : decode cX9_roomWithout 65 = .ok (.iload 5, 2) := by decide +kernel
theorem dX9_roomWithout_67 : decode cX9_roomWithout 67 = .ok (.invokevirtual 59, 3) := by decide +kernel
theorem dX9_roomWithout_70 : decode cX9_roomWithout 70 = .ok (.isub, 1) := by decide +kernel
theorem dX9_roomWithout_71 : decode cX9_roomWithout 71 = .ok (.istore 4, 2) := by decide +kernel
theorem dX9_roomWithout_73 : decode cX9_roomWithout 73 = .ok (.iinc 5 1, 3) := by decide +kernel
theorem dX9_roomWithout_76 : decode cX9_roomWithout 76 = .ok (.goto (-60), 3) := by decide +kernel
theorem dX9_roomWithout_79 : decode cX9_roomWithout 79 = .ok (.iload 4, 2) := by decide +kernel
theorem dX9_roomWithout_81 : decode cX9_roomWithout 81 = .ok (.ireturn, 1) := by decide +kernel
theorem dX9_placeFor_0 : decode cX9_placeFor 0 = .ok (.iconst (-1), 1) := by decide +kernel
theorem dX9_placeFor_1 : decode cX9_placeFor 1 = .ok (.istore 5, 2) := by decide +kernel
theorem dX9_placeFor_3 : decode cX9_placeFor 3 = .ok (.iconst 0, 1) := by decide +kernel
theorem dX9_placeFor_4 : decode cX9_placeFor 4 = .ok (.istore 6, 2) := by decide +kernel
theorem dX9_placeFor_6 : decode cX9_placeFor 6 = .ok (.iconst 0, 1) := by decide +kernel
theorem dX9_placeFor_7 : decode cX9_placeFor 7 = .ok (.istore 7, 2) := by decide +kernel
theorem dX9_placeFor_9 : decode cX9_placeFor 9 = .ok (.iload 7, 2) := by decide +kernel
theorem dX9_placeFor_11 : decode cX9_placeFor 11 = .ok (.aload_n 0, 1) := by decide +kernel
theorem dX9_placeFor_12 : decode cX9_placeFor 12 = .ok (.getfield 12, 3) := by decide +kernel
theorem dX9_placeFor_15 : decode cX9_placeFor 15 = .ok (.getfield 84, 3) := by decide +kernel
theorem dX9_placeFor_18 : decode cX9_placeFor 18 = .ok (.if_icmp .ge 63, 3) := by decide +kernel
theorem dX9_placeFor_21 : decode cX9_placeFor 21 = .ok (.aload_n 0, 1) := by decide +kernel
theorem dX9_placeFor_22 : decode cX9_placeFor 22 = .ok (.getfield 12, 3) := by decide +kernel
theorem dX9_placeFor_25 : decode cX9_placeFor 25 = .ok (.getfield 85, 3) := by decide +kernel
theorem dX9_placeFor_28 : decode cX9_placeFor 28 = .ok (.iload 7, 2) := by decide +kernel
theorem dX9_placeFor_30 : decode cX9_placeFor 30 = .ok (.invokevirtual 59, 3) := by decide +kernel
theorem dX9_placeFor_33 : decode cX9_placeFor 33 = .ok (.iload_n 1, 1) := by decide +kernel
theorem dX9_placeFor_34 : decode cX9_placeFor 34 = .ok (.if_icmp .ne 41, 3) := by decide +kernel
theorem dX9_placeFor_37 : decode cX9_placeFor 37 = .ok (.aload_n 0, 1) := by decide +kernel
theorem dX9_placeFor_38 : decode cX9_placeFor 38 = .ok (.iload 7, 2) := by decide +kernel
theorem dX9_placeFor_40 : decode cX9_placeFor 40 = .ok (.iload_n 3, 1) := by decide +kernel
theorem dX9_placeFor_41 : decode cX9_placeFor 41 = .ok (.iload 4, 2) := by decide +kernel
theorem dX9_placeFor_43 : decode cX9_placeFor 43 = .ok (.invokevirtual 88, 3) := by decide +kernel
theorem dX9_placeFor_46 : decode cX9_placeFor 46 = .ok (.istore 8, 2) := by decide +kernel
theorem dX9_placeFor_48 : decode cX9_placeFor 48 = .ok (.iload 8, 2) := by decide +kernel
theorem dX9_placeFor_50 : decode cX9_placeFor 50 = .ok (.iload_n 2, 1) := by decide +kernel
theorem dX9_placeFor_51 : decode cX9_placeFor 51 = .ok (.if_icmp .lt 24, 3) := by decide +kernel
theorem dX9_placeFor_54 : decode cX9_placeFor 54 = .ok (.iload 5, 2) := by decide +kernel
theorem dX9_placeFor_56 : decode cX9_placeFor 56 = .ok (.iconst (-1), 1) := by decide +kernel
theorem dX9_placeFor_57 : decode cX9_placeFor 57 = .ok (.if_icmp .eq 10, 3) := by decide +kernel
theorem dX9_placeFor_60 : decode cX9_placeFor 60 = .ok (.iload 8, 2) := by decide +kernel
theorem dX9_placeFor_62 : decode cX9_placeFor 62 = .ok (.iload 6, 2) := by decide +kernel
theorem dX9_placeFor_64 : decode cX9_placeFor 64 = .ok (.if_icmp .ge 11, 3) := by decide +kernel
theorem dX9_placeFor_67 : decode cX9_placeFor 67 = .ok (.iload 7, 2) := by decide +kernel
theorem dX9_placeFor_69 : decode cX9_placeFor 69 = .ok (.istore 5, 2) := by decide +kernel
theorem dX9_placeFor_71 : decode cX9_placeFor 71 = .ok (.iload 8, 2) := by decide +kernel
theorem dX9_placeFor_73 : decode cX9_placeFor 73 = .ok (.istore 6, 2) := by decide +kernel
theorem dX9_placeFor_75 : decode cX9_placeFor 75 = .ok (.iinc 7 1, 3) := by decide +kernel
theorem dX9_placeFor_78 : decode cX9_placeFor 78 = .ok (.goto (-69), 3) := by decide +kernel
theorem dX9_placeFor_81 : decode cX9_placeFor 81 = .ok (.iload 5, 2) := by decide +kernel
theorem dX9_placeFor_83 : decode cX9_placeFor 83 = .ok (.ireturn, 1) := by decide +kernel
theorem dX9_isShippable_0 : decode cX9_isShippable 0 = .ok (.aload_n 0, 1) := by decide +kernel
theorem dX9_isShippable_1 : decode cX9_isShippable 1 = .ok (.getfield 21, 3) := by decide +kernel
theorem dX9_isShippable_4 : decode cX9_isShippable 4 = .ok (.iload_n 1, 1) := by decide +kernel
theorem dX9_isShippable_5 : decode cX9_isShippable 5 = .ok (.invokevirtual 68, 3) := by decide +kernel
theorem dX9_isShippable_8 : decode cX9_isShippable 8 = .ok (.ifCond .eq 30, 3) := by decide +kernel
theorem dX9_isShippable_11 : decode cX9_isShippable 11 = .ok (.aload_n 0, 1) := by decide +kernel
theorem dX9_isShippable_12 : decode cX9_isShippable 12 = .ok (.getfield 21, 3) := by decide +kernel
theorem dX9_isShippable_15 : decode cX9_isShippable 15 = .ok (.getfield 92, 3) := by decide +kernel
theorem dX9_isShippable_18 : decode cX9_isShippable 18 = .ok (.iload_n 1, 1) := by decide +kernel
theorem dX9_isShippable_19 : decode cX9_isShippable 19 = .ok (.invokevirtual 59, 3) := by decide +kernel
theorem dX9_isShippable_22 : decode cX9_isShippable 22 = .ok (.iload_n 2, 1) := by decide +kernel
theorem dX9_isShippable_23 : decode cX9_isShippable 23 = .ok (.if_icmp .ne 15, 3) := by decide +kernel
theorem dX9_isShippable_26 : decode cX9_isShippable 26 = .ok (.aload_n 0, 1) := by decide +kernel
theorem dX9_isShippable_27 : decode cX9_isShippable 27 = .ok (.iload_n 1, 1) := by decide +kernel
theorem dX9_isShippable_28 : decode cX9_isShippable 28 = .ok (.invokevirtual 72, 3) := by decide +kernel
theorem dX9_isShippable_31 : decode cX9_isShippable 31 = .ok (.ifCond .ne 7, 3) := by decide +kernel
theorem dX9_isShippable_34 : decode cX9_isShippable 34 = .ok (.iconst 1, 1) := by decide +kernel
theorem dX9_isShippable_35 : decode cX9_isShippable 35 = .ok (.goto 4, 3) := by decide +kernel
theorem dX9_isShippable_38 : decode cX9_isShippable 38 = .ok (.iconst 0, 1) := by decide +kernel
theorem dX9_isShippable_39 : decode cX9_isShippable 39 = .ok (.ireturn, 1) := by decide +kernel
theorem dX9_shippableVolume_0 : decode cX9_shippableVolume 0 = .ok (.iconst 0, 1) := by decide +kernel
theorem dX9_shippableVolume_1 : decode cX9_shippableVolume 1 = .ok (.istore_n 2, 1) := by decide +kernel
theorem dX9_shippableVolume_2 : decode cX9_shippableVolume 2 = .ok (.iconst 0, 1) := by decide +kernel
theorem dX9_shippableVolume_3 : decode cX9_shippableVolume 3 = .ok (.istore_n 3, 1) := by decide +kernel
theorem dX9_shippableVolume_4 : decode cX9_shippableVolume 4 = .ok (.iload_n 3, 1) := by decide +kernel
theorem dX9_shippableVolume_5 : decode cX9_shippableVolume 5 = .ok (.aload_n 0, 1) := by decide +kernel
theorem dX9_shippableVolume_6 : decode cX9_shippableVolume 6 = .ok (.getfield 21, 3) := by decide +kernel
theorem dX9_shippableVolume_9 : decode cX9_shippableVolume 9 = .ok (.getfield 65, 3) := by decide +kernel
theorem dX9_shippableVolume_12 : decode cX9_shippableVolume 12 = .ok (.if_icmp .ge 32, 3) := by decide +kernel
theorem dX9_shippableVolume_15 : decode cX9_shippableVolume 15 = .ok (.aload_n 0, 1) := by decide +kernel
theorem dX9_shippableVolume_16 : decode cX9_shippableVolume 16 = .ok (.iload_n 3, 1) := by decide +kernel
theorem dX9_shippableVolume_17 : decode cX9_shippableVolume 17 = .ok (.iload_n 1, 1) := by decide +kernel
theorem dX9_shippableVolume_18 : decode cX9_shippableVolume 18 = .ok (.invokevirtual 95, 3) := by decide +kernel
theorem dX9_shippableVolume_21 : decode cX9_shippableVolume 21 = .ok (.ifCond .eq 17, 3) := by decide +kernel
theorem dX9_shippableVolume_24 : decode cX9_shippableVolume 24 = .ok (.iload_n 2, 1) := by decide +kernel
theorem dX9_shippableVolume_25 : decode cX9_shippableVolume 25 = .ok (.aload_n 0, 1) := by decide +kernel
theorem dX9_shippableVolume_26 : decode cX9_shippableVolume 26 = .ok (.getfield 21, 3) := by decide +kernel
theorem dX9_shippableVolume_29 : decode cX9_shippableVolume 29 = .ok (.getfield 81, 3) := by decide +kernel
theorem dX9_shippableVolume_32 : decode cX9_shippableVolume 32 = .ok (.iload_n 3, 1) := by decide +kernel
theorem dX9_shippableVolume_33 : decode cX9_shippableVolume 33 = .ok (.invokevirtual 59, 3) := by decide +kernel
theorem dX9_shippableVolume_36 : decode cX9_shippableVolume 36 = .ok (.iadd, 1) := by decide +kernel
theorem dX9_shippableVolume_37 : decode cX9_shippableVolume 37 = .ok (.istore_n 2, 1) := by decide +kernel
theorem dX9_shippableVolume_38 : decode cX9_shippableVolume 38 = .ok (.iinc 3 1, 3) := by decide +kernel
theorem dX9_shippableVolume_41 : decode cX9_shippableVolume 41 = .ok (.goto (-37), 3) := by decide +kernel
theorem dX9_shippableVolume_44 : decode cX9_shippableVolume 44 = .ok (.iload_n 2, 1) := by decide +kernel
theorem dX9_shippableVolume_45 : decode cX9_shippableVolume 45 = .ok (.ireturn, 1) := by decide +kernel
theorem dX9_earliestShippable_0 : decode cX9_earliestShippable 0 = .ok (.iconst (-1), 1) := by decide +kernel
theorem dX9_earliestShippable_1 : decode cX9_earliestShippable 1 = .ok (.istore_n 2, 1) := by decide +kernel
theorem dX9_earliestShippable_2 : decode cX9_earliestShippable 2 = .ok (.iconst 0, 1) := by decide +kernel
theorem dX9_earliestShippable_3 : decode cX9_earliestShippable 3 = .ok (.istore_n 3, 1) := by decide +kernel
theorem dX9_earliestShippable_4 : decode cX9_earliestShippable 4 = .ok (.iload_n 3, 1) := by decide +kernel
theorem dX9_earliestShippable_5 : decode cX9_earliestShippable 5 = .ok (.aload_n 0, 1) := by decide +kernel
theorem dX9_earliestShippable_6 : decode cX9_earliestShippable 6 = .ok (.getfield 21, 3) := by decide +kernel
theorem dX9_earliestShippable_9 : decode cX9_earliestShippable 9 = .ok (.getfield 65, 3) := by decide +kernel
theorem dX9_earliestShippable_12 : decode cX9_earliestShippable 12 = .ok (.if_icmp .ge 37, 3) := by decide +kernel
theorem dX9_earliestShippable_15 : decode cX9_earliestShippable 15 = .ok (.aload_n 0, 1) := by decide +kernel
theorem dX9_earliestShippable_16 : decode cX9_earliestShippable 16 = .ok (.iload_n 3, 1) := by decide +kernel
theorem dX9_earliestShippable_17 : decode cX9_earliestShippable 17 = .ok (.iload_n 1, 1) := by decide +kernel
theorem dX9_earliestShippable_18 : decode cX9_earliestShippable 18 = .ok (.invokevirtual 95, 3) := by decide +kernel
theorem dX9_earliestShippable_21 : decode cX9_earliestShippable 21 = .ok (.ifCond .eq 22, 3) := by decide +kernel
theorem dX9_earliestShippable_24 : decode cX9_earliestShippable 24 = .ok (.iload_n 2, 1) := by decide +kernel
theorem dX9_earliestShippable_25 : decode cX9_earliestShippable 25 = .ok (.iconst (-1), 1) := by decide +kernel
theorem dX9_earliestShippable_26 : decode cX9_earliestShippable 26 = .ok (.if_icmp .eq 15, 3) := by decide +kernel
theorem dX9_earliestShippable_29 : decode cX9_earliestShippable 29 = .ok (.aload_n 0, 1) := by decide +kernel
theorem dX9_earliestShippable_30 : decode cX9_earliestShippable 30 = .ok (.getfield 21, 3) := by decide +kernel
theorem dX9_earliestShippable_33 : decode cX9_earliestShippable 33 = .ok (.iload_n 3, 1) := by decide +kernel
theorem dX9_earliestShippable_34 : decode cX9_earliestShippable 34 = .ok (.iload_n 2, 1) := by decide +kernel
theorem dX9_earliestShippable_35 : decode cX9_earliestShippable 35 = .ok (.invokevirtual 99, 3) := by decide +kernel
theorem dX9_earliestShippable_38 : decode cX9_earliestShippable 38 = .ok (.ifCond .eq 5, 3) := by decide +kernel
theorem dX9_earliestShippable_41 : decode cX9_earliestShippable 41 = .ok (.iload_n 3, 1) := by decide +kernel
theorem dX9_earliestShippable_42 : decode cX9_earliestShippable 42 = .ok (.istore_n 2, 1) := by decide +kernel
theorem dX9_earliestShippable_43 : decode cX9_earliestShippable 43 = .ok (.iinc 3 1, 3) := by decide +kernel
theorem dX9_earliestShippable_46 : decode cX9_earliestShippable 46 = .ok (.goto (-42), 3) := by decide +kernel
theorem dX9_earliestShippable_49 : decode cX9_earliestShippable 49 = .ok (.iload_n 2, 1) := by decide +kernel
theorem dX9_earliestShippable_50 : decode cX9_earliestShippable 50 = .ok (.ireturn, 1) := by decide +kernel
theorem dX9_shelvedAtRank_0 : decode cX9_shelvedAtRank 0 = .ok (.iconst 0, 1) := by decide +kernel
theorem dX9_shelvedAtRank_1 : decode cX9_shelvedAtRank 1 = .ok (.istore_n 2, 1) := by decide +kernel
theorem dX9_shelvedAtRank_2 : decode cX9_shelvedAtRank 2 = .ok (.iload_n 2, 1) := by decide +kernel
theorem dX9_shelvedAtRank_3 : decode cX9_shelvedAtRank 3 = .ok (.aload_n 0, 1) := by decide +kernel
theorem dX9_shelvedAtRank_4 : decode cX9_shelvedAtRank 4 = .ok (.getfield 21, 3) := by decide +kernel
theorem dX9_shelvedAtRank_7 : decode cX9_shelvedAtRank 7 = .ok (.getfield 65, 3) := by decide +kernel
theorem dX9_shelvedAtRank_10 : decode cX9_shelvedAtRank 10 = .ok (.if_icmp .ge 31, 3) := by decide +kernel
theorem dX9_shelvedAtRank_13 : decode cX9_shelvedAtRank 13 = .ok (.aload_n 0, 1) := by decide +kernel
theorem dX9_shelvedAtRank_14 : decode cX9_shelvedAtRank 14 = .ok (.getfield 21, 3) := by decide +kernel
theorem dX9_shelvedAtRank_17 : decode cX9_shelvedAtRank 17 = .ok (.iload_n 2, 1) := by decide +kernel
theorem dX9_shelvedAtRank_18 : decode cX9_shelvedAtRank 18 = .ok (.invokevirtual 68, 3) := by decide +kernel
theorem dX9_shelvedAtRank_21 : decode cX9_shelvedAtRank 21 = .ok (.ifCond .eq 14, 3) := by decide +kernel
theorem dX9_shelvedAtRank_24 : decode cX9_shelvedAtRank 24 = .ok (.aload_n 0, 1) := by decide +kernel
theorem dX9_shelvedAtRank_25 : decode cX9_shelvedAtRank 25 = .ok (.iload_n 2, 1) := by decide +kernel
theorem dX9_shelvedAtRank_26 : decode cX9_shelvedAtRank 26 = .ok (.invokevirtual 102, 3) := by decide +kernel
theorem dX9_shelvedAtRank_29 : decode cX9_shelvedAtRank 29 = .ok (.iload_n 1, 1) := by decide +kernel
theorem dX9_shelvedAtRank_30 : decode cX9_shelvedAtRank 30 = .ok (.if_icmp .ne 5, 3) := by decide +kernel
theorem dX9_shelvedAtRank_33 : decode cX9_shelvedAtRank 33 = .ok (.iload_n 2, 1) := by decide +kernel
theorem dX9_shelvedAtRank_34 : decode cX9_shelvedAtRank 34 = .ok (.ireturn, 1) := by decide +kernel
theorem dX9_shelvedAtRank_35 : decode cX9_shelvedAtRank 35 = .ok (.iinc 2 1, 3) := by decide +kernel
theorem dX9_shelvedAtRank_38 : decode cX9_shelvedAtRank 38 = .ok (.goto (-36), 3) := by decide +kernel
theorem dX9_shelvedAtRank_41 : decode cX9_shelvedAtRank 41 = .ok (.iconst (-1), 1) := by decide +kernel
theorem dX9_shelvedAtRank_42 : decode cX9_shelvedAtRank 42 = .ok (.ireturn, 1) := by decide +kernel
theorem dX9_rankOfShelved_0 : decode cX9_rankOfShelved 0 = .ok (.iconst 0, 1) := by decide +kernel
theorem dX9_rankOfShelved_1 : decode cX9_rankOfShelved 1 = .ok (.istore_n 2, 1) := by decide +kernel
theorem dX9_rankOfShelved_2 : decode cX9_rankOfShelved 2 = .ok (.iconst 0, 1) := by decide +kernel
theorem dX9_rankOfShelved_3 : decode cX9_rankOfShelved 3 = .ok (.istore_n 3, 1) := by decide +kernel
theorem dX9_rankOfShelved_4 : decode cX9_rankOfShelved 4 = .ok (.iload_n 3, 1) := by decide +kernel
theorem dX9_rankOfShelved_5 : decode cX9_rankOfShelved 5 = .ok (.aload_n 0, 1) := by decide +kernel
theorem dX9_rankOfShelved_6 : decode cX9_rankOfShelved 6 = .ok (.getfield 21, 3) := by decide +kernel
theorem dX9_rankOfShelved_9 : decode cX9_rankOfShelved 9 = .ok (.getfield 65, 3) := by decide +kernel
theorem dX9_rankOfShelved_12 : decode cX9_rankOfShelved 12 = .ok (.if_icmp .ge 35, 3) := by decide +kernel
theorem dX9_rankOfShelved_15 : decode cX9_rankOfShelved 15 = .ok (.aload_n 0, 1) := by decide +kernel
theorem dX9_rankOfShelved_16 : decode cX9_rankOfShelved 16 = .ok (.getfield 21, 3) := by decide +kernel
theorem dX9_rankOfShelved_19 : decode cX9_rankOfShelved 19 = .ok (.iload_n 3, 1) := by decide +kernel
theorem dX9_rankOfShelved_20 : decode cX9_rankOfShelved 20 = .ok (.invokevirtual 68, 3) := by decide +kernel
theorem dX9_rankOfShelved_23 : decode cX9_rankOfShelved 23 = .ok (.ifCond .eq 18, 3) := by decide +kernel
theorem dX9_rankOfShelved_26 : decode cX9_rankOfShelved 26 = .ok (.aload_n 0, 1) := by decide +kernel
theorem dX9_rankOfShelved_27 : decode cX9_rankOfShelved 27 = .ok (.getfield 21, 3) := by decide +kernel
theorem dX9_rankOfShelved_30 : decode cX9_rankOfShelved 30 = .ok (.iload_n 3, 1) := by decide +kernel
theorem dX9_rankOfShelved_31 : decode cX9_rankOfShelved 31 = .ok (.iload_n 1, 1) := by decide +kernel
theorem dX9_rankOfShelved_32 : decode cX9_rankOfShelved 32 = .ok (.invokevirtual 99, 3) := by decide +kernel
theorem dX9_rankOfShelved_35 : decode cX9_rankOfShelved 35 = .ok (.ifCond .eq 6, 3) := by decide +kernel
theorem dX9_rankOfShelved_38 : decode cX9_rankOfShelved 38 = .ok (.iinc 2 1, 3) := by decide +kernel
theorem dX9_rankOfShelved_41 : decode cX9_rankOfShelved 41 = .ok (.iinc 3 1, 3) := by decide +kernel
theorem dX9_rankOfShelved_44 : decode cX9_rankOfShelved 44 = .ok (.goto (-40), 3) := by decide +kernel
theorem dX9_rankOfShelved_47 : decode cX9_rankOfShelved 47 = .ok (.iload_n 2, 1) := by decide +kernel
theorem dX9_rankOfShelved_48 : decode cX9_rankOfShelved 48 = .ok (.ireturn, 1) := by decide +kernel
theorem dX9_shelfAtRank_0 : decode cX9_shelfAtRank 0 = .ok (.iconst 0, 1) := by decide +kernel
theorem dX9_shelfAtRank_1 : decode cX9_shelfAtRank 1 = .ok (.istore_n 2, 1) := by decide +kernel
theorem dX9_shelfAtRank_2 : decode cX9_shelfAtRank 2 = .ok (.iload_n 2, 1) := by decide +kernel
theorem dX9_shelfAtRank_3 : decode cX9_shelfAtRank 3 = .ok (.aload_n 0, 1) := by decide +kernel
theorem dX9_shelfAtRank_4 : decode cX9_shelfAtRank 4 = .ok (.getfield 12, 3) := by decide +kernel
theorem dX9_shelfAtRank_7 : decode cX9_shelfAtRank 7 = .ok (.getfield 84, 3) := by decide +kernel
theorem dX9_shelfAtRank_10 : decode cX9_shelfAtRank 10 = .ok (.if_icmp .ge 20, 3) := by decide +kernel
theorem dX9_shelfAtRank_13 : decode cX9_shelfAtRank 13 = .ok (.aload_n 0, 1) := by decide +kernel
theorem dX9_shelfAtRank_14 : decode cX9_shelfAtRank 14 = .ok (.iload_n 2, 1) := by decide +kernel
theorem dX9_shelfAtRank_15 : decode cX9_shelfAtRank 15 = .ok (.invokevirtual 105, 3) := by decide +kernel
theorem dX9_shelfAtRank_18 : decode cX9_shelfAtRank 18 = .ok (.iload_n 1, 1) := by decide +kernel
theorem dX9_shelfAtRank_19 : decode cX9_shelfAtRank 19 = .ok (.if_icmp .ne 5, 3) := by decide +kernel
theorem dX9_shelfAtRank_22 : decode cX9_shelfAtRank 22 = .ok (.iload_n 2, 1) := by decide +kernel
theorem dX9_shelfAtRank_23 : decode cX9_shelfAtRank 23 = .ok (.ireturn, 1) := by decide +kernel
theorem dX9_shelfAtRank_24 : decode cX9_shelfAtRank 24 = .ok (.iinc 2 1, 3) := by decide +kernel
theorem dX9_shelfAtRank_27 : decode cX9_shelfAtRank 27 = .ok (.goto (-25), 3) := by decide +kernel
theorem dX9_shelfAtRank_30 : decode cX9_shelfAtRank 30 = .ok (.iconst (-1), 1) := by decide +kernel
theorem dX9_shelfAtRank_31 : decode cX9_shelfAtRank 31 = .ok (.ireturn, 1) := by decide +kernel
theorem dX9_rankOfShelf_0 : decode cX9_rankOfShelf 0 = .ok (.iconst 0, 1) := by decide +kernel
theorem dX9_rankOfShelf_1 : decode cX9_rankOfShelf 1 = .ok (.istore_n 2, 1) := by decide +kernel
theorem dX9_rankOfShelf_2 : decode cX9_rankOfShelf 2 = .ok (.iconst 0, 1) := by decide +kernel
theorem dX9_rankOfShelf_3 : decode cX9_rankOfShelf 3 = .ok (.istore_n 3, 1) := by decide +kernel
theorem dX9_rankOfShelf_4 : decode cX9_rankOfShelf 4 = .ok (.iload_n 3, 1) := by decide +kernel
theorem dX9_rankOfShelf_5 : decode cX9_rankOfShelf 5 = .ok (.aload_n 0, 1) := by decide +kernel
theorem dX9_rankOfShelf_6 : decode cX9_rankOfShelf 6 = .ok (.getfield 12, 3) := by decide +kernel
theorem dX9_rankOfShelf_9 : decode cX9_rankOfShelf 9 = .ok (.getfield 84, 3) := by decide +kernel
theorem dX9_rankOfShelf_12 : decode cX9_rankOfShelf 12 = .ok (.if_icmp .ge 21, 3) := by decide +kernel
theorem dX9_rankOfShelf_15 : decode cX9_rankOfShelf 15 = .ok (.aload_n 0, 1) := by decide +kernel
theorem dX9_rankOfShelf_16 : decode cX9_rankOfShelf 16 = .ok (.iload_n 3, 1) := by decide +kernel
theorem dX9_rankOfShelf_17 : decode cX9_rankOfShelf 17 = .ok (.iload_n 1, 1) := by decide +kernel
theorem dX9_rankOfShelf_18 : decode cX9_rankOfShelf 18 = .ok (.invokevirtual 108, 3) := by decide +kernel
theorem dX9_rankOfShelf_21 : decode cX9_rankOfShelf 21 = .ok (.ifCond .eq 6, 3) := by decide +kernel
theorem dX9_rankOfShelf_24 : decode cX9_rankOfShelf 24 = .ok (.iinc 2 1, 3) := by decide +kernel
theorem dX9_rankOfShelf_27 : decode cX9_rankOfShelf 27 = .ok (.iinc 3 1, 3) := by decide +kernel
theorem dX9_rankOfShelf_30 : decode cX9_rankOfShelf 30 = .ok (.goto (-26), 3) := by decide +kernel
theorem dX9_rankOfShelf_33 : decode cX9_rankOfShelf 33 = .ok (.iload_n 2, 1) := by decide +kernel
theorem dX9_rankOfShelf_34 : decode cX9_rankOfShelf 34 = .ok (.ireturn, 1) := by decide +kernel
theorem dX9_isDueBefore_0 : decode cX9_isDueBefore 0 = .ok (.aload_n 0, 1) := by decide +kernel
theorem dX9_isDueBefore_1 : decode cX9_isDueBefore 1 = .ok (.getfield 12, 3) := by decide +kernel
theorem dX9_isDueBefore_4 : decode cX9_isDueBefore 4 = .ok (.getfield 111, 3) := by decide +kernel
theorem dX9_isDueBefore_7 : decode cX9_isDueBefore 7 = .ok (.iload_n 1, 1) := by decide +kernel
theorem dX9_isDueBefore_8 : decode cX9_isDueBefore 8 = .ok (.invokevirtual 59, 3) := by decide +kernel
theorem dX9_isDueBefore_11 : decode cX9_isDueBefore 11 = .ok (.istore_n 3, 1) := by decide +kernel
theorem dX9_isDueBefore_12 : decode cX9_isDueBefore 12 = .ok (.aload_n 0, 1) := by decide +kernel
theorem dX9_isDueBefore_13 : decode cX9_isDueBefore 13 = .ok (.getfield 12, 3) := by decide +kernel
theorem dX9_isDueBefore_16 : decode cX9_isDueBefore 16 = .ok (.getfield 111, 3) := by decide +kernel
theorem dX9_isDueBefore_19 : decode cX9_isDueBefore 19 = .ok (.iload_n 2, 1) := by decide +kernel
theorem dX9_isDueBefore_20 : decode cX9_isDueBefore 20 = .ok (.invokevirtual 59, 3) := by decide +kernel
theorem dX9_isDueBefore_23 : decode cX9_isDueBefore 23 = .ok (.istore 4, 2) := by decide +kernel
theorem dX9_isDueBefore_25 : decode cX9_isDueBefore 25 = .ok (.iload_n 3, 1) := by decide +kernel
theorem dX9_isDueBefore_26 : decode cX9_isDueBefore 26 = .ok (.iload 4, 2) := by decide +kernel
theorem dX9_isDueBefore_28 : decode cX9_isDueBefore 28 = .ok (.if_icmp .eq 15, 3) := by decide +kernel
theorem dX9_isDueBefore_31 : decode cX9_isDueBefore 31 = .ok (.iload_n 3, 1) := by decide +kernel
theorem dX9_isDueBefore_32 : decode cX9_isDueBefore 32 = .ok (.iload 4, 2) := by decide +kernel
theorem dX9_isDueBefore_34 : decode cX9_isDueBefore 34 = .ok (.if_icmp .ge 7, 3) := by decide +kernel
theorem dX9_isDueBefore_37 : decode cX9_isDueBefore 37 = .ok (.iconst 1, 1) := by decide +kernel
theorem dX9_isDueBefore_38 : decode cX9_isDueBefore 38 = .ok (.goto 4, 3) := by decide +kernel
theorem dX9_isDueBefore_41 : decode cX9_isDueBefore 41 = .ok (.iconst 0, 1) := by decide +kernel
theorem dX9_isDueBefore_42 : decode cX9_isDueBefore 42 = .ok (.ireturn, 1) := by decide +kernel
theorem dX9_isDueBefore_43 : decode cX9_isDueBefore 43 = .ok (.aload_n 0, 1) := by decide +kernel
theorem dX9_isDueBefore_44 : decode cX9_isDueBefore 44 = .ok (.getfield 21, 3) := by decide +kernel
theorem dX9_isDueBefore_47 : decode cX9_isDueBefore 47 = .ok (.iload_n 1, 1) := by decide +kernel
theorem dX9_isDueBefore_48 : decode cX9_isDueBefore 48 = .ok (.invokevirtual 114, 3) := by decide +kernel
theorem dX9_isDueBefore_51 : decode cX9_isDueBefore 51 = .ok (.istore 5, 2) := by decide +kernel
theorem dX9_isDueBefore_53 : decode cX9_isDueBefore 53 = .ok (.aload_n 0, 1) := by decide +kernel
theorem dX9_isDueBefore_54 : decode cX9_isDueBefore 54 = .ok (.getfield 21, 3) := by decide +kernel
theorem dX9_isDueBefore_57 : decode cX9_isDueBefore 57 = .ok (.iload_n 2, 1) := by decide +kernel
theorem dX9_isDueBefore_58 : decode cX9_isDueBefore 58 = .ok (.invokevirtual 114, 3) := by decide +kernel
theorem dX9_isDueBefore_61 : decode cX9_isDueBefore 61 = .ok (.istore 6, 2) := by decide +kernel
theorem dX9_isDueBefore_63 : decode cX9_isDueBefore 63 = .ok (.iload 5, 2) := by decide +kernel
theorem dX9_isDueBefore_65 : decode cX9_isDueBefore 65 = .ok (.iload 6, 2) := by decide +kernel
theorem dX9_isDueBefore_67 : decode cX9_isDueBefore 67 = .ok (.if_icmp .gt 15, 3) := by decide +kernel
theorem dX9_isDueBefore_70 : decode cX9_isDueBefore 70 = .ok (.iload 5, 2) := by decide +kernel
theorem dX9_isDueBefore_72 : decode cX9_isDueBefore 72 = .ok (.iload 6, 2) := by decide +kernel
theorem dX9_isDueBefore_74 : decode cX9_isDueBefore 74 = .ok (.if_icmp .ne 12, 3) := by decide +kernel
theorem dX9_isDueBefore_77 : decode cX9_isDueBefore 77 = .ok (.iload_n 1, 1) := by decide +kernel
theorem dX9_isDueBefore_78 : decode cX9_isDueBefore 78 = .ok (.iload_n 2, 1) := by decide +kernel
theorem dX9_isDueBefore_79 : decode cX9_isDueBefore 79 = .ok (.if_icmp .ge 7, 3) := by decide +kernel
theorem dX9_isDueBefore_82 : decode cX9_isDueBefore 82 = .ok (.iconst 1, 1) := by decide +kernel
theorem dX9_isDueBefore_83 : decode cX9_isDueBefore 83 = .ok (.goto 4, 3) := by decide +kernel
theorem dX9_isDueBefore_86 : decode cX9_isDueBefore 86 = .ok (.iconst 0, 1) := by decide +kernel
theorem dX9_isDueBefore_87 : decode cX9_isDueBefore 87 = .ok (.ireturn, 1) := by decide +kernel
theorem dX10_init_0 : decode cX10_init 0 = .ok (.aload_n 0, 1) := by decide +kernel
theorem dX10_init_1 : decode cX10_init 1 = .ok (.invokespecial 3, 3) := by decide +kernel
theorem dX10_init_4 : decode cX10_init 4 = .ok (.aload_n 0, 1) := by decide +kernel
theorem dX10_init_5 : decode cX10_init 5 = .ok (.new 9, 3) := by decide +kernel
theorem dX10_init_8 : decode cX10_init 8 = .ok (.dup, 1) := by decide +kernel
theorem dX10_init_9 : decode cX10_init 9 = .ok (.bipush 60, 2) := by decide +kernel
theorem dX10_init_11 : decode cX10_init 11 = .ok (.invokespecial 11, 3) := by decide +kernel
theorem dX10_init_14 : decode cX10_init 14 = .ok (.putfield 14, 3) := by decide +kernel
theorem dX10_init_17 : decode cX10_init 17 = .ok (.aload_n 0, 1) := by decide +kernel
theorem dX10_init_18 : decode cX10_init 18 = .ok (.new 9, 3) := by decide +kernel
theorem dX10_init_21 : decode cX10_init 21 = .ok (.dup, 1) := by decide +kernel
theorem dX10_init_22 : decode cX10_init 22 = .ok (.iconst 4, 1) := by decide +kernel
theorem dX10_init_23 : decode cX10_init 23 = .ok (.invokespecial 11, 3) := by decide +kernel
theorem dX10_init_26 : decode cX10_init 26 = .ok (.putfield 20, 3) := by decide +kernel
theorem dX10_init_29 : decode cX10_init 29 = .ok (.aload_n 0, 1) := by decide +kernel
theorem dX10_init_30 : decode cX10_init 30 = .ok (.iconst 0, 1) := by decide +kernel
theorem dX10_init_31 : decode cX10_init 31 = .ok (.putfield 23, 3) := by decide +kernel
theorem dX10_init_34 : decode cX10_init 34 = .ok (.aload_n 0, 1) := by decide +kernel
theorem dX10_init_35 : decode cX10_init 35 = .ok (.iconst (-1), 1) := by decide +kernel
theorem dX10_init_36 : decode cX10_init 36 = .ok (.putfield 27, 3) := by decide +kernel
theorem dX10_init_39 : decode cX10_init 39 = .ok (.aload_n 0, 1) := by decide +kernel
theorem dX10_init_40 : decode cX10_init 40 = .ok (.iconst (-1), 1) := by decide +kernel
theorem dX10_init_41 : decode cX10_init 41 = .ok (.putfield 30, 3) := by decide +kernel
theorem dX10_init_44 : decode cX10_init 44 = .ok (.aload_n 0, 1) := by decide +kernel
theorem dX10_init_45 : decode cX10_init 45 = .ok (.iconst 0, 1) := by decide +kernel
theorem dX10_init_46 : decode cX10_init 46 = .ok (.putfield 33, 3) := by decide +kernel
theorem dX10_init_49 : decode cX10_init 49 = .ok (.return_, 1) := by decide +kernel
theorem dX10_append_0 : decode cX10_append 0 = .ok (.aload_n 0, 1) := by decide +kernel
theorem dX10_append_1 : decode cX10_append 1 = .ok (.getfield 14, 3) := by decide +kernel
theorem dX10_append_4 : decode cX10_append 4 = .ok (.aload_n 0, 1) := by decide +kernel
theorem dX10_append_5 : decode cX10_append 5 = .ok (.getfield 23, 3) := by decide +kernel
theorem dX10_append_8 : decode cX10_append 8 = .ok (.iload_n 1, 1) := by decide +kernel
theorem dX10_append_9 : decode cX10_append 9 = .ok (.invokevirtual 36, 3) := by decide +kernel
theorem dX10_append_12 : decode cX10_append 12 = .ok (.aload_n 0, 1) := by decide +kernel
theorem dX10_append_13 : decode cX10_append 13 = .ok (.dup, 1) := by decide +kernel
theorem dX10_append_14 : decode cX10_append 14 = .ok (.getfield 23, 3) := by decide +kernel
theorem dX10_append_17 : decode cX10_append 17 = .ok (.iconst 1, 1) := by decide +kernel
theorem dX10_append_18 : decode cX10_append 18 = .ok (.iadd, 1) := by decide +kernel
theorem dX10_append_19 : decode cX10_append 19 = .ok (.putfield 23, 3) := by decide +kernel
theorem dX10_append_22 : decode cX10_append 22 = .ok (.return_, 1) := by decide +kernel
theorem dX10_clear_0 : decode cX10_clear 0 = .ok (.aload_n 0, 1) := by decide +kernel
theorem dX10_clear_1 : decode cX10_clear 1 = .ok (.iconst 0, 1) := by decide +kernel
theorem dX10_clear_2 : decode cX10_clear 2 = .ok (.putfield 23, 3) := by decide +kernel
theorem dX10_clear_5 : decode cX10_clear 5 = .ok (.return_, 1) := by decide +kernel
theorem dX10_commandsOrFault_0 : decode cX10_commandsOrFault 0 = .ok (.iconst 0, 1) := by decide +kernel
theorem dX10_commandsOrFault_1 : decode cX10_commandsOrFault 1 = .ok (.istore_n 1, 1) := by decide +kernel
theorem dX10_commandsOrFault_2 : decode cX10_commandsOrFault 2 = .ok (.iconst 1, 1) := by decide +kernel
theorem dX10_commandsOrFault_3 : decode cX10_commandsOrFault 3 = .ok (.istore_n 2, 1) := by decide +kernel
theorem dX10_commandsOrFault_4 : decode cX10_commandsOrFault 4 = .ok (.iload_n 2, 1) := by decide +kernel
theorem dX10_commandsOrFault_5 : decode cX10_commandsOrFault 5 = .ok (.bipush 60, 2) := by decide +kernel
theorem dX10_commandsOrFault_7 : decode cX10_commandsOrFault 7 = .ok (.if_icmp .gt 56, 3) := by decide +kernel
theorem dX10_commandsOrFault_10 : decode cX10_commandsOrFault 10 = .ok (.aload_n 0, 1) := by decide +kernel
theorem dX10_commandsOrFault_11 : decode cX10_commandsOrFault 11 = .ok (.iload_n 1, 1) := by decide +kernel
theorem dX10_commandsOrFault_12 : decode cX10_commandsOrFault 12 = .ok (.invokevirtual 40, 3) := by decide +kernel
theorem dX10_commandsOrFault_15 : decode cX10_commandsOrFault 15 = .ok (.ifCond .ne 6, 3) := by decide +kernel
theorem dX10_commandsOrFault_18 : decode cX10_commandsOrFault 18 = .ok (.goto 45, 3) := by decide +kernel
theorem dX10_commandsOrFault_21 : decode cX10_commandsOrFault 21 = .ok (.aload_n 0, 1) := by decide +kernel
theorem dX10_commandsOrFault_22 : decode cX10_commandsOrFault 22 = .ok (.getfield 33, 3) := by decide +kernel
theorem dX10_commandsOrFault_25 : decode cX10_commandsOrFault 25 = .ok (.aload_n 0, 1) := by decide +kernel
theorem dX10_commandsOrFault_26 : decode cX10_commandsOrFault 26 = .ok (.getfield 23, 3) := by decide +kernel
theorem dX10_commandsOrFault_29 : decode cX10_commandsOrFault 29 = .ok (.if_icmp .ne 5, 3) := by decide +kernel
theorem dX10_commandsOrFault_32 : decode cX10_commandsOrFault 32 = .ok (.iload_n 2, 1) := by decide +kernel
theorem dX10_commandsOrFault_33 : decode cX10_commandsOrFault 33 = .ok (.ireturn, 1) := by decide +kernel
theorem dX10_commandsOrFault_34 : decode cX10_commandsOrFault 34 = .ok (.aload_n 0, 1) := by decide +kernel
theorem dX10_commandsOrFault_35 : decode cX10_commandsOrFault 35 = .ok (.aload_n 0, 1) := by decide +kernel
theorem dX10_commandsOrFault_36 : decode cX10_commandsOrFault 36 = .ok (.getfield 33, 3) := by decide +kernel
theorem dX10_commandsOrFault_39 : decode cX10_commandsOrFault 39 = .ok (.invokevirtual 44, 3) := by decide +kernel
theorem dX10_commandsOrFault_42 : decode cX10_commandsOrFault 42 = .ok (.bipush 59, 2) := by decide +kernel
theorem dX10_commandsOrFault_44 : decode cX10_commandsOrFault 44 = .ok (.if_icmp .eq 6, 3) := by decide +kernel
theorem dX10_commandsOrFault_47 : decode cX10_commandsOrFault 47 = .ok (.goto 16, 3) := by decide +kernel
theorem dX10_commandsOrFault_50 : decode cX10_commandsOrFault 50 = .ok (.aload_n 0, 1) := by decide +kernel
theorem dX10_commandsOrFault_51 : decode cX10_commandsOrFault 51 = .ok (.getfield 33, 3) := by decide +kernel
theorem dX10_commandsOrFault_54 : decode cX10_commandsOrFault 54 = .ok (.iconst 1, 1) := by decide +kernel
theorem dX10_commandsOrFault_55 : decode cX10_commandsOrFault 55 = .ok (.iadd, 1) := by decide +kernel
theorem dX10_commandsOrFault_56 : decode cX10_commandsOrFault 56 = .ok (.istore_n 1, 1) := by decide +kernel
theorem dX10_commandsOrFault_57 : decode cX10_commandsOrFault 57 = .ok (.iinc 2 1, 3) := by decide +kernel
theorem dX10_commandsOrFault_60 : decode cX10_commandsOrFault 60 = .ok (.goto (-56), 3) := by decide +kernel
theorem dX10_commandsOrFault_63 : decode cX10_commandsOrFault 63 = .ok (.aload_n 0, 1) := by decide +kernel
theorem dX10_commandsOrFault_64 : decode cX10_commandsOrFault 64 = .ok (.aload_n 0, 1) := by decide +kernel
theorem dX10_commandsOrFault_65 : decode cX10_commandsOrFault 65 = .ok (.getfield 33, 3) := by decide +kernel
theorem dX10_commandsOrFault_68 : decode cX10_commandsOrFault 68 = .ok (.putfield 27, 3) := by decide +kernel
theorem dX10_commandsOrFault_71 : decode cX10_commandsOrFault 71 = .ok (.iconst (-1), 1) := by decide +kernel
theorem dX10_commandsOrFault_72 : decode cX10_commandsOrFault 72 = .ok (.ireturn, 1) := by decide +kernel
theorem dX10_read_0 : decode cX10_read 0 = .ok (.iload_n 1, 1) := by decide +kernel
theorem dX10_read_1 : decode cX10_read 1 = .ok (.istore_n 2, 1) := by decide +kernel
theorem dX10_read_2 : decode cX10_read 2 = .ok (.iconst 0, 1) := by decide +kernel
theorem dX10_read_3 : decode cX10_read 3 = .ok (.istore_n 3, 1) := by decide +kernel
theorem dX10_read_4 : decode cX10_read 4 = .ok (.iload_n 3, 1) := by decide +kernel
theorem dX10_read_5 : decode cX10_read 5 = .ok (.bipush 10, 2) := by decide +kernel
theorem dX10_read_7 : decode cX10_read 7 = .ok (.if_icmp .ge 37, 3) := by decide +kernel
theorem dX10_read_10 : decode cX10_read 10 = .ok (.aload_n 0, 1) := by decide +kernel
theorem dX10_read_11 : decode cX10_read 11 = .ok (.iload_n 3, 1) := by decide +kernel
theorem dX10_read_12 : decode cX10_read 12 = .ok (.invokestatic 48, 3) := by decide +kernel
theorem dX10_read_15 : decode cX10_read 15 = .ok (.iload_n 1, 1) := by decide +kernel
theorem dX10_read_16 : decode cX10_read 16 = .ok (.invokevirtual 52, 3) := by decide +kernel
theorem dX10_read_19 : decode cX10_read 19 = .ok (.ifCond .eq 10, 3) := by decide +kernel
theorem dX10_read_22 : decode cX10_read 22 = .ok (.aload_n 0, 1) := by decide +kernel
theorem dX10_read_23 : decode cX10_read 23 = .ok (.iload_n 3, 1) := by decide +kernel
theorem dX10_read_24 : decode cX10_read 24 = .ok (.putfield 30, 3) := by decide +kernel
theorem dX10_read_27 : decode cX10_read 27 = .ok (.iconst 1, 1) := by decide +kernel
theorem dX10_read_28 : decode cX10_read 28 = .ok (.ireturn, 1) := by decide +kernel
theorem dX10_read_29 : decode cX10_read 29 = .ok (.iload_n 2, 1) := by decide +kernel
theorem dX10_read_30 : decode cX10_read 30 = .ok (.aload_n 0, 1) := by decide +kernel
theorem dX10_read_31 : decode cX10_read 31 = .ok (.getfield 33, 3) := by decide +kernel
theorem dX10_read_34 : decode cX10_read 34 = .ok (.invokestatic 56, 3) := by decide +kernel
theorem dX10_read_37 : decode cX10_read 37 = .ok (.istore_n 2, 1) := by decide +kernel
theorem dX10_read_38 : decode cX10_read 38 = .ok (.iinc 3 1, 3) := by decide +kernel
theorem dX10_read_41 : decode cX10_read 41 = .ok (.goto (-37), 3) := by decide +kernel
theorem dX10_read_44 : decode cX10_read 44 = .ok (.aload_n 0, 1) := by decide +kernel
theorem dX10_read_45 : decode cX10_read 45 = .ok (.iload_n 2, 1) := by decide +kernel
theorem dX10_read_46 : decode cX10_read 46 = .ok (.putfield 33, 3) := by decide +kernel
theorem dX10_read_49 : decode cX10_read 49 = .ok (.iconst 0, 1) := by decide +kernel
theorem dX10_read_50 : decode cX10_read 50 = .ok (.ireturn, 1) := by decide +kernel
theorem dX10_pattern_0 : decode cX10_pattern 0 = .ok (.iload_n 0, 1) := by decide +kernel
theorem dX10_pattern_1 : decode cX10_pattern 1 = .ok (.tableswitch 78 0 8 #[51, 54, 57, 60, 63, 66, 69, 72, 75], 51) := by decide +kernel
theorem dX10_pattern_52 : decode cX10_pattern 52 = .ok (.ldc 62, 2) := by decide +kernel
theorem dX10_pattern_54 : decode cX10_pattern 54 = .ok (.areturn, 1) := by decide +kernel
theorem dX10_pattern_55 : decode cX10_pattern 55 = .ok (.ldc 64, 2) := by decide +kernel
theorem dX10_pattern_57 : decode cX10_pattern 57 = .ok (.areturn, 1) := by decide +kernel
theorem dX10_pattern_58 : decode cX10_pattern 58 = .ok (.ldc 66, 2) := by decide +kernel
theorem dX10_pattern_60 : decode cX10_pattern 60 = .ok (.areturn, 1) := by decide +kernel
theorem dX10_pattern_61 : decode cX10_pattern 61 = .ok (.ldc 68, 2) := by decide +kernel
theorem dX10_pattern_63 : decode cX10_pattern 63 = .ok (.areturn, 1) := by decide +kernel
theorem dX10_pattern_64 : decode cX10_pattern 64 = .ok (.ldc 70, 2) := by decide +kernel
theorem dX10_pattern_66 : decode cX10_pattern 66 = .ok (.areturn, 1) := by decide +kernel
theorem dX10_pattern_67 : decode cX10_pattern 67 = .ok (.ldc 72, 2) := by decide +kernel
theorem dX10_pattern_69 : decode cX10_pattern 69 = .ok (.areturn, 1) := by decide +kernel
theorem dX10_pattern_70 : decode cX10_pattern 70 = .ok (.ldc 74, 2) := by decide +kernel
theorem dX10_pattern_72 : decode cX10_pattern 72 = .ok (.areturn, 1) := by decide +kernel
theorem dX10_pattern_73 : decode cX10_pattern 73 = .ok (.ldc 76, 2) := by decide +kernel
theorem dX10_pattern_75 : decode cX10_pattern 75 = .ok (.areturn, 1) := by decide +kernel
theorem dX10_pattern_76 : decode cX10_pattern 76 = .ok (.ldc 78, 2) := by decide +kernel
theorem dX10_pattern_78 : decode cX10_pattern 78 = .ok (.areturn, 1) := by decide +kernel
theorem dX10_pattern_79 : decode cX10_pattern 79 = .ok (.ldc 80, 2) := by decide +kernel
theorem dX10_pattern_81 : decode cX10_pattern 81 = .ok (.areturn, 1) := by decide +kernel
theorem dX10_fits_0 : decode cX10_fits 0 = .ok (.aload_n 0, 1) := by decide +kernel
theorem dX10_fits_1 : decode cX10_fits 1 = .ok (.iload_n 2, 1) := by decide +kernel
theorem dX10_fits_2 : decode cX10_fits 2 = .ok (.putfield 33, 3) := by decide +kernel
theorem dX10_fits_5 : decode cX10_fits 5 = .ok (.iconst 0, 1) := by decide +kernel
theorem dX10_fits_6 : decode cX10_fits 6 = .ok (.istore_n 3, 1) := by decide +kernel
theorem dX10_fits_7 : decode cX10_fits 7 = .ok (.iconst 0, 1) := by decide +kernel
theorem dX10_fits_8 : decode cX10_fits 8 = .ok (.istore 4, 2) := by decide +kernel
theorem dX10_fits_10 : decode cX10_fits 10 = .ok (.iload 4, 2) := by decide +kernel
theorem dX10_fits_12 : decode cX10_fits 12 = .ok (.aload_n 1, 1) := by decide +kernel
theorem dX10_fits_13 : decode cX10_fits 13 = .ok (.invokevirtual 82, 3) := by decide +kernel
theorem dX10_fits_16 : decode cX10_fits 16 = .ok (.if_icmp .ge 87, 3) := by decide +kernel
theorem dX10_fits_19 : decode cX10_fits 19 = .ok (.aload_n 1, 1) := by decide +kernel
theorem dX10_fits_20 : decode cX10_fits 20 = .ok (.iload 4, 2) := by decide +kernel
theorem dX10_fits_22 : decode cX10_fits 22 = .ok (.invokevirtual 87, 3) := by decide +kernel
theorem dX10_fits_25 : decode cX10_fits 25 = .ok (.istore 5, 2) := by decide +kernel
theorem dX10_fits_27 : decode cX10_fits 27 = .ok (.iload 5, 2) := by decide +kernel
theorem dX10_fits_29 : decode cX10_fits 29 = .ok (.bipush 35, 2) := by decide +kernel
theorem dX10_fits_31 : decode cX10_fits 31 = .ok (.if_icmp .eq 10, 3) := by decide +kernel
theorem dX10_fits_34 : decode cX10_fits 34 = .ok (.iload 5, 2) := by decide +kernel
theorem dX10_fits_36 : decode cX10_fits 36 = .ok (.bipush 42, 2) := by decide +kernel
theorem dX10_fits_38 : decode cX10_fits 38 = .ok (.if_icmp .ne 31, 3) := by decide +kernel
theorem dX10_fits_41 : decode cX10_fits 41 = .ok (.aload_n 0, 1) := by decide +kernel
theorem dX10_fits_42 : decode cX10_fits 42 = .ok (.iload 5, 2) := by decide +kernel
theorem dX10_fits_44 : decode cX10_fits 44 = .ok (.bipush 35, 2) := by decide +kernel
theorem dX10_fits_46 : decode cX10_fits 46 = .ok (.if_icmp .ne 7, 3) := by decide +kernel
theorem dX10_fits_49 : decode cX10_fits 49 = .ok (.iconst 1, 1) := by decide +kernel
theorem dX10_fits_50 : decode cX10_fits 50 = .ok (.goto 4, 3) := by decide +kernel
theorem dX10_fits_53 : decode cX10_fits 53 = .ok (.iconst 2, 1) := by decide +kernel
theorem dX10_fits_54 : decode cX10_fits 54 = .ok (.iload_n 3, 1) := by decide +kernel
theorem dX10_fits_55 : decode cX10_fits 55 = .ok (.invokevirtual 91, 3) := by decide +kernel
theorem dX10_fits_58 : decode cX10_fits 58 = .ok (.ifCond .ne 5, 3) := by decide +kernel
theorem dX10_fits_61 : decode cX10_fits 61 = .ok (.iconst 0, 1) := by decide +kernel
theorem dX10_fits_62 : decode cX10_fits 62 = .ok (.ireturn, 1) := by decide +kernel
theorem dX10_fits_63 : decode cX10_fits 63 = .ok (.iinc 3 1, 3) := by decide +kernel
theorem dX10_fits_66 : decode cX10_fits 66 = .ok (.goto 31, 3) := by decide +kernel
theorem dX10_fits_69 : decode cX10_fits 69 = .ok (.aload_n 0, 1) := by decide +kernel
theorem dX10_fits_70 : decode cX10_fits 70 = .ok (.aload_n 0, 1) := by decide +kernel
theorem dX10_fits_71 : decode cX10_fits 71 = .ok (.getfield 33, 3) := by decide +kernel
theorem dX10_fits_74 : decode cX10_fits 74 = .ok (.invokevirtual 44, 3) := by decide +kernel
theorem dX10_fits_77 : decode cX10_fits 77 = .ok (.iload 5, 2) := by decide +kernel
theorem dX10_fits_79 : decode cX10_fits 79 = .ok (.if_icmp .ne 16, 3) := by decide +kernel
theorem dX10_fits_82 : decode cX10_fits 82 = .ok (.aload_n 0, 1) := by decide +kernel
theorem dX10_fits_83 : decode cX10_fits 83 = .ok (.dup, 1) := by decide +kernel
theorem dX10_fits_84 : decode cX10_fits 84 = .ok (.getfield 33, 3) := by decide +kernel
theorem dX10_fits_87 : decode cX10_fits 87 = .ok (.iconst 1, 1) := by decide +kernel
theorem dX10_fits_88 : decode cX10_fits 88 = .ok (.iadd, 1) := by decide +kernel
theorem dX10_fits_89 : decode cX10_fits 89 = .ok (.putfield 33, 3) := by decide +kernel
theorem dX10_fits_92 : decode cX10_fits 92 = .ok (.goto 5, 3) := by decide +kernel
theorem dX10_fits_95 : decode cX10_fits 95 = .ok (.iconst 0, 1) := by decide +kernel
theorem dX10_fits_96 : decode cX10_fits 96 = .ok (.ireturn, 1) := by decide +kernel
theorem dX10_fits_97 : decode cX10_fits 97 = .ok (.iinc 4 1, 3) := by decide +kernel
theorem dX10_fits_100 : decode cX10_fits 100 = .ok (.goto (-90), 3) := by decide +kernel
theorem dX10_fits_103 : decode cX10_fits 103 = .ok (.iconst 1, 1) := by decide +kernel
theorem dX10_fits_104 : decode cX10_fits 104 = .ok (.ireturn, 1) := by decide +kernel
theorem dX10_takeDigits_0 : decode cX10_takeDigits 0 = .ok (.iconst 0, 1) := by decide +kernel
theorem dX10_takeDigits_1 : decode cX10_takeDigits 1 = .ok (.istore_n 3, 1) := by decide +kernel
theorem dX10_takeDigits_2 : decode cX10_takeDigits 2 = .ok (.iconst 0, 1) := by decide +kernel
theorem dX10_takeDigits_3 : decode cX10_takeDigits 3 = .ok (.istore 4, 2) := by decide +kernel
theorem dX10_takeDigits_5 : decode cX10_takeDigits 5 = .ok (.iload 4, 2) := by decide +kernel
theorem dX10_takeDigits_7 : decode cX10_takeDigits 7 = .ok (.iload_n 1, 1) := by decide +kernel
theorem dX10_takeDigits_8 : decode cX10_takeDigits 8 = .ok (.if_icmp .ge 50, 3) := by decide +kernel
theorem dX10_takeDigits_11 : decode cX10_takeDigits 11 = .ok (.aload_n 0, 1) := by decide +kernel
theorem dX10_takeDigits_12 : decode cX10_takeDigits 12 = .ok (.aload_n 0, 1) := by decide +kernel
theorem dX10_takeDigits_13 : decode cX10_takeDigits 13 = .ok (.getfield 33, 3) := by decide +kernel
theorem dX10_takeDigits_16 : decode cX10_takeDigits 16 = .ok (.invokevirtual 44, 3) := by decide +kernel
theorem dX10_takeDigits_19 : decode cX10_takeDigits 19 = .ok (.invokestatic 95, 3) := by decide +kernel
theorem dX10_takeDigits_22 : decode cX10_takeDigits 22 = .ok (.ifCond .eq 36, 3) := by decide +kernel
theorem dX10_takeDigits_25 : decode cX10_takeDigits 25 = .ok (.bipush 10, 2) := by decide +kernel
theorem dX10_takeDigits_27 : decode cX10_takeDigits 27 = .ok (.iload_n 3, 1) := by decide +kernel
theorem dX10_takeDigits_28 : decode cX10_takeDigits 28 = .ok (.imul, 1) := by decide +kernel
theorem dX10_takeDigits_29 : decode cX10_takeDigits 29 = .ok (.aload_n 0, 1) := by decide +kernel
theorem dX10_takeDigits_30 : decode cX10_takeDigits 30 = .ok (.aload_n 0, 1) := by decide +kernel
theorem dX10_takeDigits_31 : decode cX10_takeDigits 31 = .ok (.getfield 33, 3) := by decide +kernel
theorem dX10_takeDigits_34 : decode cX10_takeDigits 34 = .ok (.invokevirtual 44, 3) := by decide +kernel
theorem dX10_takeDigits_37 : decode cX10_takeDigits 37 = .ok (.iadd, 1) := by decide +kernel
theorem dX10_takeDigits_38 : decode cX10_takeDigits 38 = .ok (.bipush 48, 2) := by decide +kernel
theorem dX10_takeDigits_40 : decode cX10_takeDigits 40 = .ok (.isub, 1) := by decide +kernel
theorem dX10_takeDigits_41 : decode cX10_takeDigits 41 = .ok (.istore_n 3, 1) := by decide +kernel
theorem dX10_takeDigits_42 : decode cX10_takeDigits 42 = .ok (.aload_n 0, 1) := by decide +kernel
theorem dX10_takeDigits_43 : decode cX10_takeDigits 43 = .ok (.dup, 1) := by decide +kernel
theorem dX10_takeDigits_44 : decode cX10_takeDigits 44 = .ok (.getfield 33, 3) := by decide +kernel
theorem dX10_takeDigits_47 : decode cX10_takeDigits 47 = .ok (.iconst 1, 1) := by decide +kernel
theorem dX10_takeDigits_48 : decode cX10_takeDigits 48 = .ok (.iadd, 1) := by decide +kernel
theorem dX10_takeDigits_49 : decode cX10_takeDigits 49 = .ok (.putfield 33, 3) := by decide +kernel
theorem dX10_takeDigits_52 : decode cX10_takeDigits 52 = .ok (.iinc 4 1, 3) := by decide +kernel
theorem dX10_takeDigits_55 : decode cX10_takeDigits 55 = .ok (.goto (-50), 3) := by decide +kernel
theorem dX10_takeDigits_58 : decode cX10_takeDigits 58 = .ok (.aload_n 0, 1) := by decide +kernel
theorem dX10_takeDigits_59 : decode cX10_takeDigits 59 = .ok (.getfield 20, 3) := by decide +kernel
theorem dX10_takeDigits_62 : decode cX10_takeDigits 62 = .ok (.iload_n 2, 1) := by decide +kernel
theorem dX10_takeDigits_63 : decode cX10_takeDigits 63 = .ok (.iload_n 3, 1) := by decide +kernel
theorem dX10_takeDigits_64 : decode cX10_takeDigits 64 = .ok (.invokevirtual 36, 3) := by decide +kernel
theorem dX10_takeDigits_67 : decode cX10_takeDigits 67 = .ok (.iload 4, 2) := by decide +kernel
theorem dX10_takeDigits_69 : decode cX10_takeDigits 69 = .ok (.ifCond .le 7, 3) := by decide +kernel
theorem dX10_takeDigits_72 : decode cX10_takeDigits 72 = .ok (.iconst 1, 1) := by decide +kernel
theorem dX10_takeDigits_73 : decode cX10_takeDigits 73 = .ok (.goto 4, 3) := by decide +kernel
theorem dX10_takeDigits_76 : decode cX10_takeDigits 76 = .ok (.iconst 0, 1) := by decide +kernel
theorem dX10_takeDigits_77 : decode cX10_takeDigits 77 = .ok (.ireturn, 1) := by decide +kernel
theorem dX10_characterAt_0 : decode cX10_characterAt 0 = .ok (.iload_n 1, 1) := by decide +kernel
theorem dX10_characterAt_1 : decode cX10_characterAt 1 = .ok (.aload_n 0, 1) := by decide +kernel
theorem dX10_characterAt_2 : decode cX10_characterAt 2 = .ok (.getfield 23, 3) := by decide +kernel
theorem dX10_characterAt_5 : decode cX10_characterAt 5 = .ok (.if_icmp .ge 14, 3) := by decide +kernel
theorem dX10_characterAt_8 : decode cX10_characterAt 8 = .ok (.aload_n 0, 1) := by decide +kernel
theorem dX10_characterAt_9 : decode cX10_characterAt 9 = .ok (.getfield 14, 3) := by decide +kernel
theorem dX10_characterAt_12 : decode cX10_characterAt 12 = .ok (.iload_n 1, 1) := by decide +kernel
theorem dX10_characterAt_13 : decode cX10_characterAt 13 = .ok (.invokevirtual 98, 3) := by decide +kernel
theorem dX10_characterAt_16 : decode cX10_characterAt 16 = .ok (.goto 4, 3) := by decide +kernel
theorem dX10_characterAt_19 : decode cX10_characterAt 19 = .ok (.iconst (-1), 1) := by decide +kernel
theorem dX10_characterAt_20 : decode cX10_characterAt 20 = .ok (.ireturn, 1) := by decide +kernel
theorem dX10_isDigit_0 : decode cX10_isDigit 0 = .ok (.iload_n 0, 1) := by decide +kernel
theorem dX10_isDigit_1 : decode cX10_isDigit 1 = .ok (.bipush 48, 2) := by decide +kernel
theorem dX10_isDigit_3 : decode cX10_isDigit 3 = .ok (.if_icmp .lt 13, 3) := by decide +kernel
theorem dX10_isDigit_6 : decode cX10_isDigit 6 = .ok (.iload_n 0, 1) := by decide +kernel
theorem dX10_isDigit_7 : decode cX10_isDigit 7 = .ok (.bipush 57, 2) := by decide +kernel
theorem dX10_isDigit_9 : decode cX10_isDigit 9 = .ok (.if_icmp .gt 7, 3) := by decide +kernel
theorem dX10_isDigit_12 : decode cX10_isDigit 12 = .ok (.iconst 1, 1) := by decide +kernel
theorem dX10_isDigit_13 : decode cX10_isDigit 13 = .ok (.goto 4, 3) := by decide +kernel
theorem dX10_isDigit_16 : decode cX10_isDigit 16 = .ok (.iconst 0, 1) := by decide +kernel
theorem dX10_isDigit_17 : decode cX10_isDigit 17 = .ok (.ireturn, 1) := by decide +kernel
theorem dX11_init_0 : decode cX11_init 0 = .ok (.aload_n 0, 1) := by decide +kernel
theorem dX11_init_1 : decode cX11_init 1 = .ok (.invokespecial 1, 3) := by decide +kernel
theorem dX11_init_4 : decode cX11_init 4 = .ok (.aload_n 0, 1) := by decide +kernel
theorem dX11_init_5 : decode cX11_init 5 = .ok (.new 7, 3) := by decide +kernel
theorem dX11_init_8 : decode cX11_init 8 = .ok (.dup, 1) := by decide +kernel
theorem dX11_init_9 : decode cX11_init 9 = .ok (.invokespecial 9, 3) := by decide +kernel
theorem dX11_init_12 : decode cX11_init 12 = .ok (.putfield 10, 3) := by decide +kernel
theorem dX11_init_15 : decode cX11_init 15 = .ok (.aload_n 0, 1) := by decide +kernel
theorem dX11_init_16 : decode cX11_init 16 = .ok (.new 7, 3) := by decide +kernel
theorem dX11_init_19 : decode cX11_init 19 = .ok (.dup, 1) := by decide +kernel
theorem dX11_init_20 : decode cX11_init 20 = .ok (.invokespecial 9, 3) := by decide +kernel
theorem dX11_init_23 : decode cX11_init 23 = .ok (.putfield 16, 3) := by decide +kernel
theorem dX11_init_26 : decode cX11_init 26 = .ok (.aload_n 0, 1) := by decide +kernel
theorem dX11_init_27 : decode cX11_init 27 = .ok (.new 7, 3) := by decide +kernel
theorem dX11_init_30 : decode cX11_init 30 = .ok (.dup, 1) := by decide +kernel
theorem dX11_init_31 : decode cX11_init 31 = .ok (.invokespecial 9, 3) := by decide +kernel
theorem dX11_init_34 : decode cX11_init 34 = .ok (.putfield 19, 3) := by decide +kernel
theorem dX11_init_37 : decode cX11_init 37 = .ok (.aload_n 0, 1) := by decide +kernel
theorem dX11_init_38 : decode cX11_init 38 = .ok (.new 22, 3) := by decide +kernel
theorem dX11_init_41 : decode cX11_init 41 = .ok (.dup, 1) := by decide +kernel
theorem dX11_init_42 : decode cX11_init 42 = .ok (.invokespecial 24, 3) := by decide +kernel
theorem dX11_init_45 : decode cX11_init 45 = .ok (.putfield 25, 3) := by decide +kernel
theorem dX11_init_48 : decode cX11_init 48 = .ok (.aload_n 0, 1) := by decide +kernel
theorem dX11_init_49 : decode cX11_init 49 = .ok (.new 29, 3) := by decide +kernel
theorem dX11_init_52 : decode cX11_init 52 = .ok (.dup, 1) := by decide +kernel
theorem dX11_init_53 : decode cX11_init 53 = .ok (.invokespecial 31, 3) := by decide +kernel
theorem dX11_init_56 : decode cX11_init 56 = .ok (.putfield 32, 3) := by decide +kernel
theorem dX11_init_59 : decode cX11_init 59 = .ok (.aload_n 0, 1) := by decide +kernel
theorem dX11_init_60 : decode cX11_init 60 = .ok (.new 36, 3) := by decide +kernel
theorem dX11_init_63 : decode cX11_init 63 = .ok (.dup, 1) := by decide +kernel
theorem dX11_init_64 : decode cX11_init 64 = .ok (.invokespecial 38, 3) := by decide +kernel
theorem dX11_init_67 : decode cX11_init 67 = .ok (.putfield 39, 3) := by decide +kernel
theorem dX11_init_70 : decode cX11_init 70 = .ok (.aload_n 0, 1) := by decide +kernel
theorem dX11_init_71 : decode cX11_init 71 = .ok (.new 43, 3) := by decide +kernel
theorem dX11_init_74 : decode cX11_init 74 = .ok (.dup, 1) := by decide +kernel
theorem dX11_init_75 : decode cX11_init 75 = .ok (.invokespecial 45, 3) := by decide +kernel
theorem dX11_init_78 : decode cX11_init 78 = .ok (.putfield 46, 3) := by decide +kernel
theorem dX11_init_81 : decode cX11_init 81 = .ok (.aload_n 0, 1) := by decide +kernel
theorem dX11_init_82 : decode cX11_init 82 = .ok (.new 50, 3) := by decide +kernel
theorem dX11_init_85 : decode cX11_init 85 = .ok (.dup, 1) := by decide +kernel
theorem dX11_init_86 : decode cX11_init 86 = .ok (.invokespecial 52, 3) := by decide +kernel
theorem dX11_init_89 : decode cX11_init 89 = .ok (.putfield 53, 3) := by decide +kernel
theorem dX11_init_92 : decode cX11_init 92 = .ok (.aload_n 0, 1) := by decide +kernel
theorem dX11_init_93 : decode cX11_init 93 = .ok (.new 57, 3) := by decide +kernel
theorem dX11_init_96 : decode cX11_init 96 = .ok (.dup, 1) := by decide +kernel
theorem dX11_init_97 : decode cX11_init 97 = .ok (.invokespecial 59, 3) := by decide +kernel
theorem dX11_init_100 : decode cX11_init 100 = .ok (.putfield 60, 3) := by decide +kernel
theorem dX11_init_103 : decode cX11_init 103 = .ok (.aload_n 0, 1) := by decide +kernel
theorem dX11_init_104 : decode cX11_init 104 = .ok (.iconst 0, 1) := by decide +kernel
theorem dX11_init_105 : decode cX11_init 105 = .ok (.putfield 64, 3) := by decide +kernel
theorem dX11_init_108 : decode cX11_init 108 = .ok (.aload_n 0, 1) := by decide +kernel
theorem dX11_init_109 : decode cX11_init 109 = .ok (.iconst (-1), 1) := by decide +kernel
theorem dX11_init_110 : decode cX11_init 110 = .ok (.putfield 68, 3) := by decide +kernel
theorem dX11_init_113 : decode cX11_init 113 = .ok (.aload_n 0, 1) := by decide +kernel
theorem dX11_init_114 : decode cX11_init 114 = .ok (.iconst 0, 1) := by decide +kernel
theorem dX11_init_115 : decode cX11_init 115 = .ok (.putfield 72, 3) := by decide +kernel
theorem dX11_init_118 : decode cX11_init 118 = .ok (.aload_n 0, 1) := by decide +kernel
theorem dX11_init_119 : decode cX11_init 119 = .ok (.iconst (-1), 1) := by decide +kernel
theorem dX11_init_120 : decode cX11_init 120 = .ok (.putfield 75, 3) := by decide +kernel
theorem dX11_init_123 : decode cX11_init 123 = .ok (.return_, 1) := by decide +kernel
theorem dX11_addShelf_0 : decode cX11_addShelf 0 = .ok (.aload_n 0, 1) := by decide +kernel
theorem dX11_addShelf_1 : decode cX11_addShelf 1 = .ok (.iconst 0, 1) := by decide +kernel
theorem dX11_addShelf_2 : decode cX11_addShelf 2 = .ok (.iload_n 1, 1) := by decide +kernel
theorem dX11_addShelf_3 : decode cX11_addShelf 3 = .ok (.iload_n 2, 1) := by decide +kernel
theorem dX11_addShelf_4 : decode cX11_addShelf 4 = .ok (.iconst 0, 1) := by decide +kernel
theorem dX11_addShelf_5 : decode cX11_addShelf 5 = .ok (.iconst 0, 1) := by decide +kernel
theorem dX11_addShelf_6 : decode cX11_addShelf 6 = .ok (.invokevirtual 78, 3) := by decide +kernel
theorem dX11_addShelf_9 : decode cX11_addShelf 9 = .ok (.ireturn, 1) := by decide +kernel
theorem dX11_count_0 : decode cX11_count 0 = .ok (.aload_n 0, 1) := by decide +kernel
theorem dX11_count_1 : decode cX11_count 1 = .ok (.bipush 8, 2) := by decide +kernel
theorem dX11_count_3 : decode cX11_count 3 = .ok (.iload_n 1, 1) := by decide +kernel
theorem dX11_count_4 : decode cX11_count 4 = .ok (.iconst 0, 1) := by decide +kernel
theorem dX11_count_5 : decode cX11_count 5 = .ok (.iconst 0, 1) := by decide +kernel
theorem dX11_count_6 : decode cX11_count 6 = .ok (.iconst 0, 1) := by decide +kernel
theorem dX11_count_7 : decode cX11_count 7 = .ok (.invokevirtual 78, 3) := by decide +kernel
theorem dX11_count_10 : decode cX11_count 10 = .ok (.ireturn, 1) := by decide +kernel
theorem dX11_shelfCount_0 : decode cX11_shelfCount 0 = .ok (.aload_n 0, 1) := by decide +kernel
theorem dX11_shelfCount_1 : decode cX11_shelfCount 1 = .ok (.getfield 10, 3) := by decide +kernel
theorem dX11_shelfCount_4 : decode cX11_shelfCount 4 = .ok (.getfield 82, 3) := by decide +kernel
theorem dX11_shelfCount_7 : decode cX11_shelfCount 7 = .ok (.getfield 86, 3) := by decide +kernel
theorem dX11_shelfCount_10 : decode cX11_shelfCount 10 = .ok (.ireturn, 1) := by decide +kernel
theorem dX11_zoneOf_0 : decode cX11_zoneOf 0 = .ok (.aload_n 0, 1) := by decide +kernel
theorem dX11_zoneOf_1 : decode cX11_zoneOf 1 = .ok (.iload_n 1, 1) := by decide +kernel
theorem dX11_zoneOf_2 : decode cX11_zoneOf 2 = .ok (.invokevirtual 91, 3) := by decide +kernel
theorem dX11_zoneOf_5 : decode cX11_zoneOf 5 = .ok (.aload_n 0, 1) := by decide +kernel
theorem dX11_zoneOf_6 : decode cX11_zoneOf 6 = .ok (.getfield 10, 3) := by decide +kernel
theorem dX11_zoneOf_9 : decode cX11_zoneOf 9 = .ok (.getfield 82, 3) := by decide +kernel
theorem dX11_zoneOf_12 : decode cX11_zoneOf 12 = .ok (.getfield 95, 3) := by decide +kernel
theorem dX11_zoneOf_15 : decode cX11_zoneOf 15 = .ok (.iload_n 1, 1) := by decide +kernel
theorem dX11_zoneOf_16 : decode cX11_zoneOf 16 = .ok (.invokevirtual 99, 3) := by decide +kernel
theorem dX11_zoneOf_19 : decode cX11_zoneOf 19 = .ok (.ireturn, 1) := by decide +kernel
theorem dX11_roomOf_0 : decode cX11_roomOf 0 = .ok (.aload_n 0, 1) := by decide +kernel
theorem dX11_roomOf_1 : decode cX11_roomOf 1 = .ok (.iload_n 1, 1) := by decide +kernel
theorem dX11_roomOf_2 : decode cX11_roomOf 2 = .ok (.invokevirtual 91, 3) := by decide +kernel
theorem dX11_roomOf_5 : decode cX11_roomOf 5 = .ok (.aload_n 0, 1) := by decide +kernel
theorem dX11_roomOf_6 : decode cX11_roomOf 6 = .ok (.getfield 10, 3) := by decide +kernel
theorem dX11_roomOf_9 : decode cX11_roomOf 9 = .ok (.iload_n 1, 1) := by decide +kernel
theorem dX11_roomOf_10 : decode cX11_roomOf 10 = .ok (.iconst (-1), 1) := by decide +kernel
theorem dX11_roomOf_11 : decode cX11_roomOf 11 = .ok (.iconst (-1), 1) := by decide +kernel
theorem dX11_roomOf_12 : decode cX11_roomOf 12 = .ok (.invokevirtual 105, 3) := by decide +kernel
theorem dX11_roomOf_15 : decode cX11_roomOf 15 = .ok (.ireturn, 1) := by decide +kernel
theorem dX11_lotsOn_0 : decode cX11_lotsOn 0 = .ok (.aload_n 0, 1) := by decide +kernel
theorem dX11_lotsOn_1 : decode cX11_lotsOn 1 = .ok (.iload_n 1, 1) := by decide +kernel
theorem dX11_lotsOn_2 : decode cX11_lotsOn 2 = .ok (.invokevirtual 91, 3) := by decide +kernel
theorem dX11_lotsOn_5 : decode cX11_lotsOn 5 = .ok (.aload_n 0, 1) := by decide +kernel
theorem dX11_lotsOn_6 : decode cX11_lotsOn 6 = .ok (.getfield 10, 3) := by decide +kernel
theorem dX11_lotsOn_9 : decode cX11_lotsOn 9 = .ok (.getfield 109, 3) := by decide +kernel
theorem dX11_lotsOn_12 : decode cX11_lotsOn 12 = .ok (.iload_n 1, 1) := by decide +kernel
theorem dX11_lotsOn_13 : decode cX11_lotsOn 13 = .ok (.invokevirtual 113, 3) := by decide +kernel
theorem dX11_lotsOn_16 : decode cX11_lotsOn 16 = .ok (.ireturn, 1) := by decide +kernel
theorem dX11_shelfFor_0 : decode cX11_shelfFor 0 = .ok (.iload_n 1, 1) := by decide +kernel
theorem dX11_shelfFor_1 : decode cX11_shelfFor 1 = .ok (.iconst 0, 1) := by decide +kernel
theorem dX11_shelfFor_2 : decode cX11_shelfFor 2 = .ok (.iconst 2, 1) := by decide +kernel
theorem dX11_shelfFor_3 : decode cX11_shelfFor 3 = .ok (.invokestatic 118, 3) := by decide +kernel
theorem dX11_shelfFor_6 : decode cX11_shelfFor 6 = .ok (.iload_n 2, 1) := by decide +kernel
theorem dX11_shelfFor_7 : decode cX11_shelfFor 7 = .ok (.iconst 1, 1) := by decide +kernel
theorem dX11_shelfFor_8 : decode cX11_shelfFor 8 = .ok (.bipush 40, 2) := by decide +kernel
theorem dX11_shelfFor_10 : decode cX11_shelfFor 10 = .ok (.invokestatic 118, 3) := by decide +kernel
theorem dX11_shelfFor_13 : decode cX11_shelfFor 13 = .ok (.aload_n 0, 1) := by decide +kernel
theorem dX11_shelfFor_14 : decode cX11_shelfFor 14 = .ok (.getfield 10, 3) := by decide +kernel
theorem dX11_shelfFor_17 : decode cX11_shelfFor 17 = .ok (.iload_n 1, 1) := by decide +kernel
theorem dX11_shelfFor_18 : decode cX11_shelfFor 18 = .ok (.iload_n 2, 1) := by decide +kernel
theorem dX11_shelfFor_19 : decode cX11_shelfFor 19 = .ok (.iconst (-1), 1) := by decide +kernel
theorem dX11_shelfFor_20 : decode cX11_shelfFor 20 = .ok (.iconst (-1), 1) := by decide +kernel
theorem dX11_shelfFor_21 : decode cX11_shelfFor 21 = .ok (.invokevirtual 122, 3) := by decide +kernel
theorem dX11_shelfFor_24 : decode cX11_shelfFor 24 = .ok (.invokestatic 126, 3) := by decide +kernel
theorem dX11_shelfFor_27 : decode cX11_shelfFor 27 = .ok (.ireturn, 1) := by decide +kernel
theorem dX11_countedDay_0 : decode cX11_countedDay 0 = .ok (.aload_n 0, 1) := by decide +kernel
theorem dX11_countedDay_1 : decode cX11_countedDay 1 = .ok (.iload_n 1, 1) := by decide +kernel
theorem dX11_countedDay_2 : decode cX11_countedDay 2 = .ok (.invokevirtual 91, 3) := by decide +kernel
theorem dX11_countedDay_5 : decode cX11_countedDay 5 = .ok (.aload_n 0, 1) := by decide +kernel
theorem dX11_countedDay_6 : decode cX11_countedDay 6 = .ok (.getfield 10, 3) := by decide +kernel
theorem dX11_countedDay_9 : decode cX11_countedDay 9 = .ok (.getfield 82, 3) := by decide +kernel
theorem dX11_countedDay_12 : decode cX11_countedDay 12 = .ok (.getfield 129, 3) := by decide +kernel
theorem dX11_countedDay_15 : decode cX11_countedDay 15 = .ok (.iload_n 1, 1) := by decide +kernel
theorem dX11_countedDay_16 : decode cX11_countedDay 16 = .ok (.invokevirtual 99, 3) := by decide +kernel
theorem dX11_countedDay_19 : decode cX11_countedDay 19 = .ok (.invokestatic 126, 3) := by decide +kernel
theorem dX11_countedDay_22 : decode cX11_countedDay 22 = .ok (.ireturn, 1) := by decide +kernel
theorem dX11_shelfToCount_0 : decode cX11_shelfToCount 0 = .ok (.aload_n 0, 1) := by decide +kernel
theorem dX11_shelfToCount_1 : decode cX11_shelfToCount 1 = .ok (.getfield 10, 3) := by decide +kernel
theorem dX11_shelfToCount_4 : decode cX11_shelfToCount 4 = .ok (.iload_n 1, 1) := by decide +kernel
theorem dX11_shelfToCount_5 : decode cX11_shelfToCount 5 = .ok (.invokevirtual 132, 3) := by decide +kernel
theorem dX11_shelfToCount_8 : decode cX11_shelfToCount 8 = .ok (.invokestatic 126, 3) := by decide +kernel
theorem dX11_shelfToCount_11 : decode cX11_shelfToCount 11 = .ok (.ireturn, 1) := by decide +kernel
theorem dX11_fewestShelves_0 : decode cX11_fewestShelves 0 = .ok (.iload_n 1, 1) := by decide +kernel
theorem dX11_fewestShelves_1 : decode cX11_fewestShelves 1 = .ok (.iconst 0, 1) := by decide +kernel
theorem dX11_fewestShelves_2 : decode cX11_fewestShelves 2 = .ok (.iconst 2, 1) := by decide +kernel
theorem dX11_fewestShelves_3 : decode cX11_fewestShelves 3 = .ok (.invokestatic 118, 3) := by decide +kernel
theorem dX11_fewestShelves_6 : decode cX11_fewestShelves 6 = .ok (.aload_n 0, 1) := by decide +kernel
theorem dX11_fewestShelves_7 : decode cX11_fewestShelves 7 = .ok (.getfield 46, 3) := by decide +kernel
theorem dX11_fewestShelves_10 : decode cX11_fewestShelves 10 = .ok (.aload_n 0, 1) := by decide +kernel
theorem dX11_fewestShelves_11 : decode cX11_fewestShelves 11 = .ok (.getfield 10, 3) := by decide +kernel
theorem dX11_fewestShelves_14 : decode cX11_fewestShelves 14 = .ok (.iload_n 1, 1) := by decide +kernel
theorem dX11_fewestShelves_15 : decode cX11_fewestShelves 15 = .ok (.invokevirtual 135, 3) := by decide +kernel
theorem dX11_fewestShelves_18 : decode cX11_fewestShelves 18 = .ok (.ireturn, 1) := by decide +kernel
theorem dX11_fewestShelvesBySearch_0 : decode cX11_fewestShelvesBySearch 0 = .ok (.iload_n 1, 1) := by decide +kernel
theorem dX11_fewestShelvesBySearch_1 : decode cX11_fewestShelvesBySearch 1 = .ok (.iconst 0, 1) := by decide +kernel
theorem dX11_fewestShelvesBySearch_2 : decode cX11_fewestShelvesBySearch 2 = .ok (.iconst 2, 1) := by decide +kernel
theorem dX11_fewestShelvesBySearch_3 : decode cX11_fewestShelvesBySearch 3 = .ok (.invokestatic 118, 3) := by decide +kernel
theorem dX11_fewestShelvesBySearch_6 : decode cX11_fewestShelvesBySearch 6 = .ok (.aload_n 0, 1) := by decide +kernel
theorem dX11_fewestShelvesBySearch_7 : decode cX11_fewestShelvesBySearch 7 = .ok (.getfield 46, 3) := by decide +kernel
theorem dX11_fewestShelvesBySearch_10 : decode cX11_fewestShelvesBySearch 10 = .ok (.aload_n 0, 1) := by decide +kernel
theorem dX11_fewestShelvesBySearch_11 : decode cX11_fewestShelvesBySearch 11 = .ok (.getfield 10, 3) := by decide +kernel
theorem dX11_fewestShelvesBySearch_14 : decode cX11_fewestShelvesBySearch 14 = .ok (.iload_n 1, 1) := by decide +kernel
theorem dX11_fewestShelvesBySearch_15 : decode cX11_fewestShelvesBySearch 15 = .ok (.invokevirtual 139, 3) := by decide +kernel
theorem dX11_fewestShelvesBySearch_18 : decode cX11_fewestShelvesBySearch 18 = .ok (.ireturn, 1) := by decide +kernel
theorem dX11_receive_0 : decode cX11_receive 0 = .ok (.aload_n 0, 1) := by decide +kernel
theorem dX11_receive_1 : decode cX11_receive 1 = .ok (.iconst 1, 1) := by decide +kernel
theorem dX11_receive_2 : decode cX11_receive 2 = .ok (.iload_n 1, 1) := by decide +kernel
theorem dX11_receive_3 : decode cX11_receive 3 = .ok (.iload_n 2, 1) := by decide +kernel
theorem dX11_receive_4 : decode cX11_receive 4 = .ok (.iload_n 3, 1) := by decide +kernel
theorem dX11_receive_5 : decode cX11_receive 5 = .ok (.iload 4, 2) := by decide +kernel
theorem dX11_receive_7 : decode cX11_receive 7 = .ok (.invokevirtual 78, 3) := by decide +kernel
theorem dX11_receive_10 : decode cX11_receive 10 = .ok (.ireturn, 1) := by decide +kernel
theorem dX11_split_0 : decode cX11_split 0 = .ok (.aload_n 0, 1) := by decide +kernel
theorem dX11_split_1 : decode cX11_split 1 = .ok (.iconst 2, 1) := by decide +kernel
theorem dX11_split_2 : decode cX11_split 2 = .ok (.iload_n 1, 1) := by decide +kernel
theorem dX11_split_3 : decode cX11_split 3 = .ok (.iload_n 2, 1) := by decide +kernel
theorem dX11_split_4 : decode cX11_split 4 = .ok (.iconst 0, 1) := by decide +kernel
theorem dX11_split_5 : decode cX11_split 5 = .ok (.iconst 0, 1) := by decide +kernel
theorem dX11_split_6 : decode cX11_split 6 = .ok (.invokevirtual 78, 3) := by decide +kernel
theorem dX11_split_9 : decode cX11_split 9 = .ok (.ireturn, 1) := by decide +kernel
theorem dX11_mix_0 : decode cX11_mix 0 = .ok (.aload_n 0, 1) := by decide +kernel
theorem dX11_mix_1 : decode cX11_mix 1 = .ok (.iconst 3, 1) := by decide +kernel
theorem dX11_mix_2 : decode cX11_mix 2 = .ok (.iload_n 1, 1) := by decide +kernel
theorem dX11_mix_3 : decode cX11_mix 3 = .ok (.iload_n 2, 1) := by decide +kernel
theorem dX11_mix_4 : decode cX11_mix 4 = .ok (.iconst 0, 1) := by decide +kernel
theorem dX11_mix_5 : decode cX11_mix 5 = .ok (.iconst 0, 1) := by decide +kernel
theorem dX11_mix_6 : decode cX11_mix 6 = .ok (.invokevirtual 78, 3) := by decide +kernel
theorem dX11_mix_9 : decode cX11_mix 9 = .ok (.ireturn, 1) := by decide +kernel
theorem dX11_move_0 : decode cX11_move 0 = .ok (.aload_n 0, 1) := by decide +kernel
theorem dX11_move_1 : decode cX11_move 1 = .ok (.iconst 4, 1) := by decide +kernel
theorem dX11_move_2 : decode cX11_move 2 = .ok (.iload_n 1, 1) := by decide +kernel
theorem dX11_move_3 : decode cX11_move 3 = .ok (.iload_n 2, 1) := by decide +kernel
theorem dX11_move_4 : decode cX11_move 4 = .ok (.iconst 0, 1) := by decide +kernel
theorem dX11_move_5 : decode cX11_move 5 = .ok (.iconst 0, 1) := by decide +kernel
theorem dX11_move_6 : decode cX11_move 6 = .ok (.invokevirtual 78, 3) := by decide +kernel
theorem dX11_move_9 : decode cX11_move 9 = .ok (.ireturn, 1) := by decide +kernel
theorem dX11_ship_0 : decode cX11_ship 0 = .ok (.aload_n 0, 1) := by decide +kernel
theorem dX11_ship_1 : decode cX11_ship 1 = .ok (.iconst 5, 1) := by decide +kernel
theorem dX11_ship_2 : decode cX11_ship 2 = .ok (.iload_n 1, 1) := by decide +kernel
theorem dX11_ship_3 : decode cX11_ship 3 = .ok (.iload_n 2, 1) := by decide +kernel
theorem dX11_ship_4 : decode cX11_ship 4 = .ok (.iconst 0, 1) := by decide +kernel
theorem dX11_ship_5 : decode cX11_ship 5 = .ok (.iconst 0, 1) := by decide +kernel
theorem dX11_ship_6 : decode cX11_ship 6 = .ok (.invokevirtual 78, 3) := by decide +kernel
theorem dX11_ship_9 : decode cX11_ship 9 = .ok (.ireturn, 1) := by decide +kernel
theorem dX11_recall_0 : decode cX11_recall 0 = .ok (.aload_n 0, 1) := by decide +kernel
theorem dX11_recall_1 : decode cX11_recall 1 = .ok (.bipush 6, 2) := by decide +kernel
theorem dX11_recall_3 : decode cX11_recall 3 = .ok (.iload_n 1, 1) := by decide +kernel
theorem dX11_recall_4 : decode cX11_recall 4 = .ok (.iconst 0, 1) := by decide +kernel
theorem dX11_recall_5 : decode cX11_recall 5 = .ok (.iconst 0, 1) := by decide +kernel
theorem dX11_recall_6 : decode cX11_recall 6 = .ok (.iconst 0, 1) := by decide +kernel
theorem dX11_recall_7 : decode cX11_recall 7 = .ok (.invokevirtual 78, 3) := by decide +kernel
theorem dX11_recall_10 : decode cX11_recall 10 = .ok (.ireturn, 1) := by decide +kernel
theorem dX11_lotCount_0 : decode cX11_lotCount 0 = .ok (.aload_n 0, 1) := by decide +kernel
theorem dX11_lotCount_1 : decode cX11_lotCount 1 = .ok (.getfield 10, 3) := by decide +kernel
theorem dX11_lotCount_4 : decode cX11_lotCount 4 = .ok (.getfield 109, 3) := by decide +kernel
theorem dX11_lotCount_7 : decode cX11_lotCount 7 = .ok (.getfield 142, 3) := by decide +kernel
theorem dX11_lotCount_10 : decode cX11_lotCount 10 = .ok (.ireturn, 1) := by decide +kernel
theorem dX11_isOnShelf_0 : decode cX11_isOnShelf 0 = .ok (.aload_n 0, 1) := by decide +kernel
theorem dX11_isOnShelf_1 : decode cX11_isOnShelf 1 = .ok (.iload_n 1, 1) := by decide +kernel
theorem dX11_isOnShelf_2 : decode cX11_isOnShelf 2 = .ok (.invokevirtual 143, 3) := by decide +kernel
theorem dX11_isOnShelf_5 : decode cX11_isOnShelf 5 = .ok (.aload_n 0, 1) := by decide +kernel
theorem dX11_isOnShelf_6 : decode cX11_isOnShelf 6 = .ok (.getfield 10, 3) := by decide +kernel
theorem dX11_isOnShelf_9 : decode cX11_isOnShelf 9 = .ok (.getfield 109, 3) := by decide +kernel
theorem dX11_isOnShelf_12 : decode cX11_isOnShelf 12 = .ok (.iload_n 1, 1) := by decide +kernel
theorem dX11_isOnShelf_13 : decode cX11_isOnShelf 13 = .ok (.invokevirtual 146, 3) := by decide +kernel
theorem dX11_isOnShelf_16 : decode cX11_isOnShelf 16 = .ok (.ireturn, 1) := by decide +kernel
theorem dX11_shelfOf_0 : decode cX11_shelfOf 0 = .ok (.aload_n 0, 1) := by decide +kernel
theorem dX11_shelfOf_1 : decode cX11_shelfOf 1 = .ok (.iload_n 1, 1) := by decide +kernel
theorem dX11_shelfOf_2 : decode cX11_shelfOf 2 = .ok (.invokevirtual 143, 3) := by decide +kernel
theorem dX11_shelfOf_5 : decode cX11_shelfOf 5 = .ok (.aload_n 0, 1) := by decide +kernel
theorem dX11_shelfOf_6 : decode cX11_shelfOf 6 = .ok (.getfield 10, 3) := by decide +kernel
theorem dX11_shelfOf_9 : decode cX11_shelfOf 9 = .ok (.getfield 109, 3) := by decide +kernel
theorem dX11_shelfOf_12 : decode cX11_shelfOf 12 = .ok (.getfield 150, 3) := by decide +kernel
theorem dX11_shelfOf_15 : decode cX11_shelfOf 15 = .ok (.iload_n 1, 1) := by decide +kernel
theorem dX11_shelfOf_16 : decode cX11_shelfOf 16 = .ok (.invokevirtual 99, 3) := by decide +kernel
theorem dX11_shelfOf_19 : decode cX11_shelfOf 19 = .ok (.invokestatic 126, 3) := by decide +kernel
theorem dX11_shelfOf_22 : decode cX11_shelfOf 22 = .ok (.ireturn, 1) := by decide +kernel
theorem dX11_volumeOf_0 : decode cX11_volumeOf 0 = .ok (.aload_n 0, 1) := by decide +kernel
theorem dX11_volumeOf_1 : decode cX11_volumeOf 1 = .ok (.iload_n 1, 1) := by decide +kernel
theorem dX11_volumeOf_2 : decode cX11_volumeOf 2 = .ok (.invokevirtual 143, 3) := by decide +kernel
theorem dX11_volumeOf_5 : decode cX11_volumeOf 5 = .ok (.aload_n 0, 1) := by decide +kernel
theorem dX11_volumeOf_6 : decode cX11_volumeOf 6 = .ok (.getfield 10, 3) := by decide +kernel
theorem dX11_volumeOf_9 : decode cX11_volumeOf 9 = .ok (.getfield 109, 3) := by decide +kernel
theorem dX11_volumeOf_12 : decode cX11_volumeOf 12 = .ok (.getfield 153, 3) := by decide +kernel
theorem dX11_volumeOf_15 : decode cX11_volumeOf 15 = .ok (.iload_n 1, 1) := by decide +kernel
theorem dX11_volumeOf_16 : decode cX11_volumeOf 16 = .ok (.invokevirtual 99, 3) := by decide +kernel
theorem dX11_volumeOf_19 : decode cX11_volumeOf 19 = .ok (.ireturn, 1) := by decide +kernel
theorem dX11_expiryOf_0 : decode cX11_expiryOf 0 = .ok (.aload_n 0, 1) := by decide +kernel
theorem dX11_expiryOf_1 : decode cX11_expiryOf 1 = .ok (.iload_n 1, 1) := by decide +kernel
theorem dX11_expiryOf_2 : decode cX11_expiryOf 2 = .ok (.invokevirtual 143, 3) := by decide +kernel
theorem dX11_expiryOf_5 : decode cX11_expiryOf 5 = .ok (.aload_n 0, 1) := by decide +kernel
theorem dX11_expiryOf_6 : decode cX11_expiryOf 6 = .ok (.getfield 10, 3) := by decide +kernel
theorem dX11_expiryOf_9 : decode cX11_expiryOf 9 = .ok (.getfield 109, 3) := by decide +kernel
theorem dX11_expiryOf_12 : decode cX11_expiryOf 12 = .ok (.getfield 156, 3) := by decide +kernel
theorem dX11_expiryOf_15 : decode cX11_expiryOf 15 = .ok (.iload_n 1, 1) := by decide +kernel
theorem dX11_expiryOf_16 : decode cX11_expiryOf 16 = .ok (.invokevirtual 99, 3) := by decide +kernel
theorem dX11_expiryOf_19 : decode cX11_expiryOf 19 = .ok (.ireturn, 1) := by decide +kernel
theorem dX11_isExpired_0 : decode cX11_isExpired 0 = .ok (.aload_n 0, 1) := by decide +kernel
theorem dX11_isExpired_1 : decode cX11_isExpired 1 = .ok (.iload_n 1, 1) := by decide +kernel
theorem dX11_isExpired_2 : decode cX11_isExpired 2 = .ok (.invokevirtual 143, 3) := by decide +kernel
theorem dX11_isExpired_5 : decode cX11_isExpired 5 = .ok (.aload_n 0, 1) := by decide +kernel
theorem dX11_isExpired_6 : decode cX11_isExpired 6 = .ok (.getfield 10, 3) := by decide +kernel
theorem dX11_isExpired_9 : decode cX11_isExpired 9 = .ok (.iload_n 1, 1) := by decide +kernel
theorem dX11_isExpired_10 : decode cX11_isExpired 10 = .ok (.invokevirtual 159, 3) := by decide +kernel
theorem dX11_isExpired_13 : decode cX11_isExpired 13 = .ok (.ireturn, 1) := by decide +kernel
theorem dX11_parentCount_0 : decode cX11_parentCount 0 = .ok (.aload_n 0, 1) := by decide +kernel
theorem dX11_parentCount_1 : decode cX11_parentCount 1 = .ok (.iload_n 1, 1) := by decide +kernel
theorem dX11_parentCount_2 : decode cX11_parentCount 2 = .ok (.invokevirtual 143, 3) := by decide +kernel
theorem dX11_parentCount_5 : decode cX11_parentCount 5 = .ok (.aload_n 0, 1) := by decide +kernel
theorem dX11_parentCount_6 : decode cX11_parentCount 6 = .ok (.getfield 10, 3) := by decide +kernel
theorem dX11_parentCount_9 : decode cX11_parentCount 9 = .ok (.getfield 109, 3) := by decide +kernel
theorem dX11_parentCount_12 : decode cX11_parentCount 12 = .ok (.iload_n 1, 1) := by decide +kernel
theorem dX11_parentCount_13 : decode cX11_parentCount 13 = .ok (.invokevirtual 162, 3) := by decide +kernel
theorem dX11_parentCount_16 : decode cX11_parentCount 16 = .ok (.ireturn, 1) := by decide +kernel
theorem dX11_descendants_0 : decode cX11_descendants 0 = .ok (.aload_n 0, 1) := by decide +kernel
theorem dX11_descendants_1 : decode cX11_descendants 1 = .ok (.iload_n 1, 1) := by decide +kernel
theorem dX11_descendants_2 : decode cX11_descendants 2 = .ok (.invokevirtual 143, 3) := by decide +kernel
theorem dX11_descendants_5 : decode cX11_descendants 5 = .ok (.aload_n 0, 1) := by decide +kernel
theorem dX11_descendants_6 : decode cX11_descendants 6 = .ok (.getfield 10, 3) := by decide +kernel
theorem dX11_descendants_9 : decode cX11_descendants 9 = .ok (.getfield 109, 3) := by decide +kernel
theorem dX11_descendants_12 : decode cX11_descendants 12 = .ok (.iload_n 1, 1) := by decide +kernel
theorem dX11_descendants_13 : decode cX11_descendants 13 = .ok (.invokestatic 165, 3) := by decide +kernel
theorem dX11_descendants_16 : decode cX11_descendants 16 = .ok (.invokestatic 169, 3) := by decide +kernel
theorem dX11_descendants_19 : decode cX11_descendants 19 = .ok (.ireturn, 1) := by decide +kernel
theorem dX11_descendantsByTable_0 : decode cX11_descendantsByTable 0 = .ok (.aload_n 0, 1) := by decide +kernel
theorem dX11_descendantsByTable_1 : decode cX11_descendantsByTable 1 = .ok (.iload_n 1, 1) := by decide +kernel
theorem dX11_descendantsByTable_2 : decode cX11_descendantsByTable 2 = .ok (.invokevirtual 143, 3) := by decide +kernel
theorem dX11_descendantsByTable_5 : decode cX11_descendantsByTable 5 = .ok (.aload_n 0, 1) := by decide +kernel
theorem dX11_descendantsByTable_6 : decode cX11_descendantsByTable 6 = .ok (.getfield 39, 3) := by decide +kernel
theorem dX11_descendantsByTable_9 : decode cX11_descendantsByTable 9 = .ok (.aload_n 0, 1) := by decide +kernel
theorem dX11_descendantsByTable_10 : decode cX11_descendantsByTable 10 = .ok (.getfield 10, 3) := by decide +kernel
theorem dX11_descendantsByTable_13 : decode cX11_descendantsByTable 13 = .ok (.getfield 109, 3) := by decide +kernel
theorem dX11_descendantsByTable_16 : decode cX11_descendantsByTable 16 = .ok (.iload_n 1, 1) := by decide +kernel
theorem dX11_descendantsByTable_17 : decode cX11_descendantsByTable 17 = .ok (.invokevirtual 174, 3) := by decide +kernel
theorem dX11_descendantsByTable_20 : decode cX11_descendantsByTable 20 = .ok (.ireturn, 1) := by decide +kernel
theorem dX11_descendsFrom_0 : decode cX11_descendsFrom 0 = .ok (.aload_n 0, 1) := by decide +kernel
theorem dX11_descendsFrom_1 : decode cX11_descendsFrom 1 = .ok (.iload_n 1, 1) := by decide +kernel
theorem dX11_descendsFrom_2 : decode cX11_descendsFrom 2 = .ok (.invokevirtual 143, 3) := by decide +kernel
theorem dX11_descendsFrom_5 : decode cX11_descendsFrom 5 = .ok (.aload_n 0, 1) := by decide +kernel
theorem dX11_descendsFrom_6 : decode cX11_descendsFrom 6 = .ok (.iload_n 2, 1) := by decide +kernel
theorem dX11_descendsFrom_7 : decode cX11_descendsFrom 7 = .ok (.invokevirtual 143, 3) := by decide +kernel
theorem dX11_descendsFrom_10 : decode cX11_descendsFrom 10 = .ok (.aload_n 0, 1) := by decide +kernel
theorem dX11_descendsFrom_11 : decode cX11_descendsFrom 11 = .ok (.getfield 10, 3) := by decide +kernel
theorem dX11_descendsFrom_14 : decode cX11_descendsFrom 14 = .ok (.getfield 109, 3) := by decide +kernel
theorem dX11_descendsFrom_17 : decode cX11_descendsFrom 17 = .ok (.iload_n 2, 1) := by decide +kernel
theorem dX11_descendsFrom_18 : decode cX11_descendsFrom 18 = .ok (.invokestatic 165, 3) := by decide +kernel
theorem dX11_descendsFrom_21 : decode cX11_descendsFrom 21 = .ok (.iload_n 1, 1) := by decide +kernel
theorem dX11_descendsFrom_22 : decode cX11_descendsFrom 22 = .ok (.ishr, 1) := by decide +kernel
theorem dX11_descendsFrom_23 : decode cX11_descendsFrom 23 = .ok (.iconst 1, 1) := by decide +kernel
theorem dX11_descendsFrom_24 : decode cX11_descendsFrom 24 = .ok (.iand, 1) := by decide +kernel
theorem dX11_descendsFrom_25 : decode cX11_descendsFrom 25 = .ok (.iconst 1, 1) := by decide +kernel
theorem dX11_descendsFrom_26 : decode cX11_descendsFrom 26 = .ok (.if_icmp .ne 7, 3) := by decide +kernel
theorem dX11_descendsFrom_29 : decode cX11_descendsFrom 29 = .ok (.iconst 1, 1) := by decide +kernel
theorem dX11_descendsFrom_30 : decode cX11_descendsFrom 30 = .ok (.goto 4, 3) := by decide +kernel
theorem dX11_descendsFrom_33 : decode cX11_descendsFrom 33 = .ok (.iconst 0, 1) := by decide +kernel
theorem dX11_descendsFrom_34 : decode cX11_descendsFrom 34 = .ok (.ireturn, 1) := by decide +kernel
theorem dX11_recallSize_0 : decode cX11_recallSize 0 = .ok (.aload_n 0, 1) := by decide +kernel
theorem dX11_recallSize_1 : decode cX11_recallSize 1 = .ok (.iload_n 1, 1) := by decide +kernel
theorem dX11_recallSize_2 : decode cX11_recallSize 2 = .ok (.invokevirtual 143, 3) := by decide +kernel
theorem dX11_recallSize_5 : decode cX11_recallSize 5 = .ok (.aload_n 0, 1) := by decide +kernel
theorem dX11_recallSize_6 : decode cX11_recallSize 6 = .ok (.getfield 10, 3) := by decide +kernel
theorem dX11_recallSize_9 : decode cX11_recallSize 9 = .ok (.getfield 109, 3) := by decide +kernel
theorem dX11_recallSize_12 : decode cX11_recallSize 12 = .ok (.iload_n 1, 1) := by decide +kernel
theorem dX11_recallSize_13 : decode cX11_recallSize 13 = .ok (.invokestatic 177, 3) := by decide +kernel
theorem dX11_recallSize_16 : decode cX11_recallSize 16 = .ok (.invokestatic 169, 3) := by decide +kernel
theorem dX11_recallSize_19 : decode cX11_recallSize 19 = .ok (.ireturn, 1) := by decide +kernel
theorem dX11_available_0 : decode cX11_available 0 = .ok (.iload_n 1, 1) := by decide +kernel
theorem dX11_available_1 : decode cX11_available 1 = .ok (.iconst 0, 1) := by decide +kernel
theorem dX11_available_2 : decode cX11_available 2 = .ok (.iconst 5, 1) := by decide +kernel
theorem dX11_available_3 : decode cX11_available 3 = .ok (.invokestatic 118, 3) := by decide +kernel
theorem dX11_available_6 : decode cX11_available 6 = .ok (.aload_n 0, 1) := by decide +kernel
theorem dX11_available_7 : decode cX11_available 7 = .ok (.getfield 10, 3) := by decide +kernel
theorem dX11_available_10 : decode cX11_available 10 = .ok (.iload_n 1, 1) := by decide +kernel
theorem dX11_available_11 : decode cX11_available 11 = .ok (.invokevirtual 180, 3) := by decide +kernel
theorem dX11_available_14 : decode cX11_available 14 = .ok (.ireturn, 1) := by decide +kernel
theorem dX11_firstToShip_0 : decode cX11_firstToShip 0 = .ok (.iload_n 1, 1) := by decide +kernel
theorem dX11_firstToShip_1 : decode cX11_firstToShip 1 = .ok (.iconst 0, 1) := by decide +kernel
theorem dX11_firstToShip_2 : decode cX11_firstToShip 2 = .ok (.iconst 5, 1) := by decide +kernel
theorem dX11_firstToShip_3 : decode cX11_firstToShip 3 = .ok (.invokestatic 118, 3) := by decide +kernel
theorem dX11_firstToShip_6 : decode cX11_firstToShip 6 = .ok (.aload_n 0, 1) := by decide +kernel
theorem dX11_firstToShip_7 : decode cX11_firstToShip 7 = .ok (.getfield 10, 3) := by decide +kernel
theorem dX11_firstToShip_10 : decode cX11_firstToShip 10 = .ok (.iload_n 1, 1) := by decide +kernel
theorem dX11_firstToShip_11 : decode cX11_firstToShip 11 = .ok (.invokevirtual 183, 3) := by decide +kernel
theorem dX11_firstToShip_14 : decode cX11_firstToShip 14 = .ok (.invokestatic 126, 3) := by decide +kernel
theorem dX11_firstToShip_17 : decode cX11_firstToShip 17 = .ok (.ireturn, 1) := by decide +kernel
theorem dX11_lotByExpiry_0 : decode cX11_lotByExpiry 0 = .ok (.aload_n 0, 1) := by decide +kernel
theorem dX11_lotByExpiry_1 : decode cX11_lotByExpiry 1 = .ok (.getfield 10, 3) := by decide +kernel
theorem dX11_lotByExpiry_4 : decode cX11_lotByExpiry 4 = .ok (.iload_n 1, 1) := by decide +kernel
theorem dX11_lotByExpiry_5 : decode cX11_lotByExpiry 5 = .ok (.invokevirtual 186, 3) := by decide +kernel
theorem dX11_lotByExpiry_8 : decode cX11_lotByExpiry 8 = .ok (.invokestatic 126, 3) := by decide +kernel
theorem dX11_lotByExpiry_11 : decode cX11_lotByExpiry 11 = .ok (.ireturn, 1) := by decide +kernel
theorem dX11_compost_0 : decode cX11_compost 0 = .ok (.aload_n 0, 1) := by decide +kernel
theorem dX11_compost_1 : decode cX11_compost 1 = .ok (.bipush 7, 2) := by decide +kernel
theorem dX11_compost_3 : decode cX11_compost 3 = .ok (.iconst 0, 1) := by decide +kernel
theorem dX11_compost_4 : decode cX11_compost 4 = .ok (.iconst 0, 1) := by decide +kernel
theorem dX11_compost_5 : decode cX11_compost 5 = .ok (.iconst 0, 1) := by decide +kernel
theorem dX11_compost_6 : decode cX11_compost 6 = .ok (.iconst 0, 1) := by decide +kernel
theorem dX11_compost_7 : decode cX11_compost 7 = .ok (.invokevirtual 78, 3) := by decide +kernel
theorem dX11_compost_10 : decode cX11_compost 10 = .ok (.ireturn, 1) := by decide +kernel
theorem dX11_heapSize_0 : decode cX11_heapSize 0 = .ok (.aload_n 0, 1) := by decide +kernel
theorem dX11_heapSize_1 : decode cX11_heapSize 1 = .ok (.getfield 10, 3) := by decide +kernel
theorem dX11_heapSize_4 : decode cX11_heapSize 4 = .ok (.getfield 189, 3) := by decide +kernel
theorem dX11_heapSize_7 : decode cX11_heapSize 7 = .ok (.getfield 193, 3) := by decide +kernel
theorem dX11_heapSize_10 : decode cX11_heapSize 10 = .ok (.ireturn, 1) := by decide +kernel
theorem dX11_nextCompost_0 : decode cX11_nextCompost 0 = .ok (.aload_n 0, 1) := by decide +kernel
theorem dX11_nextCompost_1 : decode cX11_nextCompost 1 = .ok (.getfield 10, 3) := by decide +kernel
theorem dX11_nextCompost_4 : decode cX11_nextCompost 4 = .ok (.getfield 189, 3) := by decide +kernel
theorem dX11_nextCompost_7 : decode cX11_nextCompost 7 = .ok (.invokevirtual 196, 3) := by decide +kernel
theorem dX11_nextCompost_10 : decode cX11_nextCompost 10 = .ok (.invokestatic 126, 3) := by decide +kernel
theorem dX11_nextCompost_13 : decode cX11_nextCompost 13 = .ok (.ireturn, 1) := by decide +kernel
theorem dX11_nextCompostByScan_0 : decode cX11_nextCompostByScan 0 = .ok (.aload_n 0, 1) := by decide +kernel
theorem dX11_nextCompostByScan_1 : decode cX11_nextCompostByScan 1 = .ok (.getfield 10, 3) := by decide +kernel
theorem dX11_nextCompostByScan_4 : decode cX11_nextCompostByScan 4 = .ok (.getfield 109, 3) := by decide +kernel
theorem dX11_nextCompostByScan_7 : decode cX11_nextCompostByScan 7 = .ok (.invokestatic 200, 3) := by decide +kernel
theorem dX11_nextCompostByScan_10 : decode cX11_nextCompostByScan 10 = .ok (.invokestatic 126, 3) := by decide +kernel
theorem dX11_nextCompostByScan_13 : decode cX11_nextCompostByScan 13 = .ok (.ireturn, 1) := by decide +kernel
theorem dX11_pass_0 : decode cX11_pass 0 = .ok (.aload_n 0, 1) := by decide +kernel
theorem dX11_pass_1 : decode cX11_pass 1 = .ok (.bipush 9, 2) := by decide +kernel
theorem dX11_pass_3 : decode cX11_pass 3 = .ok (.iload_n 1, 1) := by decide +kernel
theorem dX11_pass_4 : decode cX11_pass 4 = .ok (.iconst 0, 1) := by decide +kernel
theorem dX11_pass_5 : decode cX11_pass 5 = .ok (.iconst 0, 1) := by decide +kernel
theorem dX11_pass_6 : decode cX11_pass 6 = .ok (.iconst 0, 1) := by decide +kernel
theorem dX11_pass_7 : decode cX11_pass 7 = .ok (.invokevirtual 78, 3) := by decide +kernel
theorem dX11_pass_10 : decode cX11_pass 10 = .ok (.ireturn, 1) := by decide +kernel
theorem dX11_day_0 : decode cX11_day 0 = .ok (.aload_n 0, 1) := by decide +kernel
theorem dX11_day_1 : decode cX11_day 1 = .ok (.getfield 10, 3) := by decide +kernel
theorem dX11_day_4 : decode cX11_day 4 = .ok (.getfield 204, 3) := by decide +kernel
theorem dX11_day_7 : decode cX11_day 7 = .ok (.ireturn, 1) := by decide +kernel
theorem dX11_received_0 : decode cX11_received 0 = .ok (.aload_n 0, 1) := by decide +kernel
theorem dX11_received_1 : decode cX11_received 1 = .ok (.getfield 10, 3) := by decide +kernel
theorem dX11_received_4 : decode cX11_received 4 = .ok (.getfield 207, 3) := by decide +kernel
theorem dX11_received_7 : decode cX11_received 7 = .ok (.ireturn, 1) := by decide +kernel
theorem dX11_stored_0 : decode cX11_stored 0 = .ok (.aload_n 0, 1) := by decide +kernel
theorem dX11_stored_1 : decode cX11_stored 1 = .ok (.getfield 10, 3) := by decide +kernel
theorem dX11_stored_4 : decode cX11_stored 4 = .ok (.getfield 109, 3) := by decide +kernel
theorem dX11_stored_7 : decode cX11_stored 7 = .ok (.invokevirtual 210, 3) := by decide +kernel
theorem dX11_stored_10 : decode cX11_stored 10 = .ok (.ireturn, 1) := by decide +kernel
theorem dX11_heaped_0 : decode cX11_heaped 0 = .ok (.aload_n 0, 1) := by decide +kernel
theorem dX11_heaped_1 : decode cX11_heaped 1 = .ok (.getfield 10, 3) := by decide +kernel
theorem dX11_heaped_4 : decode cX11_heaped 4 = .ok (.getfield 109, 3) := by decide +kernel
theorem dX11_heaped_7 : decode cX11_heaped 7 = .ok (.iconst (-1), 1) := by decide +kernel
theorem dX11_heaped_8 : decode cX11_heaped 8 = .ok (.invokevirtual 213, 3) := by decide +kernel
theorem dX11_heaped_11 : decode cX11_heaped 11 = .ok (.ireturn, 1) := by decide +kernel
theorem dX11_shipped_0 : decode cX11_shipped 0 = .ok (.aload_n 0, 1) := by decide +kernel
theorem dX11_shipped_1 : decode cX11_shipped 1 = .ok (.getfield 10, 3) := by decide +kernel
theorem dX11_shipped_4 : decode cX11_shipped 4 = .ok (.getfield 216, 3) := by decide +kernel
theorem dX11_shipped_7 : decode cX11_shipped 7 = .ok (.ireturn, 1) := by decide +kernel
theorem dX11_composted_0 : decode cX11_composted 0 = .ok (.aload_n 0, 1) := by decide +kernel
theorem dX11_composted_1 : decode cX11_composted 1 = .ok (.getfield 10, 3) := by decide +kernel
theorem dX11_composted_4 : decode cX11_composted 4 = .ok (.getfield 219, 3) := by decide +kernel
theorem dX11_composted_7 : decode cX11_composted 7 = .ok (.ireturn, 1) := by decide +kernel
theorem dX11_meanVolume_0 : decode cX11_meanVolume 0 = .ok (.aload_n 0, 1) := by decide +kernel
theorem dX11_meanVolume_1 : decode cX11_meanVolume 1 = .ok (.getfield 10, 3) := by decide +kernel
theorem dX11_meanVolume_4 : decode cX11_meanVolume 4 = .ok (.getfield 109, 3) := by decide +kernel
theorem dX11_meanVolume_7 : decode cX11_meanVolume 7 = .ok (.invokevirtual 222, 3) := by decide +kernel
theorem dX11_meanVolume_10 : decode cX11_meanVolume 10 = .ok (.istore_n 1, 1) := by decide +kernel
theorem dX11_meanVolume_11 : decode cX11_meanVolume 11 = .ok (.iload_n 1, 1) := by decide +kernel
theorem dX11_meanVolume_12 : decode cX11_meanVolume 12 = .ok (.ifCond .ne 13, 3) := by decide +kernel
theorem dX11_meanVolume_15 : decode cX11_meanVolume 15 = .ok (.new 225, 3) := by decide +kernel
theorem dX11_meanVolume_18 : decode cX11_meanVolume 18 = .ok (.dup, 1) := by decide +kernel
theorem dX11_meanVolume_19 : decode cX11_meanVolume 19 = .ok (.ldc 227, 2) := by decide +kernel
theorem dX11_meanVolume_21 : decode cX11_meanVolume 21 = .ok (.invokespecial 229, 3) := by decide +kernel
theorem dX11_meanVolume_24 : decode cX11_meanVolume 24 = .ok (.athrow, 1) := by decide +kernel
theorem dX11_meanVolume_25 : decode cX11_meanVolume 25 = .ok (.aload_n 0, 1) := by decide +kernel
theorem dX11_meanVolume_26 : decode cX11_meanVolume 26 = .ok (.getfield 10, 3) := by decide +kernel
theorem dX11_meanVolume_29 : decode cX11_meanVolume 29 = .ok (.getfield 109, 3) := by decide +kernel
theorem dX11_meanVolume_32 : decode cX11_meanVolume 32 = .ok (.invokevirtual 210, 3) := by decide +kernel
theorem dX11_meanVolume_35 : decode cX11_meanVolume 35 = .ok (.i2d, 1) := by decide +kernel
theorem dX11_meanVolume_36 : decode cX11_meanVolume 36 = .ok (.iload_n 1, 1) := by decide +kernel
theorem dX11_meanVolume_37 : decode cX11_meanVolume 37 = .ok (.i2d, 1) := by decide +kernel
theorem dX11_meanVolume_38 : decode cX11_meanVolume 38 = .ok (.ddiv, 1) := by decide +kernel
theorem dX11_meanVolume_39 : decode cX11_meanVolume 39 = .ok (.dreturn, 1) := by decide +kernel
theorem dX11_expiredShare_0 : decode cX11_expiredShare 0 = .ok (.aload_n 0, 1) := by decide +kernel
theorem dX11_expiredShare_1 : decode cX11_expiredShare 1 = .ok (.getfield 10, 3) := by decide +kernel
theorem dX11_expiredShare_4 : decode cX11_expiredShare 4 = .ok (.getfield 109, 3) := by decide +kernel
theorem dX11_expiredShare_7 : decode cX11_expiredShare 7 = .ok (.invokevirtual 222, 3) := by decide +kernel
theorem dX11_expiredShare_10 : decode cX11_expiredShare 10 = .ok (.istore_n 1, 1) := by decide +kernel
theorem dX11_expiredShare_11 : decode cX11_expiredShare 11 = .ok (.iload_n 1, 1) := by decide +kernel
theorem dX11_expiredShare_12 : decode cX11_expiredShare 12 = .ok (.ifCond .ne 13, 3) := by decide +kernel
theorem dX11_expiredShare_15 : decode cX11_expiredShare 15 = .ok (.new 225, 3) := by decide +kernel
theorem dX11_expiredShare_18 : decode cX11_expiredShare 18 = .ok (.dup, 1) := by decide +kernel
theorem dX11_expiredShare_19 : decode cX11_expiredShare 19 = .ok (.ldc 227, 2) := by decide +kernel
theorem dX11_expiredShare_21 : decode cX11_expiredShare 21 = .ok (.invokespecial 229, 3) := by decide +kernel
theorem dX11_expiredShare_24 : decode cX11_expiredShare 24 = .ok (.athrow, 1) := by decide +kernel
theorem dX11_expiredShare_25 : decode cX11_expiredShare 25 = .ok (.aload_n 0, 1) := by decide +kernel
theorem dX11_expiredShare_26 : decode cX11_expiredShare 26 = .ok (.getfield 10, 3) := by decide +kernel
theorem dX11_expiredShare_29 : decode cX11_expiredShare 29 = .ok (.invokevirtual 232, 3) := by decide +kernel
theorem dX11_expiredShare_32 : decode cX11_expiredShare 32 = .ok (.i2f, 1) := by decide +kernel
theorem dX11_expiredShare_33 : decode cX11_expiredShare 33 = .ok (.iload_n 1, 1) := by decide +kernel
theorem dX11_expiredShare_34 : decode cX11_expiredShare 34 = .ok (.i2f, 1) := by decide +kernel
theorem dX11_expiredShare_35 : decode cX11_expiredShare 35 = .ok (.fdiv, 1) := by decide +kernel
theorem dX11_expiredShare_36 : decode cX11_expiredShare 36 = .ok (.freturn, 1) := by decide +kernel
theorem dX11_feed_0 : decode cX11_feed 0 = .ok (.aload_n 0, 1) := by decide +kernel
theorem dX11_feed_1 : decode cX11_feed 1 = .ok (.getfield 53, 3) := by decide +kernel
theorem dX11_feed_4 : decode cX11_feed 4 = .ok (.getfield 235, 3) := by decide +kernel
theorem dX11_feed_7 : decode cX11_feed 7 = .ok (.bipush 60, 2) := by decide +kernel
theorem dX11_feed_9 : decode cX11_feed 9 = .ok (.if_icmp .lt 13, 3) := by decide +kernel
theorem dX11_feed_12 : decode cX11_feed 12 = .ok (.new 238, 3) := by decide +kernel
theorem dX11_feed_15 : decode cX11_feed 15 = .ok (.dup, 1) := by decide +kernel
theorem dX11_feed_16 : decode cX11_feed 16 = .ok (.ldc 240, 2) := by decide +kernel
theorem dX11_feed_18 : decode cX11_feed 18 = .ok (.invokespecial 242, 3) := by decide +kernel
theorem dX11_feed_21 : decode cX11_feed 21 = .ok (.athrow, 1) := by decide +kernel
theorem dX11_feed_22 : decode cX11_feed 22 = .ok (.aload_n 0, 1) := by decide +kernel
theorem dX11_feed_23 : decode cX11_feed 23 = .ok (.getfield 53, 3) := by decide +kernel
theorem dX11_feed_26 : decode cX11_feed 26 = .ok (.iload_n 1, 1) := by decide +kernel
theorem dX11_feed_27 : decode cX11_feed 27 = .ok (.invokevirtual 243, 3) := by decide +kernel
theorem dX11_feed_30 : decode cX11_feed 30 = .ok (.aload_n 0, 1) := by decide +kernel
theorem dX11_feed_31 : decode cX11_feed 31 = .ok (.getfield 53, 3) := by decide +kernel
theorem dX11_feed_34 : decode cX11_feed 34 = .ok (.getfield 235, 3) := by decide +kernel
theorem dX11_feed_37 : decode cX11_feed 37 = .ok (.ireturn, 1) := by decide +kernel
theorem dX11_execute_0 : decode cX11_execute 0 = .ok (.aload_n 0, 1) := by decide +kernel
theorem dX11_execute_1 : decode cX11_execute 1 = .ok (.getfield 53, 3) := by decide +kernel
theorem dX11_execute_4 : decode cX11_execute 4 = .ok (.invokevirtual 247, 3) := by decide +kernel
theorem dX11_execute_7 : decode cX11_execute 7 = .ok (.istore_n 1, 1) := by decide +kernel
theorem dX11_execute_8 : decode cX11_execute 8 = .ok (.iload_n 1, 1) := by decide +kernel
theorem dX11_execute_9 : decode cX11_execute 9 = .ok (.iconst (-1), 1) := by decide +kernel
theorem dX11_execute_10 : decode cX11_execute 10 = .ok (.if_icmp .ne 20, 3) := by decide +kernel
theorem dX11_execute_13 : decode cX11_execute 13 = .ok (.aload_n 0, 1) := by decide +kernel
theorem dX11_execute_14 : decode cX11_execute 14 = .ok (.getfield 53, 3) := by decide +kernel
theorem dX11_execute_17 : decode cX11_execute 17 = .ok (.invokevirtual 250, 3) := by decide +kernel
theorem dX11_execute_20 : decode cX11_execute 20 = .ok (.new 253, 3) := by decide +kernel
theorem dX11_execute_23 : decode cX11_execute 23 = .ok (.dup, 1) := by decide +kernel
theorem dX11_execute_24 : decode cX11_execute 24 = .ok (.ldc 255, 2) := by decide +kernel
theorem dX11_execute_26 : decode cX11_execute 26 = .ok (.invokespecial 257, 3) := by decide +kernel
theorem dX11_execute_29 : decode cX11_execute 29 = .ok (.athrow, 1) := by decide +kernel
theorem dX11_execute_30 : decode cX11_execute 30 = .ok (.aload_n 0, 1) := by decide +kernel
theorem dX11_execute_31 : decode cX11_execute 31 = .ok (.iload_n 1, 1) := by decide +kernel
theorem dX11_execute_32 : decode cX11_execute 32 = .ok (.invokevirtual 258, 3) := by decide +kernel
theorem dX11_execute_35 : decode cX11_execute 35 = .ok (.istore_n 2, 1) := by decide +kernel
theorem dX11_execute_36 : decode cX11_execute 36 = .ok (.aload_n 0, 1) := by decide +kernel
theorem dX11_execute_37 : decode cX11_execute 37 = .ok (.getfield 53, 3) := by decide +kernel
theorem dX11_execute_40 : decode cX11_execute 40 = .ok (.invokevirtual 250, 3) := by decide +kernel
theorem dX11_execute_43 : decode cX11_execute 43 = .ok (.iload_n 2, 1) := by decide +kernel
theorem dX11_execute_44 : decode cX11_execute 44 = .ok (.ifCond .ne 14, 3) := by decide +kernel
theorem dX11_execute_47 : decode cX11_execute 47 = .ok (.new 261, 3) := by decide +kernel
theorem dX11_execute_50 : decode cX11_execute 50 = .ok (.dup, 1) := by decide +kernel
theorem dX11_execute_51 : decode cX11_execute 51 = .ok (.ldc_w 263, 3) := by decide +kernel
theorem dX11_execute_54 : decode cX11_execute 54 = .ok (.invokespecial 265, 3) := by decide +kernel
theorem dX11_execute_57 : decode cX11_execute 57 = .ok (.athrow, 1) := by decide +kernel
theorem dX11_execute_58 : decode cX11_execute 58 = .ok (.aload_n 0, 1) := by decide +kernel
theorem dX11_execute_59 : decode cX11_execute 59 = .ok (.getfield 25, 3) := by decide +kernel
theorem dX11_execute_62 : decode cX11_execute 62 = .ok (.aload_n 0, 1) := by decide +kernel
theorem dX11_execute_63 : decode cX11_execute 63 = .ok (.getfield 10, 3) := by decide +kernel
theorem dX11_execute_66 : decode cX11_execute 66 = .ok (.invokevirtual 266, 3) := by decide +kernel
theorem dX11_execute_69 : decode cX11_execute 69 = .ok (.aload_n 0, 1) := by decide +kernel
theorem dX11_execute_70 : decode cX11_execute 70 = .ok (.getfield 10, 3) := by decide +kernel
theorem dX11_execute_73 : decode cX11_execute 73 = .ok (.aload_n 0, 1) := by decide +kernel
theorem dX11_execute_74 : decode cX11_execute 74 = .ok (.getfield 16, 3) := by decide +kernel
theorem dX11_execute_77 : decode cX11_execute 77 = .ok (.invokevirtual 270, 3) := by decide +kernel
theorem dX11_execute_80 : decode cX11_execute 80 = .ok (.iload_n 1, 1) := by decide +kernel
theorem dX11_execute_81 : decode cX11_execute 81 = .ok (.ireturn, 1) := by decide +kernel
theorem dX11_writeLot_0 : decode cX11_writeLot 0 = .ok (.aload_n 0, 1) := by decide +kernel
theorem dX11_writeLot_1 : decode cX11_writeLot 1 = .ok (.iload_n 1, 1) := by decide +kernel
theorem dX11_writeLot_2 : decode cX11_writeLot 2 = .ok (.invokevirtual 143, 3) := by decide +kernel
theorem dX11_writeLot_5 : decode cX11_writeLot 5 = .ok (.aload_n 0, 1) := by decide +kernel
theorem dX11_writeLot_6 : decode cX11_writeLot 6 = .ok (.getfield 60, 3) := by decide +kernel
theorem dX11_writeLot_9 : decode cX11_writeLot 9 = .ok (.iconst 0, 1) := by decide +kernel
theorem dX11_writeLot_10 : decode cX11_writeLot 10 = .ok (.invokevirtual 276, 3) := by decide +kernel
theorem dX11_writeLot_13 : decode cX11_writeLot 13 = .ok (.aload_n 0, 1) := by decide +kernel
theorem dX11_writeLot_14 : decode cX11_writeLot 14 = .ok (.getfield 60, 3) := by decide +kernel
theorem dX11_writeLot_17 : decode cX11_writeLot 17 = .ok (.iload_n 1, 1) := by decide +kernel
theorem dX11_writeLot_18 : decode cX11_writeLot 18 = .ok (.invokevirtual 279, 3) := by decide +kernel
theorem dX11_writeLot_21 : decode cX11_writeLot 21 = .ok (.pop, 1) := by decide +kernel
theorem dX11_writeLot_22 : decode cX11_writeLot 22 = .ok (.aload_n 0, 1) := by decide +kernel
theorem dX11_writeLot_23 : decode cX11_writeLot 23 = .ok (.getfield 60, 3) := by decide +kernel
theorem dX11_writeLot_26 : decode cX11_writeLot 26 = .ok (.bipush 107, 2) := by decide +kernel
theorem dX11_writeLot_28 : decode cX11_writeLot 28 = .ok (.invokevirtual 282, 3) := by decide +kernel
theorem dX11_writeLot_31 : decode cX11_writeLot 31 = .ok (.aload_n 0, 1) := by decide +kernel
theorem dX11_writeLot_32 : decode cX11_writeLot 32 = .ok (.getfield 10, 3) := by decide +kernel
theorem dX11_writeLot_35 : decode cX11_writeLot 35 = .ok (.getfield 109, 3) := by decide +kernel
theorem dX11_writeLot_38 : decode cX11_writeLot 38 = .ok (.getfield 285, 3) := by decide +kernel
theorem dX11_writeLot_41 : decode cX11_writeLot 41 = .ok (.iload_n 1, 1) := by decide +kernel
theorem dX11_writeLot_42 : decode cX11_writeLot 42 = .ok (.invokevirtual 99, 3) := by decide +kernel
theorem dX11_writeLot_45 : decode cX11_writeLot 45 = .ok (.invokevirtual 279, 3) := by decide +kernel
theorem dX11_writeLot_48 : decode cX11_writeLot 48 = .ok (.pop, 1) := by decide +kernel
theorem dX11_writeLot_49 : decode cX11_writeLot 49 = .ok (.aload_n 0, 1) := by decide +kernel
theorem dX11_writeLot_50 : decode cX11_writeLot 50 = .ok (.getfield 60, 3) := by decide +kernel
theorem dX11_writeLot_53 : decode cX11_writeLot 53 = .ok (.bipush 122, 2) := by decide +kernel
theorem dX11_writeLot_55 : decode cX11_writeLot 55 = .ok (.invokevirtual 282, 3) := by decide +kernel
theorem dX11_writeLot_58 : decode cX11_writeLot 58 = .ok (.aload_n 0, 1) := by decide +kernel
theorem dX11_writeLot_59 : decode cX11_writeLot 59 = .ok (.getfield 10, 3) := by decide +kernel
theorem dX11_writeLot_62 : decode cX11_writeLot 62 = .ok (.getfield 109, 3) := by decide +kernel
theorem dX11_writeLot_65 : decode cX11_writeLot 65 = .ok (.getfield 288, 3) := by decide +kernel
theorem dX11_writeLot_68 : decode cX11_writeLot 68 = .ok (.iload_n 1, 1) := by decide +kernel
theorem dX11_writeLot_69 : decode cX11_writeLot 69 = .ok (.invokevirtual 99, 3) := by decide +kernel
theorem dX11_writeLot_72 : decode cX11_writeLot 72 = .ok (.invokevirtual 279, 3) := by decide +kernel
theorem dX11_writeLot_75 : decode cX11_writeLot 75 = .ok (.pop, 1) := by decide +kernel
theorem dX11_writeLot_76 : decode cX11_writeLot 76 = .ok (.aload_n 0, 1) := by decide +kernel
theorem dX11_writeLot_77 : decode cX11_writeLot 77 = .ok (.getfield 60, 3) := by decide +kernel
theorem dX11_writeLot_80 : decode cX11_writeLot 80 = .ok (.bipush 118, 2) := by decide +kernel
theorem dX11_writeLot_82 : decode cX11_writeLot 82 = .ok (.invokevirtual 282, 3) := by decide +kernel
theorem dX11_writeLot_85 : decode cX11_writeLot 85 = .ok (.aload_n 0, 1) := by decide +kernel
theorem dX11_writeLot_86 : decode cX11_writeLot 86 = .ok (.getfield 10, 3) := by decide +kernel
theorem dX11_writeLot_89 : decode cX11_writeLot 89 = .ok (.getfield 109, 3) := by decide +kernel
theorem dX11_writeLot_92 : decode cX11_writeLot 92 = .ok (.getfield 153, 3) := by decide +kernel
theorem dX11_writeLot_95 : decode cX11_writeLot 95 = .ok (.iload_n 1, 1) := by decide +kernel
theorem dX11_writeLot_96 : decode cX11_writeLot 96 = .ok (.invokevirtual 99, 3) := by decide +kernel
theorem dX11_writeLot_99 : decode cX11_writeLot 99 = .ok (.invokevirtual 279, 3) := by decide +kernel
theorem dX11_writeLot_102 : decode cX11_writeLot 102 = .ok (.pop, 1) := by decide +kernel
theorem dX11_writeLot_103 : decode cX11_writeLot 103 = .ok (.aload_n 0, 1) := by decide +kernel
theorem dX11_writeLot_104 : decode cX11_writeLot 104 = .ok (.getfield 60, 3) := by decide +kernel
theorem dX11_writeLot_107 : decode cX11_writeLot 107 = .ok (.bipush 101, 2) := by decide +kernel
theorem dX11_writeLot_109 : decode cX11_writeLot 109 = .ok (.invokevirtual 282, 3) := by decide +kernel
theorem dX11_writeLot_112 : decode cX11_writeLot 112 = .ok (.aload_n 0, 1) := by decide +kernel
theorem dX11_writeLot_113 : decode cX11_writeLot 113 = .ok (.getfield 10, 3) := by decide +kernel
theorem dX11_writeLot_116 : decode cX11_writeLot 116 = .ok (.getfield 109, 3) := by decide +kernel
theorem dX11_writeLot_119 : decode cX11_writeLot 119 = .ok (.getfield 156, 3) := by decide +kernel
theorem dX11_writeLot_122 : decode cX11_writeLot 122 = .ok (.iload_n 1, 1) := by decide +kernel
theorem dX11_writeLot_123 : decode cX11_writeLot 123 = .ok (.invokevirtual 99, 3) := by decide +kernel
theorem dX11_writeLot_126 : decode cX11_writeLot 126 = .ok (.invokevirtual 279, 3) := by decide +kernel
theorem dX11_writeLot_129 : decode cX11_writeLot 129 = .ok (.pop, 1) := by decide +kernel
theorem dX11_writeLot_130 : decode cX11_writeLot 130 = .ok (.aload_n 0, 1) := by decide +kernel
theorem dX11_writeLot_131 : decode cX11_writeLot 131 = .ok (.getfield 10, 3) := by decide +kernel
theorem dX11_writeLot_134 : decode cX11_writeLot 134 = .ok (.iload_n 1, 1) := by decide +kernel
theorem dX11_writeLot_135 : decode cX11_writeLot 135 = .ok (.invokevirtual 159, 3) := by decide +kernel
theorem dX11_writeLot_138 : decode cX11_writeLot 138 = .ok (.ifCond .eq 13, 3) := by decide +kernel
theorem dX11_writeLot_141 : decode cX11_writeLot 141 = .ok (.aload_n 0, 1) := by decide +kernel
theorem dX11_writeLot_142 : decode cX11_writeLot 142 = .ok (.getfield 60, 3) := by decide +kernel
theorem dX11_writeLot_145 : decode cX11_writeLot 145 = .ok (.bipush 33, 2) := by decide +kernel
theorem dX11_writeLot_147 : decode cX11_writeLot 147 = .ok (.invokevirtual 282, 3) := by decide +kernel
theorem dX11_writeLot_150 : decode cX11_writeLot 150 = .ok (.pop, 1) := by decide +kernel
theorem dX11_writeLot_151 : decode cX11_writeLot 151 = .ok (.aload_n 0, 1) := by decide +kernel
theorem dX11_writeLot_152 : decode cX11_writeLot 152 = .ok (.aload_n 0, 1) := by decide +kernel
theorem dX11_writeLot_153 : decode cX11_writeLot 153 = .ok (.getfield 10, 3) := by decide +kernel
theorem dX11_writeLot_156 : decode cX11_writeLot 156 = .ok (.getfield 109, 3) := by decide +kernel
theorem dX11_writeLot_159 : decode cX11_writeLot 159 = .ok (.getfield 150, 3) := by decide +kernel
theorem dX11_writeLot_162 : decode cX11_writeLot 162 = .ok (.iload_n 1, 1) := by decide +kernel
theorem dX11_writeLot_163 : decode cX11_writeLot 163 = .ok (.invokevirtual 99, 3) := by decide +kernel
theorem dX11_writeLot_166 : decode cX11_writeLot 166 = .ok (.invokevirtual 289, 3) := by decide +kernel
theorem dX11_writeLot_169 : decode cX11_writeLot 169 = .ok (.aload_n 0, 1) := by decide +kernel
theorem dX11_writeLot_170 : decode cX11_writeLot 170 = .ok (.aload_n 0, 1) := by decide +kernel
theorem dX11_writeLot_171 : decode cX11_writeLot 171 = .ok (.getfield 10, 3) := by decide +kernel
theorem dX11_writeLot_174 : decode cX11_writeLot 174 = .ok (.getfield 109, 3) := by decide +kernel
theorem dX11_writeLot_177 : decode cX11_writeLot 177 = .ok (.getfield 292, 3) := by decide +kernel
theorem dX11_writeLot_180 : decode cX11_writeLot 180 = .ok (.iload_n 1, 1) := by decide +kernel
theorem dX11_writeLot_181 : decode cX11_writeLot 181 = .ok (.invokevirtual 99, 3) := by decide +kernel
theorem dX11_writeLot_184 : decode cX11_writeLot 184 = .ok (.invokevirtual 295, 3) := by decide +kernel
theorem dX11_writeLot_187 : decode cX11_writeLot 187 = .ok (.aload_n 0, 1) := by decide +kernel
theorem dX11_writeLot_188 : decode cX11_writeLot 188 = .ok (.aload_n 0, 1) := by decide +kernel
theorem dX11_writeLot_189 : decode cX11_writeLot 189 = .ok (.getfield 10, 3) := by decide +kernel
theorem dX11_writeLot_192 : decode cX11_writeLot 192 = .ok (.getfield 109, 3) := by decide +kernel
theorem dX11_writeLot_195 : decode cX11_writeLot 195 = .ok (.getfield 298, 3) := by decide +kernel
theorem dX11_writeLot_198 : decode cX11_writeLot 198 = .ok (.iload_n 1, 1) := by decide +kernel
theorem dX11_writeLot_199 : decode cX11_writeLot 199 = .ok (.invokevirtual 99, 3) := by decide +kernel
theorem dX11_writeLot_202 : decode cX11_writeLot 202 = .ok (.invokevirtual 295, 3) := by decide +kernel
theorem dX11_writeLot_205 : decode cX11_writeLot 205 = .ok (.aload_n 0, 1) := by decide +kernel
theorem dX11_writeLot_206 : decode cX11_writeLot 206 = .ok (.getfield 60, 3) := by decide +kernel
theorem dX11_writeLot_209 : decode cX11_writeLot 209 = .ok (.invokevirtual 301, 3) := by decide +kernel
theorem dX11_writeLot_212 : decode cX11_writeLot 212 = .ok (.ireturn, 1) := by decide +kernel
theorem dX11_denial_0 : decode cX11_denial 0 = .ok (.aload_n 0, 1) := by decide +kernel
theorem dX11_denial_1 : decode cX11_denial 1 = .ok (.getfield 68, 3) := by decide +kernel
theorem dX11_denial_4 : decode cX11_denial 4 = .ok (.invokestatic 126, 3) := by decide +kernel
theorem dX11_denial_7 : decode cX11_denial 7 = .ok (.ireturn, 1) := by decide +kernel
theorem dX11_denialCause_0 : decode cX11_denialCause 0 = .ok (.aload_n 0, 1) := by decide +kernel
theorem dX11_denialCause_1 : decode cX11_denialCause 1 = .ok (.getfield 75, 3) := by decide +kernel
theorem dX11_denialCause_4 : decode cX11_denialCause 4 = .ok (.invokestatic 126, 3) := by decide +kernel
theorem dX11_denialCause_7 : decode cX11_denialCause 7 = .ok (.ireturn, 1) := by decide +kernel
theorem dX11_undo_0 : decode cX11_undo 0 = .ok (.aload_n 0, 1) := by decide +kernel
theorem dX11_undo_1 : decode cX11_undo 1 = .ok (.getfield 25, 3) := by decide +kernel
theorem dX11_undo_4 : decode cX11_undo 4 = .ok (.getfield 312, 3) := by decide +kernel
theorem dX11_undo_7 : decode cX11_undo 7 = .ok (.ifCond .ne 14, 3) := by decide +kernel
theorem dX11_undo_10 : decode cX11_undo 10 = .ok (.new 238, 3) := by decide +kernel
theorem dX11_undo_13 : decode cX11_undo 13 = .ok (.dup, 1) := by decide +kernel
theorem dX11_undo_14 : decode cX11_undo 14 = .ok (.ldc_w 313, 3) := by decide +kernel
theorem dX11_undo_17 : decode cX11_undo 17 = .ok (.invokespecial 242, 3) := by decide +kernel
theorem dX11_undo_20 : decode cX11_undo 20 = .ok (.athrow, 1) := by decide +kernel
theorem dX11_undo_21 : decode cX11_undo 21 = .ok (.aload_n 0, 1) := by decide +kernel
theorem dX11_undo_22 : decode cX11_undo 22 = .ok (.getfield 25, 3) := by decide +kernel
theorem dX11_undo_25 : decode cX11_undo 25 = .ok (.aload_n 0, 1) := by decide +kernel
theorem dX11_undo_26 : decode cX11_undo 26 = .ok (.getfield 10, 3) := by decide +kernel
theorem dX11_undo_29 : decode cX11_undo 29 = .ok (.invokevirtual 315, 3) := by decide +kernel
theorem dX11_undo_32 : decode cX11_undo 32 = .ok (.aload_n 0, 1) := by decide +kernel
theorem dX11_undo_33 : decode cX11_undo 33 = .ok (.getfield 25, 3) := by decide +kernel
theorem dX11_undo_36 : decode cX11_undo 36 = .ok (.getfield 312, 3) := by decide +kernel
theorem dX11_undo_39 : decode cX11_undo 39 = .ok (.ireturn, 1) := by decide +kernel
theorem dX11_undoCount_0 : decode cX11_undoCount 0 = .ok (.aload_n 0, 1) := by decide +kernel
theorem dX11_undoCount_1 : decode cX11_undoCount 1 = .ok (.getfield 25, 3) := by decide +kernel
theorem dX11_undoCount_4 : decode cX11_undoCount 4 = .ok (.getfield 312, 3) := by decide +kernel
theorem dX11_undoCount_7 : decode cX11_undoCount 7 = .ok (.ireturn, 1) := by decide +kernel
theorem dX11_saveSnapshot_0 : decode cX11_saveSnapshot 0 = .ok (.aload_n 0, 1) := by decide +kernel
theorem dX11_saveSnapshot_1 : decode cX11_saveSnapshot 1 = .ok (.getfield 19, 3) := by decide +kernel
theorem dX11_saveSnapshot_4 : decode cX11_saveSnapshot 4 = .ok (.aload_n 0, 1) := by decide +kernel
theorem dX11_saveSnapshot_5 : decode cX11_saveSnapshot 5 = .ok (.getfield 10, 3) := by decide +kernel
theorem dX11_saveSnapshot_8 : decode cX11_saveSnapshot 8 = .ok (.invokevirtual 270, 3) := by decide +kernel
theorem dX11_saveSnapshot_11 : decode cX11_saveSnapshot 11 = .ok (.aload_n 0, 1) := by decide +kernel
theorem dX11_saveSnapshot_12 : decode cX11_saveSnapshot 12 = .ok (.iconst 1, 1) := by decide +kernel
theorem dX11_saveSnapshot_13 : decode cX11_saveSnapshot 13 = .ok (.putfield 64, 3) := by decide +kernel
theorem dX11_saveSnapshot_16 : decode cX11_saveSnapshot 16 = .ok (.aload_n 0, 1) := by decide +kernel
theorem dX11_saveSnapshot_17 : decode cX11_saveSnapshot 17 = .ok (.getfield 10, 3) := by decide +kernel
theorem dX11_saveSnapshot_20 : decode cX11_saveSnapshot 20 = .ok (.getfield 109, 3) := by decide +kernel
theorem dX11_saveSnapshot_23 : decode cX11_saveSnapshot 23 = .ok (.getfield 142, 3) := by decide +kernel
theorem dX11_saveSnapshot_26 : decode cX11_saveSnapshot 26 = .ok (.ireturn, 1) := by decide +kernel
theorem dX11_restoreSnapshot_0 : decode cX11_restoreSnapshot 0 = .ok (.aload_n 0, 1) := by decide +kernel
theorem dX11_restoreSnapshot_1 : decode cX11_restoreSnapshot 1 = .ok (.getfield 64, 3) := by decide +kernel
theorem dX11_restoreSnapshot_4 : decode cX11_restoreSnapshot 4 = .ok (.ifCond .ne 14, 3) := by decide +kernel
theorem dX11_restoreSnapshot_7 : decode cX11_restoreSnapshot 7 = .ok (.new 238, 3) := by decide +kernel
theorem dX11_restoreSnapshot_10 : decode cX11_restoreSnapshot 10 = .ok (.dup, 1) := by decide +kernel
theorem dX11_restoreSnapshot_11 : decode cX11_restoreSnapshot 11 = .ok (.ldc_w 318, 3) := by decide +kernel
theorem dX11_restoreSnapshot_14 : decode cX11_restoreSnapshot 14 = .ok (.invokespecial 242, 3) := by decide +kernel
theorem dX11_restoreSnapshot_17 : decode cX11_restoreSnapshot 17 = .ok (.athrow, 1) := by decide +kernel
theorem dX11_restoreSnapshot_18 : decode cX11_restoreSnapshot 18 = .ok (.aload_n 0, 1) := by decide +kernel
theorem dX11_restoreSnapshot_19 : decode cX11_restoreSnapshot 19 = .ok (.getfield 10, 3) := by decide +kernel
theorem dX11_restoreSnapshot_22 : decode cX11_restoreSnapshot 22 = .ok (.aload_n 0, 1) := by decide +kernel
theorem dX11_restoreSnapshot_23 : decode cX11_restoreSnapshot 23 = .ok (.getfield 19, 3) := by decide +kernel
theorem dX11_restoreSnapshot_26 : decode cX11_restoreSnapshot 26 = .ok (.invokevirtual 270, 3) := by decide +kernel
theorem dX11_restoreSnapshot_29 : decode cX11_restoreSnapshot 29 = .ok (.aload_n 0, 1) := by decide +kernel
theorem dX11_restoreSnapshot_30 : decode cX11_restoreSnapshot 30 = .ok (.getfield 25, 3) := by decide +kernel
theorem dX11_restoreSnapshot_33 : decode cX11_restoreSnapshot 33 = .ok (.invokevirtual 320, 3) := by decide +kernel
theorem dX11_restoreSnapshot_36 : decode cX11_restoreSnapshot 36 = .ok (.aload_n 0, 1) := by decide +kernel
theorem dX11_restoreSnapshot_37 : decode cX11_restoreSnapshot 37 = .ok (.getfield 10, 3) := by decide +kernel
theorem dX11_restoreSnapshot_40 : decode cX11_restoreSnapshot 40 = .ok (.getfield 109, 3) := by decide +kernel
theorem dX11_restoreSnapshot_43 : decode cX11_restoreSnapshot 43 = .ok (.getfield 142, 3) := by decide +kernel
theorem dX11_restoreSnapshot_46 : decode cX11_restoreSnapshot 46 = .ok (.ireturn, 1) := by decide +kernel
theorem dX11_change_0 : decode cX11_change 0 = .ok (.aload_n 0, 1) := by decide +kernel
theorem dX11_change_1 : decode cX11_change 1 = .ok (.getfield 32, 3) := by decide +kernel
theorem dX11_change_4 : decode cX11_change 4 = .ok (.aload_n 0, 1) := by decide +kernel
theorem dX11_change_5 : decode cX11_change 5 = .ok (.getfield 10, 3) := by decide +kernel
theorem dX11_change_8 : decode cX11_change 8 = .ok (.iload_n 1, 1) := by decide +kernel
theorem dX11_change_9 : decode cX11_change 9 = .ok (.iload_n 2, 1) := by decide +kernel
theorem dX11_change_10 : decode cX11_change 10 = .ok (.iload_n 3, 1) := by decide +kernel
theorem dX11_change_11 : decode cX11_change 11 = .ok (.iload 4, 2) := by decide +kernel
theorem dX11_change_13 : decode cX11_change 13 = .ok (.iload 5, 2) := by decide +kernel
theorem dX11_change_15 : decode cX11_change 15 = .ok (.invokevirtual 323, 3) := by decide +kernel
theorem dX11_change_18 : decode cX11_change 18 = .ok (.istore 6, 2) := by decide +kernel
theorem dX11_change_20 : decode cX11_change 20 = .ok (.iload 6, 2) := by decide +kernel
theorem dX11_change_22 : decode cX11_change 22 = .ok (.ifCond .eq 9, 3) := by decide +kernel
theorem dX11_change_25 : decode cX11_change 25 = .ok (.aload_n 0, 1) := by decide +kernel
theorem dX11_change_26 : decode cX11_change 26 = .ok (.iload 6, 2) := by decide +kernel
theorem dX11_change_28 : decode cX11_change 28 = .ok (.invokevirtual 327, 3) := by decide +kernel
theorem dX11_change_31 : decode cX11_change 31 = .ok (.aload_n 0, 1) := by decide +kernel
theorem dX11_change_32 : decode cX11_change 32 = .ok (.getfield 25, 3) := by decide +kernel
theorem dX11_change_35 : decode cX11_change 35 = .ok (.aload_n 0, 1) := by decide +kernel
theorem dX11_change_36 : decode cX11_change 36 = .ok (.getfield 10, 3) := by decide +kernel
theorem dX11_change_39 : decode cX11_change 39 = .ok (.invokevirtual 266, 3) := by decide +kernel
theorem dX11_change_42 : decode cX11_change 42 = .ok (.aload_n 0, 1) := by decide +kernel
theorem dX11_change_43 : decode cX11_change 43 = .ok (.getfield 10, 3) := by decide +kernel
theorem dX11_change_46 : decode cX11_change 46 = .ok (.iload_n 1, 1) := by decide +kernel
theorem dX11_change_47 : decode cX11_change 47 = .ok (.iload_n 2, 1) := by decide +kernel
theorem dX11_change_48 : decode cX11_change 48 = .ok (.iload_n 3, 1) := by decide +kernel
theorem dX11_change_49 : decode cX11_change 49 = .ok (.iload 4, 2) := by decide +kernel
theorem dX11_change_51 : decode cX11_change 51 = .ok (.iload 5, 2) := by decide +kernel
theorem dX11_change_53 : decode cX11_change 53 = .ok (.invokestatic 330, 3) := by decide +kernel
theorem dX11_change_56 : decode cX11_change 56 = .ok (.ireturn, 1) := by decide +kernel
theorem dX11_refuse_0 : decode cX11_refuse 0 = .ok (.iload_n 1, 1) := by decide +kernel
theorem dX11_refuse_1 : decode cX11_refuse 1 = .ok (.iconst (-1), 1) := by decide +kernel
theorem dX11_refuse_2 : decode cX11_refuse 2 = .ok (.if_icmp .ne 14, 3) := by decide +kernel
theorem dX11_refuse_5 : decode cX11_refuse 5 = .ok (.new 335, 3) := by decide +kernel
theorem dX11_refuse_8 : decode cX11_refuse 8 = .ok (.dup, 1) := by decide +kernel
theorem dX11_refuse_9 : decode cX11_refuse 9 = .ok (.ldc_w 337, 3) := by decide +kernel
theorem dX11_refuse_12 : decode cX11_refuse 12 = .ok (.invokespecial 339, 3) := by decide +kernel
theorem dX11_refuse_15 : decode cX11_refuse 15 = .ok (.athrow, 1) := by decide +kernel
theorem dX11_refuse_16 : decode cX11_refuse 16 = .ok (.iload_n 1, 1) := by decide +kernel
theorem dX11_refuse_17 : decode cX11_refuse 17 = .ok (.bipush (-2), 2) := by decide +kernel
theorem dX11_refuse_19 : decode cX11_refuse 19 = .ok (.if_icmp .ne 14, 3) := by decide +kernel
theorem dX11_refuse_22 : decode cX11_refuse 22 = .ok (.new 303, 3) := by decide +kernel
theorem dX11_refuse_25 : decode cX11_refuse 25 = .ok (.dup, 1) := by decide +kernel
theorem dX11_refuse_26 : decode cX11_refuse 26 = .ok (.ldc_w 340, 3) := by decide +kernel
theorem dX11_refuse_29 : decode cX11_refuse 29 = .ok (.invokespecial 307, 3) := by decide +kernel
theorem dX11_refuse_32 : decode cX11_refuse 32 = .ok (.athrow, 1) := by decide +kernel
theorem dX11_refuse_33 : decode cX11_refuse 33 = .ok (.iload_n 1, 1) := by decide +kernel
theorem dX11_refuse_34 : decode cX11_refuse 34 = .ok (.bipush (-3), 2) := by decide +kernel
theorem dX11_refuse_36 : decode cX11_refuse 36 = .ok (.if_icmp .ne 14, 3) := by decide +kernel
theorem dX11_refuse_39 : decode cX11_refuse 39 = .ok (.new 253, 3) := by decide +kernel
theorem dX11_refuse_42 : decode cX11_refuse 42 = .ok (.dup, 1) := by decide +kernel
theorem dX11_refuse_43 : decode cX11_refuse 43 = .ok (.ldc_w 342, 3) := by decide +kernel
theorem dX11_refuse_46 : decode cX11_refuse 46 = .ok (.invokespecial 257, 3) := by decide +kernel
theorem dX11_refuse_49 : decode cX11_refuse 49 = .ok (.athrow, 1) := by decide +kernel
theorem dX11_refuse_50 : decode cX11_refuse 50 = .ok (.aload_n 0, 1) := by decide +kernel
theorem dX11_refuse_51 : decode cX11_refuse 51 = .ok (.iload_n 1, 1) := by decide +kernel
theorem dX11_refuse_52 : decode cX11_refuse 52 = .ok (.aload_n 0, 1) := by decide +kernel
theorem dX11_refuse_53 : decode cX11_refuse 53 = .ok (.getfield 32, 3) := by decide +kernel
theorem dX11_refuse_56 : decode cX11_refuse 56 = .ok (.getfield 344, 3) := by decide +kernel
theorem dX11_refuse_59 : decode cX11_refuse 59 = .ok (.iconst (-1), 1) := by decide +kernel
theorem dX11_refuse_60 : decode cX11_refuse 60 = .ok (.invokevirtual 347, 3) := by decide +kernel
theorem dX11_refuse_63 : decode cX11_refuse 63 = .ok (.new 261, 3) := by decide +kernel
theorem dX11_refuse_66 : decode cX11_refuse 66 = .ok (.dup, 1) := by decide +kernel
theorem dX11_refuse_67 : decode cX11_refuse 67 = .ok (.ldc_w 350, 3) := by decide +kernel
theorem dX11_refuse_70 : decode cX11_refuse 70 = .ok (.invokespecial 265, 3) := by decide +kernel
theorem dX11_refuse_73 : decode cX11_refuse 73 = .ok (.athrow, 1) := by decide +kernel
theorem dX11_keepDenial_0 : decode cX11_keepDenial 0 = .ok (.aload_n 0, 1) := by decide +kernel
theorem dX11_keepDenial_1 : decode cX11_keepDenial 1 = .ok (.iload_n 1, 1) := by decide +kernel
theorem dX11_keepDenial_2 : decode cX11_keepDenial 2 = .ok (.putfield 68, 3) := by decide +kernel
theorem dX11_keepDenial_5 : decode cX11_keepDenial 5 = .ok (.aload_n 0, 1) := by decide +kernel
theorem dX11_keepDenial_6 : decode cX11_keepDenial 6 = .ok (.iload_n 2, 1) := by decide +kernel
theorem dX11_keepDenial_7 : decode cX11_keepDenial 7 = .ok (.putfield 72, 3) := by decide +kernel
theorem dX11_keepDenial_10 : decode cX11_keepDenial 10 = .ok (.aload_n 0, 1) := by decide +kernel
theorem dX11_keepDenial_11 : decode cX11_keepDenial 11 = .ok (.iload_n 3, 1) := by decide +kernel
theorem dX11_keepDenial_12 : decode cX11_keepDenial 12 = .ok (.putfield 75, 3) := by decide +kernel
theorem dX11_keepDenial_15 : decode cX11_keepDenial 15 = .ok (.return_, 1) := by decide +kernel
theorem dX11_runOnDraft_0 : decode cX11_runOnDraft 0 = .ok (.aload_n 0, 1) := by decide +kernel
theorem dX11_runOnDraft_1 : decode cX11_runOnDraft 1 = .ok (.getfield 16, 3) := by decide +kernel
theorem dX11_runOnDraft_4 : decode cX11_runOnDraft 4 = .ok (.aload_n 0, 1) := by decide +kernel
theorem dX11_runOnDraft_5 : decode cX11_runOnDraft 5 = .ok (.getfield 10, 3) := by decide +kernel
theorem dX11_runOnDraft_8 : decode cX11_runOnDraft 8 = .ok (.invokevirtual 270, 3) := by decide +kernel
theorem dX11_runOnDraft_11 : decode cX11_runOnDraft 11 = .ok (.iconst 0, 1) := by decide +kernel
theorem dX11_runOnDraft_12 : decode cX11_runOnDraft 12 = .ok (.istore_n 2, 1) := by decide +kernel
theorem dX11_runOnDraft_13 : decode cX11_runOnDraft 13 = .ok (.iconst 0, 1) := by decide +kernel
theorem dX11_runOnDraft_14 : decode cX11_runOnDraft 14 = .ok (.istore_n 3, 1) := by decide +kernel
theorem dX11_runOnDraft_15 : decode cX11_runOnDraft 15 = .ok (.iload_n 3, 1) := by decide +kernel
theorem dX11_runOnDraft_16 : decode cX11_runOnDraft 16 = .ok (.iload_n 1, 1) := by decide +kernel
theorem dX11_runOnDraft_17 : decode cX11_runOnDraft 17 = .ok (.if_icmp .ge 146, 3) := by decide +kernel
theorem dX11_runOnDraft_20 : decode cX11_runOnDraft 20 = .ok (.aload_n 0, 1) := by decide +kernel
theorem dX11_runOnDraft_21 : decode cX11_runOnDraft 21 = .ok (.getfield 53, 3) := by decide +kernel
theorem dX11_runOnDraft_24 : decode cX11_runOnDraft 24 = .ok (.iload_n 2, 1) := by decide +kernel
theorem dX11_runOnDraft_25 : decode cX11_runOnDraft 25 = .ok (.invokevirtual 352, 3) := by decide +kernel
theorem dX11_runOnDraft_28 : decode cX11_runOnDraft 28 = .ok (.pop, 1) := by decide +kernel
theorem dX11_runOnDraft_29 : decode cX11_runOnDraft 29 = .ok (.aload_n 0, 1) := by decide +kernel
theorem dX11_runOnDraft_30 : decode cX11_runOnDraft 30 = .ok (.getfield 53, 3) := by decide +kernel
theorem dX11_runOnDraft_33 : decode cX11_runOnDraft 33 = .ok (.getfield 355, 3) := by decide +kernel
theorem dX11_runOnDraft_36 : decode cX11_runOnDraft 36 = .ok (.astore 4, 2) := by decide +kernel
theorem dX11_runOnDraft_38 : decode cX11_runOnDraft 38 = .ok (.aload_n 0, 1) := by decide +kernel
theorem dX11_runOnDraft_39 : decode cX11_runOnDraft 39 = .ok (.getfield 32, 3) := by decide +kernel
theorem dX11_runOnDraft_42 : decode cX11_runOnDraft 42 = .ok (.aload_n 0, 1) := by decide +kernel
theorem dX11_runOnDraft_43 : decode cX11_runOnDraft 43 = .ok (.getfield 16, 3) := by decide +kernel
theorem dX11_runOnDraft_46 : decode cX11_runOnDraft 46 = .ok (.aload_n 0, 1) := by decide +kernel
theorem dX11_runOnDraft_47 : decode cX11_runOnDraft 47 = .ok (.getfield 53, 3) := by decide +kernel
theorem dX11_runOnDraft_50 : decode cX11_runOnDraft 50 = .ok (.getfield 358, 3) := by decide +kernel
theorem dX11_runOnDraft_53 : decode cX11_runOnDraft 53 = .ok (.aload 4, 2) := by decide +kernel
theorem dX11_runOnDraft_55 : decode cX11_runOnDraft 55 = .ok (.iconst 0, 1) := by decide +kernel
theorem dX11_runOnDraft_56 : decode cX11_runOnDraft 56 = .ok (.invokevirtual 99, 3) := by decide +kernel
theorem dX11_runOnDraft_59 : decode cX11_runOnDraft 59 = .ok (.aload 4, 2) := by decide +kernel
theorem dX11_runOnDraft_61 : decode cX11_runOnDraft 61 = .ok (.iconst 1, 1) := by decide +kernel
theorem dX11_runOnDraft_62 : decode cX11_runOnDraft 62 = .ok (.invokevirtual 99, 3) := by decide +kernel
theorem dX11_runOnDraft_65 : decode cX11_runOnDraft 65 = .ok (.aload 4, 2) := by decide +kernel
theorem dX11_runOnDraft_67 : decode cX11_runOnDraft 67 = .ok (.iconst 2, 1) := by decide +kernel
theorem dX11_runOnDraft_68 : decode cX11_runOnDraft 68 = .ok (.invokevirtual 99, 3) := by decide +kernel
theorem dX11_runOnDraft_71 : decode cX11_runOnDraft 71 = .ok (.aload 4, 2) := by decide +kernel
theorem dX11_runOnDraft_73 : decode cX11_runOnDraft 73 = .ok (.iconst 3, 1) := by decide +kernel
theorem dX11_runOnDraft_74 : decode cX11_runOnDraft 74 = .ok (.invokevirtual 99, 3) := by decide +kernel
theorem dX11_runOnDraft_77 : decode cX11_runOnDraft 77 = .ok (.invokevirtual 323, 3) := by decide +kernel
theorem dX11_runOnDraft_80 : decode cX11_runOnDraft 80 = .ok (.istore 5, 2) := by decide +kernel
theorem dX11_runOnDraft_82 : decode cX11_runOnDraft 82 = .ok (.iload 5, 2) := by decide +kernel
theorem dX11_runOnDraft_84 : decode cX11_runOnDraft 84 = .ok (.ifCond .eq 24, 3) := by decide +kernel
theorem dX11_runOnDraft_87 : decode cX11_runOnDraft 87 = .ok (.aload_n 0, 1) := by decide +kernel
theorem dX11_runOnDraft_88 : decode cX11_runOnDraft 88 = .ok (.bipush 8, 2) := by decide +kernel
theorem dX11_runOnDraft_90 : decode cX11_runOnDraft 90 = .ok (.iload_n 3, 1) := by decide +kernel
theorem dX11_runOnDraft_91 : decode cX11_runOnDraft 91 = .ok (.iload 5, 2) := by decide +kernel
theorem dX11_runOnDraft_93 : decode cX11_runOnDraft 93 = .ok (.ifCond .le 8, 3) := by decide +kernel
theorem dX11_runOnDraft_96 : decode cX11_runOnDraft 96 = .ok (.iload 5, 2) := by decide +kernel
theorem dX11_runOnDraft_98 : decode cX11_runOnDraft 98 = .ok (.goto 5, 3) := by decide +kernel
theorem dX11_runOnDraft_101 : decode cX11_runOnDraft 101 = .ok (.bipush 9, 2) := by decide +kernel
theorem dX11_runOnDraft_103 : decode cX11_runOnDraft 103 = .ok (.invokevirtual 347, 3) := by decide +kernel
theorem dX11_runOnDraft_106 : decode cX11_runOnDraft 106 = .ok (.iconst 0, 1) := by decide +kernel
theorem dX11_runOnDraft_107 : decode cX11_runOnDraft 107 = .ok (.ireturn, 1) := by decide +kernel
theorem dX11_runOnDraft_108 : decode cX11_runOnDraft 108 = .ok (.aload_n 0, 1) := by decide +kernel
theorem dX11_runOnDraft_109 : decode cX11_runOnDraft 109 = .ok (.getfield 16, 3) := by decide +kernel
theorem dX11_runOnDraft_112 : decode cX11_runOnDraft 112 = .ok (.aload_n 0, 1) := by decide +kernel
theorem dX11_runOnDraft_113 : decode cX11_runOnDraft 113 = .ok (.getfield 53, 3) := by decide +kernel
theorem dX11_runOnDraft_116 : decode cX11_runOnDraft 116 = .ok (.getfield 358, 3) := by decide +kernel
theorem dX11_runOnDraft_119 : decode cX11_runOnDraft 119 = .ok (.aload 4, 2) := by decide +kernel
theorem dX11_runOnDraft_121 : decode cX11_runOnDraft 121 = .ok (.iconst 0, 1) := by decide +kernel
theorem dX11_runOnDraft_122 : decode cX11_runOnDraft 122 = .ok (.invokevirtual 99, 3) := by decide +kernel
theorem dX11_runOnDraft_125 : decode cX11_runOnDraft 125 = .ok (.aload 4, 2) := by decide +kernel
theorem dX11_runOnDraft_127 : decode cX11_runOnDraft 127 = .ok (.iconst 1, 1) := by decide +kernel
theorem dX11_runOnDraft_128 : decode cX11_runOnDraft 128 = .ok (.invokevirtual 99, 3) := by decide +kernel
theorem dX11_runOnDraft_131 : decode cX11_runOnDraft 131 = .ok (.aload 4, 2) := by decide +kernel
theorem dX11_runOnDraft_133 : decode cX11_runOnDraft 133 = .ok (.iconst 2, 1) := by decide +kernel
theorem dX11_runOnDraft_134 : decode cX11_runOnDraft 134 = .ok (.invokevirtual 99, 3) := by decide +kernel
theorem dX11_runOnDraft_137 : decode cX11_runOnDraft 137 = .ok (.aload 4, 2) := by decide +kernel
theorem dX11_runOnDraft_139 : decode cX11_runOnDraft 139 = .ok (.iconst 3, 1) := by decide +kernel
theorem dX11_runOnDraft_140 : decode cX11_runOnDraft 140 = .ok (.invokevirtual 99, 3) := by decide +kernel
theorem dX11_runOnDraft_143 : decode cX11_runOnDraft 143 = .ok (.invokestatic 330, 3) := by decide +kernel
theorem dX11_runOnDraft_146 : decode cX11_runOnDraft 146 = .ok (.pop, 1) := by decide +kernel
theorem dX11_runOnDraft_147 : decode cX11_runOnDraft 147 = .ok (.aload_n 0, 1) := by decide +kernel
theorem dX11_runOnDraft_148 : decode cX11_runOnDraft 148 = .ok (.getfield 53, 3) := by decide +kernel
theorem dX11_runOnDraft_151 : decode cX11_runOnDraft 151 = .ok (.getfield 361, 3) := by decide +kernel
theorem dX11_runOnDraft_154 : decode cX11_runOnDraft 154 = .ok (.iconst 1, 1) := by decide +kernel
theorem dX11_runOnDraft_155 : decode cX11_runOnDraft 155 = .ok (.iadd, 1) := by decide +kernel
theorem dX11_runOnDraft_156 : decode cX11_runOnDraft 156 = .ok (.istore_n 2, 1) := by decide +kernel
theorem dX11_runOnDraft_157 : decode cX11_runOnDraft 157 = .ok (.iinc 3 1, 3) := by decide +kernel
theorem dX11_runOnDraft_160 : decode cX11_runOnDraft 160 = .ok (.goto (-145), 3) := by decide +kernel
theorem dX11_runOnDraft_163 : decode cX11_runOnDraft 163 = .ok (.iconst 1, 1) := by decide +kernel
theorem dX11_runOnDraft_164 : decode cX11_runOnDraft 164 = .ok (.ireturn, 1) := by decide +kernel
theorem dX11_appendPlace_0 : decode cX11_appendPlace 0 = .ok (.iload_n 1, 1) := by decide +kernel
theorem dX11_appendPlace_1 : decode cX11_appendPlace 1 = .ok (.bipush (-2), 2) := by decide +kernel
theorem dX11_appendPlace_3 : decode cX11_appendPlace 3 = .ok (.if_icmp .ne 16, 3) := by decide +kernel
theorem dX11_appendPlace_6 : decode cX11_appendPlace 6 = .ok (.aload_n 0, 1) := by decide +kernel
theorem dX11_appendPlace_7 : decode cX11_appendPlace 7 = .ok (.getfield 60, 3) := by decide +kernel
theorem dX11_appendPlace_10 : decode cX11_appendPlace 10 = .ok (.bipush 45, 2) := by decide +kernel
theorem dX11_appendPlace_12 : decode cX11_appendPlace 12 = .ok (.invokevirtual 282, 3) := by decide +kernel
theorem dX11_appendPlace_15 : decode cX11_appendPlace 15 = .ok (.pop, 1) := by decide +kernel
theorem dX11_appendPlace_16 : decode cX11_appendPlace 16 = .ok (.goto 35, 3) := by decide +kernel
theorem dX11_appendPlace_19 : decode cX11_appendPlace 19 = .ok (.iload_n 1, 1) := by decide +kernel
theorem dX11_appendPlace_20 : decode cX11_appendPlace 20 = .ok (.iconst (-1), 1) := by decide +kernel
theorem dX11_appendPlace_21 : decode cX11_appendPlace 21 = .ok (.if_icmp .ne 16, 3) := by decide +kernel
theorem dX11_appendPlace_24 : decode cX11_appendPlace 24 = .ok (.aload_n 0, 1) := by decide +kernel
theorem dX11_appendPlace_25 : decode cX11_appendPlace 25 = .ok (.getfield 60, 3) := by decide +kernel
theorem dX11_appendPlace_28 : decode cX11_appendPlace 28 = .ok (.bipush 104, 2) := by decide +kernel
theorem dX11_appendPlace_30 : decode cX11_appendPlace 30 = .ok (.invokevirtual 282, 3) := by decide +kernel
theorem dX11_appendPlace_33 : decode cX11_appendPlace 33 = .ok (.pop, 1) := by decide +kernel
theorem dX11_appendPlace_34 : decode cX11_appendPlace 34 = .ok (.goto 17, 3) := by decide +kernel
theorem dX11_appendPlace_37 : decode cX11_appendPlace 37 = .ok (.aload_n 0, 1) := by decide +kernel
theorem dX11_appendPlace_38 : decode cX11_appendPlace 38 = .ok (.getfield 60, 3) := by decide +kernel
theorem dX11_appendPlace_41 : decode cX11_appendPlace 41 = .ok (.bipush 64, 2) := by decide +kernel
theorem dX11_appendPlace_43 : decode cX11_appendPlace 43 = .ok (.invokevirtual 282, 3) := by decide +kernel
theorem dX11_appendPlace_46 : decode cX11_appendPlace 46 = .ok (.iload_n 1, 1) := by decide +kernel
theorem dX11_appendPlace_47 : decode cX11_appendPlace 47 = .ok (.invokevirtual 279, 3) := by decide +kernel
theorem dX11_appendPlace_50 : decode cX11_appendPlace 50 = .ok (.pop, 1) := by decide +kernel
theorem dX11_appendPlace_51 : decode cX11_appendPlace 51 = .ok (.return_, 1) := by decide +kernel
theorem dX11_appendParent_0 : decode cX11_appendParent 0 = .ok (.iload_n 1, 1) := by decide +kernel
theorem dX11_appendParent_1 : decode cX11_appendParent 1 = .ok (.iconst (-1), 1) := by decide +kernel
theorem dX11_appendParent_2 : decode cX11_appendParent 2 = .ok (.if_icmp .eq 17, 3) := by decide +kernel
theorem dX11_appendParent_5 : decode cX11_appendParent 5 = .ok (.aload_n 0, 1) := by decide +kernel
theorem dX11_appendParent_6 : decode cX11_appendParent 6 = .ok (.getfield 60, 3) := by decide +kernel
theorem dX11_appendParent_9 : decode cX11_appendParent 9 = .ok (.bipush 60, 2) := by decide +kernel
theorem dX11_appendParent_11 : decode cX11_appendParent 11 = .ok (.invokevirtual 282, 3) := by decide +kernel
theorem dX11_appendParent_14 : decode cX11_appendParent 14 = .ok (.iload_n 1, 1) := by decide +kernel
theorem dX11_appendParent_15 : decode cX11_appendParent 15 = .ok (.invokevirtual 279, 3) := by decide +kernel
theorem dX11_appendParent_18 : decode cX11_appendParent 18 = .ok (.pop, 1) := by decide +kernel
theorem dX11_appendParent_19 : decode cX11_appendParent 19 = .ok (.return_, 1) := by decide +kernel
theorem dX11_requireShelf_0 : decode cX11_requireShelf 0 = .ok (.aload_n 0, 1) := by decide +kernel
theorem dX11_requireShelf_1 : decode cX11_requireShelf 1 = .ok (.getfield 10, 3) := by decide +kernel
theorem dX11_requireShelf_4 : decode cX11_requireShelf 4 = .ok (.getfield 82, 3) := by decide +kernel
theorem dX11_requireShelf_7 : decode cX11_requireShelf 7 = .ok (.iload_n 1, 1) := by decide +kernel
theorem dX11_requireShelf_8 : decode cX11_requireShelf 8 = .ok (.invokevirtual 364, 3) := by decide +kernel
theorem dX11_requireShelf_11 : decode cX11_requireShelf 11 = .ok (.ifCond .ne 14, 3) := by decide +kernel
theorem dX11_requireShelf_14 : decode cX11_requireShelf 14 = .ok (.new 303, 3) := by decide +kernel
theorem dX11_requireShelf_17 : decode cX11_requireShelf 17 = .ok (.dup, 1) := by decide +kernel
theorem dX11_requireShelf_18 : decode cX11_requireShelf 18 = .ok (.ldc_w 340, 3) := by decide +kernel
theorem dX11_requireShelf_21 : decode cX11_requireShelf 21 = .ok (.invokespecial 307, 3) := by decide +kernel
theorem dX11_requireShelf_24 : decode cX11_requireShelf 24 = .ok (.athrow, 1) := by decide +kernel
theorem dX11_requireShelf_25 : decode cX11_requireShelf 25 = .ok (.return_, 1) := by decide +kernel
theorem dX11_requireLot_0 : decode cX11_requireLot 0 = .ok (.aload_n 0, 1) := by decide +kernel
theorem dX11_requireLot_1 : decode cX11_requireLot 1 = .ok (.getfield 10, 3) := by decide +kernel
theorem dX11_requireLot_4 : decode cX11_requireLot 4 = .ok (.getfield 109, 3) := by decide +kernel
theorem dX11_requireLot_7 : decode cX11_requireLot 7 = .ok (.iload_n 1, 1) := by decide +kernel
theorem dX11_requireLot_8 : decode cX11_requireLot 8 = .ok (.invokevirtual 367, 3) := by decide +kernel
theorem dX11_requireLot_11 : decode cX11_requireLot 11 = .ok (.ifCond .ne 14, 3) := by decide +kernel
theorem dX11_requireLot_14 : decode cX11_requireLot 14 = .ok (.new 335, 3) := by decide +kernel
theorem dX11_requireLot_17 : decode cX11_requireLot 17 = .ok (.dup, 1) := by decide +kernel
theorem dX11_requireLot_18 : decode cX11_requireLot 18 = .ok (.ldc_w 337, 3) := by decide +kernel
theorem dX11_requireLot_21 : decode cX11_requireLot 21 = .ok (.invokespecial 339, 3) := by decide +kernel
theorem dX11_requireLot_24 : decode cX11_requireLot 24 = .ok (.athrow, 1) := by decide +kernel
theorem dX11_requireLot_25 : decode cX11_requireLot 25 = .ok (.return_, 1) := by decide +kernel
theorem dX11_requireRange_0 : decode cX11_requireRange 0 = .ok (.iload_n 0, 1) := by decide +kernel
theorem dX11_requireRange_1 : decode cX11_requireRange 1 = .ok (.iload_n 1, 1) := by decide +kernel
theorem dX11_requireRange_2 : decode cX11_requireRange 2 = .ok (.if_icmp .lt 8, 3) := by decide +kernel
theorem dX11_requireRange_5 : decode cX11_requireRange 5 = .ok (.iload_n 0, 1) := by decide +kernel
theorem dX11_requireRange_6 : decode cX11_requireRange 6 = .ok (.iload_n 2, 1) := by decide +kernel
theorem dX11_requireRange_7 : decode cX11_requireRange 7 = .ok (.if_icmp .le 14, 3) := by decide +kernel
theorem dX11_requireRange_10 : decode cX11_requireRange 10 = .ok (.new 253, 3) := by decide +kernel
theorem dX11_requireRange_13 : decode cX11_requireRange 13 = .ok (.dup, 1) := by decide +kernel
theorem dX11_requireRange_14 : decode cX11_requireRange 14 = .ok (.ldc_w 342, 3) := by decide +kernel
theorem dX11_requireRange_17 : decode cX11_requireRange 17 = .ok (.invokespecial 257, 3) := by decide +kernel
theorem dX11_requireRange_20 : decode cX11_requireRange 20 = .ok (.athrow, 1) := by decide +kernel
theorem dX11_requireRange_21 : decode cX11_requireRange 21 = .ok (.return_, 1) := by decide +kernel
theorem dX11_requireFound_0 : decode cX11_requireFound 0 = .ok (.iload_n 0, 1) := by decide +kernel
theorem dX11_requireFound_1 : decode cX11_requireFound 1 = .ok (.ifCond .ge 14, 3) := by decide +kernel
theorem dX11_requireFound_4 : decode cX11_requireFound 4 = .ok (.new 335, 3) := by decide +kernel
theorem dX11_requireFound_7 : decode cX11_requireFound 7 = .ok (.dup, 1) := by decide +kernel
theorem dX11_requireFound_8 : decode cX11_requireFound 8 = .ok (.ldc_w 368, 3) := by decide +kernel
theorem dX11_requireFound_11 : decode cX11_requireFound 11 = .ok (.invokespecial 339, 3) := by decide +kernel
theorem dX11_requireFound_14 : decode cX11_requireFound 14 = .ok (.athrow, 1) := by decide +kernel
theorem dX11_requireFound_15 : decode cX11_requireFound 15 = .ok (.iload_n 0, 1) := by decide +kernel
theorem dX11_requireFound_16 : decode cX11_requireFound 16 = .ok (.ireturn, 1) := by decide +kernel
