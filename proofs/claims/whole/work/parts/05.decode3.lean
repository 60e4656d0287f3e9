theorem dX12_changes_130 : decode cX12_changes 130 = .ok (.iastore, 1) := by decide +kernel
theorem dX12_changes_131 : decode cX12_changes 131 = .ok (.aload_n 0, 1) := by decide +kernel
theorem dX12_changes_132 : decode cX12_changes 132 = .ok (.getfield 41, 3) := by decide +kernel
theorem dX12_changes_135 : decode cX12_changes 135 = .ok (.aload_n 0, 1) := by decide +kernel
theorem dX12_changes_136 : decode cX12_changes 136 = .ok (.getfield 155, 3) := by decide +kernel
theorem dX12_changes_139 : decode cX12_changes 139 = .ok (.iload_n 2, 1) := by decide +kernel
theorem dX12_changes_140 : decode cX12_changes 140 = .ok (.iastore, 1) := by decide +kernel
theorem dX12_changes_141 : decode cX12_changes 141 = .ok (.aload_n 0, 1) := by decide +kernel
theorem dX12_changes_142 : decode cX12_changes 142 = .ok (.getfield 44, 3) := by decide +kernel
theorem dX12_changes_145 : decode cX12_changes 145 = .ok (.aload_n 0, 1) := by decide +kernel
theorem dX12_changes_146 : decode cX12_changes 146 = .ok (.getfield 155, 3) := by decide +kernel
theorem dX12_changes_149 : decode cX12_changes 149 = .ok (.iload 4, 2) := by decide +kernel
theorem dX12_changes_151 : decode cX12_changes 151 = .ok (.iastore, 1) := by decide +kernel
theorem dX12_changes_152 : decode cX12_changes 152 = .ok (.aload_n 0, 1) := by decide +kernel
theorem dX12_changes_153 : decode cX12_changes 153 = .ok (.getfield 47, 3) := by decide +kernel
theorem dX12_changes_156 : decode cX12_changes 156 = .ok (.aload_n 0, 1) := by decide +kernel
theorem dX12_changes_157 : decode cX12_changes 157 = .ok (.getfield 155, 3) := by decide +kernel
theorem dX12_changes_160 : decode cX12_changes 160 = .ok (.iload_n 3, 1) := by decide +kernel
theorem dX12_changes_161 : decode cX12_changes 161 = .ok (.iastore, 1) := by decide +kernel
theorem dX12_changes_162 : decode cX12_changes 162 = .ok (.aload_n 0, 1) := by decide +kernel
theorem dX12_changes_163 : decode cX12_changes 163 = .ok (.dup, 1) := by decide +kernel
theorem dX12_changes_164 : decode cX12_changes 164 = .ok (.getfield 155, 3) := by decide +kernel
theorem dX12_changes_167 : decode cX12_changes 167 = .ok (.iconst 1, 1) := by decide +kernel
theorem dX12_changes_168 : decode cX12_changes 168 = .ok (.iadd, 1) := by decide +kernel
theorem dX12_changes_169 : decode cX12_changes 169 = .ok (.putfield 155, 3) := by decide +kernel
theorem dX12_changes_172 : decode cX12_changes 172 = .ok (.aload_n 0, 1) := by decide +kernel
theorem dX12_changes_173 : decode cX12_changes 173 = .ok (.iload_n 1, 1) := by decide +kernel
theorem dX12_changes_174 : decode cX12_changes 174 = .ok (.iload_n 2, 1) := by decide +kernel
theorem dX12_changes_175 : decode cX12_changes 175 = .ok (.iload_n 3, 1) := by decide +kernel
theorem dX12_changes_176 : decode cX12_changes 176 = .ok (.invokevirtual 158, 3) := by decide +kernel
theorem dX12_changes_179 : decode cX12_changes 179 = .ok (.iload 4, 2) := by decide +kernel
theorem dX12_changes_181 : decode cX12_changes 181 = .ok (.ireturn, 1) := by decide +kernel
theorem dX12_undo_0 : decode cX12_undo 0 = .ok (.aload_n 0, 1) := by decide +kernel
theorem dX12_undo_1 : decode cX12_undo 1 = .ok (.getfield 155, 3) := by decide +kernel
theorem dX12_undo_4 : decode cX12_undo 4 = .ok (.ifCond .ne 6, 3) := by decide +kernel
theorem dX12_undo_7 : decode cX12_undo 7 = .ok (.bipush (-5), 2) := by decide +kernel
theorem dX12_undo_9 : decode cX12_undo 9 = .ok (.ireturn, 1) := by decide +kernel
theorem dX12_undo_10 : decode cX12_undo 10 = .ok (.aload_n 0, 1) := by decide +kernel
theorem dX12_undo_11 : decode cX12_undo 11 = .ok (.dup, 1) := by decide +kernel
theorem dX12_undo_12 : decode cX12_undo 12 = .ok (.getfield 155, 3) := by decide +kernel
theorem dX12_undo_15 : decode cX12_undo 15 = .ok (.iconst 1, 1) := by decide +kernel
theorem dX12_undo_16 : decode cX12_undo 16 = .ok (.isub, 1) := by decide +kernel
theorem dX12_undo_17 : decode cX12_undo 17 = .ok (.putfield 155, 3) := by decide +kernel
theorem dX12_undo_20 : decode cX12_undo 20 = .ok (.aload_n 0, 1) := by decide +kernel
theorem dX12_undo_21 : decode cX12_undo 21 = .ok (.dup, 1) := by decide +kernel
theorem dX12_undo_22 : decode cX12_undo 22 = .ok (.getfield 152, 3) := by decide +kernel
theorem dX12_undo_25 : decode cX12_undo 25 = .ok (.iconst 1, 1) := by decide +kernel
theorem dX12_undo_26 : decode cX12_undo 26 = .ok (.iadd, 1) := by decide +kernel
theorem dX12_undo_27 : decode cX12_undo 27 = .ok (.putfield 152, 3) := by decide +kernel
theorem dX12_undo_30 : decode cX12_undo 30 = .ok (.aload_n 0, 1) := by decide +kernel
theorem dX12_undo_31 : decode cX12_undo 31 = .ok (.aload_n 0, 1) := by decide +kernel
theorem dX12_undo_32 : decode cX12_undo 32 = .ok (.getfield 38, 3) := by decide +kernel
theorem dX12_undo_35 : decode cX12_undo 35 = .ok (.aload_n 0, 1) := by decide +kernel
theorem dX12_undo_36 : decode cX12_undo 36 = .ok (.getfield 155, 3) := by decide +kernel
theorem dX12_undo_39 : decode cX12_undo 39 = .ok (.iaload, 1) := by decide +kernel
theorem dX12_undo_40 : decode cX12_undo 40 = .ok (.aload_n 0, 1) := by decide +kernel
theorem dX12_undo_41 : decode cX12_undo 41 = .ok (.getfield 41, 3) := by decide +kernel
theorem dX12_undo_44 : decode cX12_undo 44 = .ok (.aload_n 0, 1) := by decide +kernel
theorem dX12_undo_45 : decode cX12_undo 45 = .ok (.getfield 155, 3) := by decide +kernel
theorem dX12_undo_48 : decode cX12_undo 48 = .ok (.iaload, 1) := by decide +kernel
theorem dX12_undo_49 : decode cX12_undo 49 = .ok (.aload_n 0, 1) := by decide +kernel
theorem dX12_undo_50 : decode cX12_undo 50 = .ok (.getfield 44, 3) := by decide +kernel
theorem dX12_undo_53 : decode cX12_undo 53 = .ok (.aload_n 0, 1) := by decide +kernel
theorem dX12_undo_54 : decode cX12_undo 54 = .ok (.getfield 155, 3) := by decide +kernel
theorem dX12_undo_57 : decode cX12_undo 57 = .ok (.iaload, 1) := by decide +kernel
theorem dX12_undo_58 : decode cX12_undo 58 = .ok (.invokevirtual 158, 3) := by decide +kernel
theorem dX12_undo_61 : decode cX12_undo 61 = .ok (.aload_n 0, 1) := by decide +kernel
theorem dX12_undo_62 : decode cX12_undo 62 = .ok (.getfield 155, 3) := by decide +kernel
theorem dX12_undo_65 : decode cX12_undo 65 = .ok (.ireturn, 1) := by decide +kernel
theorem dX12_redo_0 : decode cX12_redo 0 = .ok (.aload_n 0, 1) := by decide +kernel
theorem dX12_redo_1 : decode cX12_redo 1 = .ok (.getfield 152, 3) := by decide +kernel
theorem dX12_redo_4 : decode cX12_redo 4 = .ok (.ifCond .ne 6, 3) := by decide +kernel
theorem dX12_redo_7 : decode cX12_redo 7 = .ok (.bipush (-5), 2) := by decide +kernel
theorem dX12_redo_9 : decode cX12_redo 9 = .ok (.ireturn, 1) := by decide +kernel
theorem dX12_redo_10 : decode cX12_redo 10 = .ok (.aload_n 0, 1) := by decide +kernel
theorem dX12_redo_11 : decode cX12_redo 11 = .ok (.aload_n 0, 1) := by decide +kernel
theorem dX12_redo_12 : decode cX12_redo 12 = .ok (.getfield 38, 3) := by decide +kernel
theorem dX12_redo_15 : decode cX12_redo 15 = .ok (.aload_n 0, 1) := by decide +kernel
theorem dX12_redo_16 : decode cX12_redo 16 = .ok (.getfield 155, 3) := by decide +kernel
theorem dX12_redo_19 : decode cX12_redo 19 = .ok (.iaload, 1) := by decide +kernel
theorem dX12_redo_20 : decode cX12_redo 20 = .ok (.aload_n 0, 1) := by decide +kernel
theorem dX12_redo_21 : decode cX12_redo 21 = .ok (.getfield 41, 3) := by decide +kernel
theorem dX12_redo_24 : decode cX12_redo 24 = .ok (.aload_n 0, 1) := by decide +kernel
theorem dX12_redo_25 : decode cX12_redo 25 = .ok (.getfield 155, 3) := by decide +kernel
theorem dX12_redo_28 : decode cX12_redo 28 = .ok (.iaload, 1) := by decide +kernel
theorem dX12_redo_29 : decode cX12_redo 29 = .ok (.aload_n 0, 1) := by decide +kernel
theorem dX12_redo_30 : decode cX12_redo 30 = .ok (.getfield 47, 3) := by decide +kernel
theorem dX12_redo_33 : decode cX12_redo 33 = .ok (.aload_n 0, 1) := by decide +kernel
theorem dX12_redo_34 : decode cX12_redo 34 = .ok (.getfield 155, 3) := by decide +kernel
theorem dX12_redo_37 : decode cX12_redo 37 = .ok (.iaload, 1) := by decide +kernel
theorem dX12_redo_38 : decode cX12_redo 38 = .ok (.invokevirtual 158, 3) := by decide +kernel
theorem dX12_redo_41 : decode cX12_redo 41 = .ok (.aload_n 0, 1) := by decide +kernel
theorem dX12_redo_42 : decode cX12_redo 42 = .ok (.dup, 1) := by decide +kernel
theorem dX12_redo_43 : decode cX12_redo 43 = .ok (.getfield 155, 3) := by decide +kernel
theorem dX12_redo_46 : decode cX12_redo 46 = .ok (.iconst 1, 1) := by decide +kernel
theorem dX12_redo_47 : decode cX12_redo 47 = .ok (.iadd, 1) := by decide +kernel
theorem dX12_redo_48 : decode cX12_redo 48 = .ok (.putfield 155, 3) := by decide +kernel
theorem dX12_redo_51 : decode cX12_redo 51 = .ok (.aload_n 0, 1) := by decide +kernel
theorem dX12_redo_52 : decode cX12_redo 52 = .ok (.dup, 1) := by decide +kernel
theorem dX12_redo_53 : decode cX12_redo 53 = .ok (.getfield 152, 3) := by decide +kernel
theorem dX12_redo_56 : decode cX12_redo 56 = .ok (.iconst 1, 1) := by decide +kernel
theorem dX12_redo_57 : decode cX12_redo 57 = .ok (.isub, 1) := by decide +kernel
theorem dX12_redo_58 : decode cX12_redo 58 = .ok (.putfield 152, 3) := by decide +kernel
theorem dX12_redo_61 : decode cX12_redo 61 = .ok (.aload_n 0, 1) := by decide +kernel
theorem dX12_redo_62 : decode cX12_redo 62 = .ok (.getfield 152, 3) := by decide +kernel
theorem dX12_redo_65 : decode cX12_redo 65 = .ok (.ireturn, 1) := by decide +kernel
theorem dX12_isOne_0 : decode cX12_isOne 0 = .ok (.iload_n 2, 1) := by decide +kernel
theorem dX12_isOne_1 : decode cX12_isOne 1 = .ok (.iconst 0, 1) := by decide +kernel
theorem dX12_isOne_2 : decode cX12_isOne 2 = .ok (.iconst 5, 1) := by decide +kernel
theorem dX12_isOne_3 : decode cX12_isOne 3 = .ok (.invokestatic 128, 3) := by decide +kernel
theorem dX12_isOne_6 : decode cX12_isOne 6 = .ok (.ifCond .eq 9, 3) := by decide +kernel
theorem dX12_isOne_9 : decode cX12_isOne 9 = .ok (.aload_n 0, 1) := by decide +kernel
theorem dX12_isOne_10 : decode cX12_isOne 10 = .ok (.iload_n 1, 1) := by decide +kernel
theorem dX12_isOne_11 : decode cX12_isOne 11 = .ok (.invokevirtual 162, 3) := by decide +kernel
theorem dX12_isOne_14 : decode cX12_isOne 14 = .ok (.ireturn, 1) := by decide +kernel
theorem dX12_isOne_15 : decode cX12_isOne 15 = .ok (.iload_n 2, 1) := by decide +kernel
theorem dX12_isOne_16 : decode cX12_isOne 16 = .ok (.bipush 6, 2) := by decide +kernel
theorem dX12_isOne_18 : decode cX12_isOne 18 = .ok (.if_icmp .ne 8, 3) := by decide +kernel
theorem dX12_isOne_21 : decode cX12_isOne 21 = .ok (.iload_n 1, 1) := by decide +kernel
theorem dX12_isOne_22 : decode cX12_isOne 22 = .ok (.invokestatic 165, 3) := by decide +kernel
theorem dX12_isOne_25 : decode cX12_isOne 25 = .ok (.ireturn, 1) := by decide +kernel
theorem dX12_isOne_26 : decode cX12_isOne 26 = .ok (.iload_n 2, 1) := by decide +kernel
theorem dX12_isOne_27 : decode cX12_isOne 27 = .ok (.bipush 7, 2) := by decide +kernel
theorem dX12_isOne_29 : decode cX12_isOne 29 = .ok (.bipush 10, 2) := by decide +kernel
theorem dX12_isOne_31 : decode cX12_isOne 31 = .ok (.invokestatic 128, 3) := by decide +kernel
theorem dX12_isOne_34 : decode cX12_isOne 34 = .ok (.ifCond .eq 11, 3) := by decide +kernel
theorem dX12_isOne_37 : decode cX12_isOne 37 = .ok (.iload_n 1, 1) := by decide +kernel
theorem dX12_isOne_38 : decode cX12_isOne 38 = .ok (.ifCond .ne 7, 3) := by decide +kernel
theorem dX12_isOne_41 : decode cX12_isOne 41 = .ok (.iconst 1, 1) := by decide +kernel
theorem dX12_isOne_42 : decode cX12_isOne 42 = .ok (.goto 4, 3) := by decide +kernel
theorem dX12_isOne_45 : decode cX12_isOne 45 = .ok (.iconst 0, 1) := by decide +kernel
theorem dX12_isOne_46 : decode cX12_isOne 46 = .ok (.ireturn, 1) := by decide +kernel
theorem dX12_mayBe_0 : decode cX12_mayBe 0 = .ok (.iload_n 2, 1) := by decide +kernel
theorem dX12_mayBe_1 : decode cX12_mayBe 1 = .ok (.tableswitch 149 0 9 #[55, 63, 70, 78, 85, 110, 117, 125, 132, 140], 55) := by decide +kernel
theorem dX12_mayBe_56 : decode cX12_mayBe 56 = .ok (.iload_n 3, 1) := by decide +kernel
theorem dX12_mayBe_57 : decode cX12_mayBe 57 = .ok (.iconst 1, 1) := by decide +kernel
theorem dX12_mayBe_58 : decode cX12_mayBe 58 = .ok (.bipush 9, 2) := by decide +kernel
theorem dX12_mayBe_60 : decode cX12_mayBe 60 = .ok (.invokestatic 128, 3) := by decide +kernel
theorem dX12_mayBe_63 : decode cX12_mayBe 63 = .ok (.ireturn, 1) := by decide +kernel
theorem dX12_mayBe_64 : decode cX12_mayBe 64 = .ok (.iload_n 3, 1) := by decide +kernel
theorem dX12_mayBe_65 : decode cX12_mayBe 65 = .ok (.iconst 0, 1) := by decide +kernel
theorem dX12_mayBe_66 : decode cX12_mayBe 66 = .ok (.iconst 3, 1) := by decide +kernel
theorem dX12_mayBe_67 : decode cX12_mayBe 67 = .ok (.invokestatic 128, 3) := by decide +kernel
theorem dX12_mayBe_70 : decode cX12_mayBe 70 = .ok (.ireturn, 1) := by decide +kernel
theorem dX12_mayBe_71 : decode cX12_mayBe 71 = .ok (.iload_n 3, 1) := by decide +kernel
theorem dX12_mayBe_72 : decode cX12_mayBe 72 = .ok (.iconst 0, 1) := by decide +kernel
theorem dX12_mayBe_73 : decode cX12_mayBe 73 = .ok (.bipush 9, 2) := by decide +kernel
theorem dX12_mayBe_75 : decode cX12_mayBe 75 = .ok (.invokestatic 128, 3) := by decide +kernel
theorem dX12_mayBe_78 : decode cX12_mayBe 78 = .ok (.ireturn, 1) := by decide +kernel
theorem dX12_mayBe_79 : decode cX12_mayBe 79 = .ok (.iload_n 3, 1) := by decide +kernel
theorem dX12_mayBe_80 : decode cX12_mayBe 80 = .ok (.iconst 0, 1) := by decide +kernel
theorem dX12_mayBe_81 : decode cX12_mayBe 81 = .ok (.iconst 3, 1) := by decide +kernel
theorem dX12_mayBe_82 : decode cX12_mayBe 82 = .ok (.invokestatic 128, 3) := by decide +kernel
theorem dX12_mayBe_85 : decode cX12_mayBe 85 = .ok (.ireturn, 1) := by decide +kernel
theorem dX12_mayBe_86 : decode cX12_mayBe 86 = .ok (.iload_n 3, 1) := by decide +kernel
theorem dX12_mayBe_87 : decode cX12_mayBe 87 = .ok (.bipush 9, 2) := by decide +kernel
theorem dX12_mayBe_89 : decode cX12_mayBe 89 = .ok (.if_icmp .eq 16, 3) := by decide +kernel
theorem dX12_mayBe_92 : decode cX12_mayBe 92 = .ok (.aload_n 0, 1) := by decide +kernel
theorem dX12_mayBe_93 : decode cX12_mayBe 93 = .ok (.iload_n 3, 1) := by decide +kernel
theorem dX12_mayBe_94 : decode cX12_mayBe 94 = .ok (.invokevirtual 162, 3) := by decide +kernel
theorem dX12_mayBe_97 : decode cX12_mayBe 97 = .ok (.ifCond .eq 12, 3) := by decide +kernel
theorem dX12_mayBe_100 : decode cX12_mayBe 100 = .ok (.iload_n 3, 1) := by decide +kernel
theorem dX12_mayBe_101 : decode cX12_mayBe 101 = .ok (.iload_n 1, 1) := by decide +kernel
theorem dX12_mayBe_102 : decode cX12_mayBe 102 = .ok (.if_icmp .eq 7, 3) := by decide +kernel
theorem dX12_mayBe_105 : decode cX12_mayBe 105 = .ok (.iconst 1, 1) := by decide +kernel
theorem dX12_mayBe_106 : decode cX12_mayBe 106 = .ok (.goto 4, 3) := by decide +kernel
theorem dX12_mayBe_109 : decode cX12_mayBe 109 = .ok (.iconst 0, 1) := by decide +kernel
theorem dX12_mayBe_110 : decode cX12_mayBe 110 = .ok (.ireturn, 1) := by decide +kernel
theorem dX12_mayBe_111 : decode cX12_mayBe 111 = .ok (.iload_n 3, 1) := by decide +kernel
theorem dX12_mayBe_112 : decode cX12_mayBe 112 = .ok (.iconst 0, 1) := by decide +kernel
theorem dX12_mayBe_113 : decode cX12_mayBe 113 = .ok (.iconst 3, 1) := by decide +kernel
theorem dX12_mayBe_114 : decode cX12_mayBe 114 = .ok (.invokestatic 128, 3) := by decide +kernel
theorem dX12_mayBe_117 : decode cX12_mayBe 117 = .ok (.ireturn, 1) := by decide +kernel
theorem dX12_mayBe_118 : decode cX12_mayBe 118 = .ok (.iload_n 3, 1) := by decide +kernel
theorem dX12_mayBe_119 : decode cX12_mayBe 119 = .ok (.iconst 1, 1) := by decide +kernel
theorem dX12_mayBe_120 : decode cX12_mayBe 120 = .ok (.bipush 9, 2) := by decide +kernel
theorem dX12_mayBe_122 : decode cX12_mayBe 122 = .ok (.invokestatic 128, 3) := by decide +kernel
theorem dX12_mayBe_125 : decode cX12_mayBe 125 = .ok (.ireturn, 1) := by decide +kernel
theorem dX12_mayBe_126 : decode cX12_mayBe 126 = .ok (.iload_n 3, 1) := by decide +kernel
theorem dX12_mayBe_127 : decode cX12_mayBe 127 = .ok (.iconst 0, 1) := by decide +kernel
theorem dX12_mayBe_128 : decode cX12_mayBe 128 = .ok (.iconst 3, 1) := by decide +kernel
theorem dX12_mayBe_129 : decode cX12_mayBe 129 = .ok (.invokestatic 128, 3) := by decide +kernel
theorem dX12_mayBe_132 : decode cX12_mayBe 132 = .ok (.ireturn, 1) := by decide +kernel
theorem dX12_mayBe_133 : decode cX12_mayBe 133 = .ok (.iload_n 3, 1) := by decide +kernel
theorem dX12_mayBe_134 : decode cX12_mayBe 134 = .ok (.iconst 1, 1) := by decide +kernel
theorem dX12_mayBe_135 : decode cX12_mayBe 135 = .ok (.bipush 30, 2) := by decide +kernel
theorem dX12_mayBe_137 : decode cX12_mayBe 137 = .ok (.invokestatic 128, 3) := by decide +kernel
theorem dX12_mayBe_140 : decode cX12_mayBe 140 = .ok (.ireturn, 1) := by decide +kernel
theorem dX12_mayBe_141 : decode cX12_mayBe 141 = .ok (.iload_n 3, 1) := by decide +kernel
theorem dX12_mayBe_142 : decode cX12_mayBe 142 = .ok (.iconst 0, 1) := by decide +kernel
theorem dX12_mayBe_143 : decode cX12_mayBe 143 = .ok (.sipush 200, 3) := by decide +kernel
theorem dX12_mayBe_146 : decode cX12_mayBe 146 = .ok (.invokestatic 128, 3) := by decide +kernel
theorem dX12_mayBe_149 : decode cX12_mayBe 149 = .ok (.ireturn, 1) := by decide +kernel
theorem dX12_mayBe_150 : decode cX12_mayBe 150 = .ok (.iload_n 3, 1) := by decide +kernel
theorem dX12_mayBe_151 : decode cX12_mayBe 151 = .ok (.iconst 0, 1) := by decide +kernel
theorem dX12_mayBe_152 : decode cX12_mayBe 152 = .ok (.bipush 12, 2) := by decide +kernel
theorem dX12_mayBe_154 : decode cX12_mayBe 154 = .ok (.invokestatic 128, 3) := by decide +kernel
theorem dX12_mayBe_157 : decode cX12_mayBe 157 = .ok (.ireturn, 1) := by decide +kernel
theorem dX12_mend_0 : decode cX12_mend 0 = .ok (.aload_n 0, 1) := by decide +kernel
theorem dX12_mend_1 : decode cX12_mend 1 = .ok (.iload_n 1, 1) := by decide +kernel
theorem dX12_mend_2 : decode cX12_mend 2 = .ok (.iload_n 2, 1) := by decide +kernel
theorem dX12_mend_3 : decode cX12_mend 3 = .ok (.invokevirtual 168, 3) := by decide +kernel
theorem dX12_mend_6 : decode cX12_mend 6 = .ok (.ifCond .eq 23, 3) := by decide +kernel
theorem dX12_mend_9 : decode cX12_mend 9 = .ok (.aload_n 0, 1) := by decide +kernel
theorem dX12_mend_10 : decode cX12_mend 10 = .ok (.iload_n 1, 1) := by decide +kernel
theorem dX12_mend_11 : decode cX12_mend 11 = .ok (.iload_n 2, 1) := by decide +kernel
theorem dX12_mend_12 : decode cX12_mend 12 = .ok (.iload_n 3, 1) := by decide +kernel
theorem dX12_mend_13 : decode cX12_mend 13 = .ok (.invokevirtual 172, 3) := by decide +kernel
theorem dX12_mend_16 : decode cX12_mend 16 = .ok (.ifCond .eq 13, 3) := by decide +kernel
theorem dX12_mend_19 : decode cX12_mend 19 = .ok (.aload_n 0, 1) := by decide +kernel
theorem dX12_mend_20 : decode cX12_mend 20 = .ok (.iload_n 2, 1) := by decide +kernel
theorem dX12_mend_21 : decode cX12_mend 21 = .ok (.iload_n 1, 1) := by decide +kernel
theorem dX12_mend_22 : decode cX12_mend 22 = .ok (.iload_n 3, 1) := by decide +kernel
theorem dX12_mend_23 : decode cX12_mend 23 = .ok (.invokevirtual 175, 3) := by decide +kernel
theorem dX12_mend_26 : decode cX12_mend 26 = .ok (.goto 4, 3) := by decide +kernel
theorem dX12_mend_29 : decode cX12_mend 29 = .ok (.iconst (-1), 1) := by decide +kernel
theorem dX12_mend_30 : decode cX12_mend 30 = .ok (.ireturn, 1) := by decide +kernel
theorem dX12_of_0 : decode cX12_of 0 = .ok (.aload_n 0, 1) := by decide +kernel
theorem dX12_of_1 : decode cX12_of 1 = .ok (.iload_n 1, 1) := by decide +kernel
theorem dX12_of_2 : decode cX12_of 2 = .ok (.iload_n 2, 1) := by decide +kernel
theorem dX12_of_3 : decode cX12_of 3 = .ok (.invokevirtual 168, 3) := by decide +kernel
theorem dX12_of_6 : decode cX12_of 6 = .ok (.ifCond .eq 12, 3) := by decide +kernel
theorem dX12_of_9 : decode cX12_of 9 = .ok (.aload_n 0, 1) := by decide +kernel
theorem dX12_of_10 : decode cX12_of 10 = .ok (.iload_n 2, 1) := by decide +kernel
theorem dX12_of_11 : decode cX12_of 11 = .ok (.iload_n 1, 1) := by decide +kernel
theorem dX12_of_12 : decode cX12_of 12 = .ok (.invokevirtual 148, 3) := by decide +kernel
theorem dX12_of_15 : decode cX12_of 15 = .ok (.goto 4, 3) := by decide +kernel
theorem dX12_of_18 : decode cX12_of 18 = .ok (.iconst (-1), 1) := by decide +kernel
theorem dX12_of_19 : decode cX12_of 19 = .ok (.ireturn, 1) := by decide +kernel
theorem dX12_feed_0 : decode cX12_feed 0 = .ok (.iload_n 1, 1) := by decide +kernel
theorem dX12_feed_1 : decode cX12_feed 1 = .ok (.iconst 0, 1) := by decide +kernel
theorem dX12_feed_2 : decode cX12_feed 2 = .ok (.sipush 255, 3) := by decide +kernel
theorem dX12_feed_5 : decode cX12_feed 5 = .ok (.invokestatic 128, 3) := by decide +kernel
theorem dX12_feed_8 : decode cX12_feed 8 = .ok (.ifCond .ne 5, 3) := by decide +kernel
theorem dX12_feed_11 : decode cX12_feed 11 = .ok (.iconst (-1), 1) := by decide +kernel
theorem dX12_feed_12 : decode cX12_feed 12 = .ok (.ireturn, 1) := by decide +kernel
theorem dX12_feed_13 : decode cX12_feed 13 = .ok (.aload_n 0, 1) := by decide +kernel
theorem dX12_feed_14 : decode cX12_feed 14 = .ok (.getfield 178, 3) := by decide +kernel
theorem dX12_feed_17 : decode cX12_feed 17 = .ok (.bipush 120, 2) := by decide +kernel
theorem dX12_feed_19 : decode cX12_feed 19 = .ok (.if_icmp .ne 6, 3) := by decide +kernel
theorem dX12_feed_22 : decode cX12_feed 22 = .ok (.bipush (-3), 2) := by decide +kernel
theorem dX12_feed_24 : decode cX12_feed 24 = .ok (.ireturn, 1) := by decide +kernel
theorem dX12_feed_25 : decode cX12_feed 25 = .ok (.aload_n 0, 1) := by decide +kernel
theorem dX12_feed_26 : decode cX12_feed 26 = .ok (.getfield 50, 3) := by decide +kernel
theorem dX12_feed_29 : decode cX12_feed 29 = .ok (.aload_n 0, 1) := by decide +kernel
theorem dX12_feed_30 : decode cX12_feed 30 = .ok (.getfield 178, 3) := by decide +kernel
theorem dX12_feed_33 : decode cX12_feed 33 = .ok (.iload_n 1, 1) := by decide +kernel
theorem dX12_feed_34 : decode cX12_feed 34 = .ok (.i2b, 1) := by decide +kernel
theorem dX12_feed_35 : decode cX12_feed 35 = .ok (.bastore, 1) := by decide +kernel
theorem dX12_feed_36 : decode cX12_feed 36 = .ok (.aload_n 0, 1) := by decide +kernel
theorem dX12_feed_37 : decode cX12_feed 37 = .ok (.dup, 1) := by decide +kernel
theorem dX12_feed_38 : decode cX12_feed 38 = .ok (.getfield 178, 3) := by decide +kernel
theorem dX12_feed_41 : decode cX12_feed 41 = .ok (.iconst 1, 1) := by decide +kernel
theorem dX12_feed_42 : decode cX12_feed 42 = .ok (.iadd, 1) := by decide +kernel
theorem dX12_feed_43 : decode cX12_feed 43 = .ok (.putfield 178, 3) := by decide +kernel
theorem dX12_feed_46 : decode cX12_feed 46 = .ok (.aload_n 0, 1) := by decide +kernel
theorem dX12_feed_47 : decode cX12_feed 47 = .ok (.getfield 178, 3) := by decide +kernel
theorem dX12_feed_50 : decode cX12_feed 50 = .ok (.ireturn, 1) := by decide +kernel
theorem dX12_look_0 : decode cX12_look 0 = .ok (.aload_n 0, 1) := by decide +kernel
theorem dX12_look_1 : decode cX12_look 1 = .ok (.getfield 181, 3) := by decide +kernel
theorem dX12_look_4 : decode cX12_look 4 = .ok (.aload_n 0, 1) := by decide +kernel
theorem dX12_look_5 : decode cX12_look 5 = .ok (.getfield 178, 3) := by decide +kernel
theorem dX12_look_8 : decode cX12_look 8 = .ok (.if_icmp .ge 15, 3) := by decide +kernel
theorem dX12_look_11 : decode cX12_look 11 = .ok (.aload_n 0, 1) := by decide +kernel
theorem dX12_look_12 : decode cX12_look 12 = .ok (.getfield 50, 3) := by decide +kernel
theorem dX12_look_15 : decode cX12_look 15 = .ok (.aload_n 0, 1) := by decide +kernel
theorem dX12_look_16 : decode cX12_look 16 = .ok (.getfield 181, 3) := by decide +kernel
theorem dX12_look_19 : decode cX12_look 19 = .ok (.baload, 1) := by decide +kernel
theorem dX12_look_20 : decode cX12_look 20 = .ok (.goto 4, 3) := by decide +kernel
theorem dX12_look_23 : decode cX12_look 23 = .ok (.iconst (-1), 1) := by decide +kernel
theorem dX12_look_24 : decode cX12_look 24 = .ok (.ireturn, 1) := by decide +kernel
theorem dX12_faulty_0 : decode cX12_faulty 0 = .ok (.aload_n 0, 1) := by decide +kernel
theorem dX12_faulty_1 : decode cX12_faulty 1 = .ok (.getfield 184, 3) := by decide +kernel
theorem dX12_faulty_4 : decode cX12_faulty 4 = .ok (.ifCond .ge 11, 3) := by decide +kernel
theorem dX12_faulty_7 : decode cX12_faulty 7 = .ok (.aload_n 0, 1) := by decide +kernel
theorem dX12_faulty_8 : decode cX12_faulty 8 = .ok (.aload_n 0, 1) := by decide +kernel
theorem dX12_faulty_9 : decode cX12_faulty 9 = .ok (.getfield 181, 3) := by decide +kernel
theorem dX12_faulty_12 : decode cX12_faulty 12 = .ok (.putfield 184, 3) := by decide +kernel
theorem dX12_faulty_15 : decode cX12_faulty 15 = .ok (.return_, 1) := by decide +kernel
theorem dX12_addStep_0 : decode cX12_addStep 0 = .ok (.aload_n 0, 1) := by decide +kernel
theorem dX12_addStep_1 : decode cX12_addStep 1 = .ok (.getfield 54, 3) := by decide +kernel
theorem dX12_addStep_4 : decode cX12_addStep 4 = .ok (.sipush 130, 3) := by decide +kernel
theorem dX12_addStep_7 : decode cX12_addStep 7 = .ok (.aload_n 0, 1) := by decide +kernel
theorem dX12_addStep_8 : decode cX12_addStep 8 = .ok (.getfield 187, 3) := by decide +kernel
theorem dX12_addStep_11 : decode cX12_addStep 11 = .ok (.iadd, 1) := by decide +kernel
theorem dX12_addStep_12 : decode cX12_addStep 12 = .ok (.iload_n 1, 1) := by decide +kernel
theorem dX12_addStep_13 : decode cX12_addStep 13 = .ok (.i2b, 1) := by decide +kernel
theorem dX12_addStep_14 : decode cX12_addStep 14 = .ok (.bastore, 1) := by decide +kernel
theorem dX12_addStep_15 : decode cX12_addStep 15 = .ok (.aload_n 0, 1) := by decide +kernel
theorem dX12_addStep_16 : decode cX12_addStep 16 = .ok (.getfield 57, 3) := by decide +kernel
theorem dX12_addStep_19 : decode cX12_addStep 19 = .ok (.sipush 130, 3) := by decide +kernel
theorem dX12_addStep_22 : decode cX12_addStep 22 = .ok (.aload_n 0, 1) := by decide +kernel
theorem dX12_addStep_23 : decode cX12_addStep 23 = .ok (.getfield 187, 3) := by decide +kernel
theorem dX12_addStep_26 : decode cX12_addStep 26 = .ok (.iadd, 1) := by decide +kernel
theorem dX12_addStep_27 : decode cX12_addStep 27 = .ok (.iload_n 2, 1) := by decide +kernel
theorem dX12_addStep_28 : decode cX12_addStep 28 = .ok (.iastore, 1) := by decide +kernel
theorem dX12_addStep_29 : decode cX12_addStep 29 = .ok (.aload_n 0, 1) := by decide +kernel
theorem dX12_addStep_30 : decode cX12_addStep 30 = .ok (.dup, 1) := by decide +kernel
theorem dX12_addStep_31 : decode cX12_addStep 31 = .ok (.getfield 187, 3) := by decide +kernel
theorem dX12_addStep_34 : decode cX12_addStep 34 = .ok (.iconst 1, 1) := by decide +kernel
theorem dX12_addStep_35 : decode cX12_addStep 35 = .ok (.iadd, 1) := by decide +kernel
theorem dX12_addStep_36 : decode cX12_addStep 36 = .ok (.putfield 187, 3) := by decide +kernel
theorem dX12_addStep_39 : decode cX12_addStep 39 = .ok (.return_, 1) := by decide +kernel
theorem dX12_nameOf_0 : decode cX12_nameOf 0 = .ok (.iload_n 0, 1) := by decide +kernel
theorem dX12_nameOf_1 : decode cX12_nameOf 1 = .ok (.tableswitch 91 104 119 #[79, 91, 91, 91, 91, 91, 91, 91, 89, 87, 85, 81, 91, 91, 91, 83], 79) := by decide +kernel
theorem dX12_nameOf_80 : decode cX12_nameOf 80 = .ok (.iconst 0, 1) := by decide +kernel
theorem dX12_nameOf_81 : decode cX12_nameOf 81 = .ok (.ireturn, 1) := by decide +kernel
theorem dX12_nameOf_82 : decode cX12_nameOf 82 = .ok (.iconst 1, 1) := by decide +kernel
theorem dX12_nameOf_83 : decode cX12_nameOf 83 = .ok (.ireturn, 1) := by decide +kernel
theorem dX12_nameOf_84 : decode cX12_nameOf 84 = .ok (.iconst 2, 1) := by decide +kernel
theorem dX12_nameOf_85 : decode cX12_nameOf 85 = .ok (.ireturn, 1) := by decide +kernel
theorem dX12_nameOf_86 : decode cX12_nameOf 86 = .ok (.iconst 3, 1) := by decide +kernel
theorem dX12_nameOf_87 : decode cX12_nameOf 87 = .ok (.ireturn, 1) := by decide +kernel
theorem dX12_nameOf_88 : decode cX12_nameOf 88 = .ok (.iconst 4, 1) := by decide +kernel
theorem dX12_nameOf_89 : decode cX12_nameOf 89 = .ok (.ireturn, 1) := by decide +kernel
theorem dX12_nameOf_90 : decode cX12_nameOf 90 = .ok (.iconst 5, 1) := by decide +kernel
theorem dX12_nameOf_91 : decode cX12_nameOf 91 = .ok (.ireturn, 1) := by decide +kernel
theorem dX12_nameOf_92 : decode cX12_nameOf 92 = .ok (.iconst (-1), 1) := by decide +kernel
theorem dX12_nameOf_93 : decode cX12_nameOf 93 = .ok (.ireturn, 1) := by decide +kernel
theorem dX12_opens_0 : decode cX12_opens 0 = .ok (.aload_n 0, 1) := by decide +kernel
theorem dX12_opens_1 : decode cX12_opens 1 = .ok (.getfield 190, 3) := by decide +kernel
theorem dX12_opens_4 : decode cX12_opens 4 = .ok (.bipush 6, 2) := by decide +kernel
theorem dX12_opens_6 : decode cX12_opens 6 = .ok (.if_icmp .ne 9, 3) := by decide +kernel
theorem dX12_opens_9 : decode cX12_opens 9 = .ok (.aload_n 0, 1) := by decide +kernel
theorem dX12_opens_10 : decode cX12_opens 10 = .ok (.invokevirtual 193, 3) := by decide +kernel
theorem dX12_opens_13 : decode cX12_opens 13 = .ok (.iconst 0, 1) := by decide +kernel
theorem dX12_opens_14 : decode cX12_opens 14 = .ok (.ireturn, 1) := by decide +kernel
theorem dX12_opens_15 : decode cX12_opens 15 = .ok (.aload_n 0, 1) := by decide +kernel
theorem dX12_opens_16 : decode cX12_opens 16 = .ok (.dup, 1) := by decide +kernel
theorem dX12_opens_17 : decode cX12_opens 17 = .ok (.getfield 190, 3) := by decide +kernel
theorem dX12_opens_20 : decode cX12_opens 20 = .ok (.iconst 1, 1) := by decide +kernel
theorem dX12_opens_21 : decode cX12_opens 21 = .ok (.iadd, 1) := by decide +kernel
theorem dX12_opens_22 : decode cX12_opens 22 = .ok (.putfield 190, 3) := by decide +kernel
theorem dX12_opens_25 : decode cX12_opens 25 = .ok (.aload_n 0, 1) := by decide +kernel
theorem dX12_opens_26 : decode cX12_opens 26 = .ok (.dup, 1) := by decide +kernel
theorem dX12_opens_27 : decode cX12_opens 27 = .ok (.getfield 181, 3) := by decide +kernel
theorem dX12_opens_30 : decode cX12_opens 30 = .ok (.iconst 1, 1) := by decide +kernel
theorem dX12_opens_31 : decode cX12_opens 31 = .ok (.iadd, 1) := by decide +kernel
theorem dX12_opens_32 : decode cX12_opens 32 = .ok (.putfield 181, 3) := by decide +kernel
theorem dX12_opens_35 : decode cX12_opens 35 = .ok (.iconst 1, 1) := by decide +kernel
theorem dX12_opens_36 : decode cX12_opens 36 = .ok (.ireturn, 1) := by decide +kernel
theorem dX12_figure_0 : decode cX12_figure 0 = .ok (.iconst 0, 1) := by decide +kernel
theorem dX12_figure_1 : decode cX12_figure 1 = .ok (.istore_n 1, 1) := by decide +kernel
theorem dX12_figure_2 : decode cX12_figure 2 = .ok (.iconst 0, 1) := by decide +kernel
theorem dX12_figure_3 : decode cX12_figure 3 = .ok (.istore_n 2, 1) := by decide +kernel
theorem dX12_figure_4 : decode cX12_figure 4 = .ok (.iload_n 2, 1) := by decide +kernel
theorem dX12_figure_5 : decode cX12_figure 5 = .ok (.iconst 4, 1) := by decide +kernel
theorem dX12_figure_6 : decode cX12_figure 6 = .ok (.if_icmp .ge 46, 3) := by decide +kernel
theorem dX12_figure_9 : decode cX12_figure 9 = .ok (.aload_n 0, 1) := by decide +kernel
theorem dX12_figure_10 : decode cX12_figure 10 = .ok (.invokevirtual 196, 3) := by decide +kernel
theorem dX12_figure_13 : decode cX12_figure 13 = .ok (.bipush 48, 2) := by decide +kernel
theorem dX12_figure_15 : decode cX12_figure 15 = .ok (.bipush 57, 2) := by decide +kernel
theorem dX12_figure_17 : decode cX12_figure 17 = .ok (.invokestatic 128, 3) := by decide +kernel
theorem dX12_figure_20 : decode cX12_figure 20 = .ok (.ifCond .eq 32, 3) := by decide +kernel
theorem dX12_figure_23 : decode cX12_figure 23 = .ok (.bipush 10, 2) := by decide +kernel
theorem dX12_figure_25 : decode cX12_figure 25 = .ok (.iload_n 1, 1) := by decide +kernel
theorem dX12_figure_26 : decode cX12_figure 26 = .ok (.imul, 1) := by decide +kernel
theorem dX12_figure_27 : decode cX12_figure 27 = .ok (.aload_n 0, 1) := by decide +kernel
theorem dX12_figure_28 : decode cX12_figure 28 = .ok (.invokevirtual 196, 3) := by decide +kernel
theorem dX12_figure_31 : decode cX12_figure 31 = .ok (.iadd, 1) := by decide +kernel
theorem dX12_figure_32 : decode cX12_figure 32 = .ok (.bipush 48, 2) := by decide +kernel
theorem dX12_figure_34 : decode cX12_figure 34 = .ok (.isub, 1) := by decide +kernel
theorem dX12_figure_35 : decode cX12_figure 35 = .ok (.istore_n 1, 1) := by decide +kernel
theorem dX12_figure_36 : decode cX12_figure 36 = .ok (.iinc 2 1, 3) := by decide +kernel
theorem dX12_figure_39 : decode cX12_figure 39 = .ok (.aload_n 0, 1) := by decide +kernel
theorem dX12_figure_40 : decode cX12_figure 40 = .ok (.dup, 1) := by decide +kernel
theorem dX12_figure_41 : decode cX12_figure 41 = .ok (.getfield 181, 3) := by decide +kernel
theorem dX12_figure_44 : decode cX12_figure 44 = .ok (.iconst 1, 1) := by decide +kernel
theorem dX12_figure_45 : decode cX12_figure 45 = .ok (.iadd, 1) := by decide +kernel
theorem dX12_figure_46 : decode cX12_figure 46 = .ok (.putfield 181, 3) := by decide +kernel
theorem dX12_figure_49 : decode cX12_figure 49 = .ok (.goto (-45), 3) := by decide +kernel
theorem dX12_figure_52 : decode cX12_figure 52 = .ok (.iload_n 2, 1) := by decide +kernel
theorem dX12_figure_53 : decode cX12_figure 53 = .ok (.ifCond .eq 17, 3) := by decide +kernel
theorem dX12_figure_56 : decode cX12_figure 56 = .ok (.aload_n 0, 1) := by decide +kernel
theorem dX12_figure_57 : decode cX12_figure 57 = .ok (.invokevirtual 196, 3) := by decide +kernel
theorem dX12_figure_60 : decode cX12_figure 60 = .ok (.bipush 48, 2) := by decide +kernel
theorem dX12_figure_62 : decode cX12_figure 62 = .ok (.bipush 57, 2) := by decide +kernel
theorem dX12_figure_64 : decode cX12_figure 64 = .ok (.invokestatic 128, 3) := by decide +kernel
theorem dX12_figure_67 : decode cX12_figure 67 = .ok (.ifCond .eq 7, 3) := by decide +kernel
theorem dX12_figure_70 : decode cX12_figure 70 = .ok (.aload_n 0, 1) := by decide +kernel
theorem dX12_figure_71 : decode cX12_figure 71 = .ok (.invokevirtual 193, 3) := by decide +kernel
theorem dX12_figure_74 : decode cX12_figure 74 = .ok (.aload_n 0, 1) := by decide +kernel
theorem dX12_figure_75 : decode cX12_figure 75 = .ok (.iconst 1, 1) := by decide +kernel
theorem dX12_figure_76 : decode cX12_figure 76 = .ok (.iload_n 1, 1) := by decide +kernel
theorem dX12_figure_77 : decode cX12_figure 77 = .ok (.invokevirtual 200, 3) := by decide +kernel
theorem dX12_figure_80 : decode cX12_figure 80 = .ok (.return_, 1) := by decide +kernel
theorem dX12_operand_0 : decode cX12_operand 0 = .ok (.aload_n 0, 1) := by decide +kernel
theorem dX12_operand_1 : decode cX12_operand 1 = .ok (.invokevirtual 196, 3) := by decide +kernel
theorem dX12_operand_4 : decode cX12_operand 4 = .ok (.istore_n 1, 1) := by decide +kernel
theorem dX12_operand_5 : decode cX12_operand 5 = .ok (.iload_n 1, 1) := by decide +kernel
theorem dX12_operand_6 : decode cX12_operand 6 = .ok (.invokestatic 204, 3) := by decide +kernel
theorem dX12_operand_9 : decode cX12_operand 9 = .ok (.ifCond .lt 25, 3) := by decide +kernel
theorem dX12_operand_12 : decode cX12_operand 12 = .ok (.aload_n 0, 1) := by decide +kernel
theorem dX12_operand_13 : decode cX12_operand 13 = .ok (.iconst 2, 1) := by decide +kernel
theorem dX12_operand_14 : decode cX12_operand 14 = .ok (.iload_n 1, 1) := by decide +kernel
theorem dX12_operand_15 : decode cX12_operand 15 = .ok (.invokestatic 204, 3) := by decide +kernel
theorem dX12_operand_18 : decode cX12_operand 18 = .ok (.invokevirtual 200, 3) := by decide +kernel
theorem dX12_operand_21 : decode cX12_operand 21 = .ok (.aload_n 0, 1) := by decide +kernel
theorem dX12_operand_22 : decode cX12_operand 22 = .ok (.dup, 1) := by decide +kernel
theorem dX12_operand_23 : decode cX12_operand 23 = .ok (.getfield 181, 3) := by decide +kernel
theorem dX12_operand_26 : decode cX12_operand 26 = .ok (.iconst 1, 1) := by decide +kernel
theorem dX12_operand_27 : decode cX12_operand 27 = .ok (.iadd, 1) := by decide +kernel
theorem dX12_operand_28 : decode cX12_operand 28 = .ok (.putfield 181, 3) := by decide +kernel
theorem dX12_operand_31 : decode cX12_operand 31 = .ok (.goto 123, 3) := by decide +kernel
theorem dX12_operand_34 : decode cX12_operand 34 = .ok (.iload_n 1, 1) := by decide +kernel
theorem dX12_operand_35 : decode cX12_operand 35 = .ok (.bipush 33, 2) := by decide +kernel
theorem dX12_operand_37 : decode cX12_operand 37 = .ok (.if_icmp .eq 9, 3) := by decide +kernel
theorem dX12_operand_40 : decode cX12_operand 40 = .ok (.iload_n 1, 1) := by decide +kernel
theorem dX12_operand_41 : decode cX12_operand 41 = .ok (.bipush 45, 2) := by decide +kernel
theorem dX12_operand_43 : decode cX12_operand 43 = .ok (.if_icmp .ne 44, 3) := by decide +kernel
theorem dX12_operand_46 : decode cX12_operand 46 = .ok (.aload_n 0, 1) := by decide +kernel
theorem dX12_operand_47 : decode cX12_operand 47 = .ok (.invokevirtual 208, 3) := by decide +kernel
theorem dX12_operand_50 : decode cX12_operand 50 = .ok (.ifCond .ne 4, 3) := by decide +kernel
theorem dX12_operand_53 : decode cX12_operand 53 = .ok (.return_, 1) := by decide +kernel
theorem dX12_operand_54 : decode cX12_operand 54 = .ok (.aload_n 0, 1) := by decide +kernel
theorem dX12_operand_55 : decode cX12_operand 55 = .ok (.invokevirtual 212, 3) := by decide +kernel
theorem dX12_operand_58 : decode cX12_operand 58 = .ok (.aload_n 0, 1) := by decide +kernel
theorem dX12_operand_59 : decode cX12_operand 59 = .ok (.dup, 1) := by decide +kernel
theorem dX12_operand_60 : decode cX12_operand 60 = .ok (.getfield 190, 3) := by decide +kernel
theorem dX12_operand_63 : decode cX12_operand 63 = .ok (.iconst 1, 1) := by decide +kernel
theorem dX12_operand_64 : decode cX12_operand 64 = .ok (.isub, 1) := by decide +kernel
theorem dX12_operand_65 : decode cX12_operand 65 = .ok (.putfield 190, 3) := by decide +kernel
theorem dX12_operand_68 : decode cX12_operand 68 = .ok (.aload_n 0, 1) := by decide +kernel
theorem dX12_operand_69 : decode cX12_operand 69 = .ok (.iload_n 1, 1) := by decide +kernel
theorem dX12_operand_70 : decode cX12_operand 70 = .ok (.bipush 33, 2) := by decide +kernel
theorem dX12_operand_72 : decode cX12_operand 72 = .ok (.if_icmp .ne 7, 3) := by decide +kernel
theorem dX12_operand_75 : decode cX12_operand 75 = .ok (.iconst 3, 1) := by decide +kernel
theorem dX12_operand_76 : decode cX12_operand 76 = .ok (.goto 4, 3) := by decide +kernel
theorem dX12_operand_79 : decode cX12_operand 79 = .ok (.iconst 4, 1) := by decide +kernel
theorem dX12_operand_80 : decode cX12_operand 80 = .ok (.iconst 0, 1) := by decide +kernel
theorem dX12_operand_81 : decode cX12_operand 81 = .ok (.invokevirtual 200, 3) := by decide +kernel
theorem dX12_operand_84 : decode cX12_operand 84 = .ok (.goto 70, 3) := by decide +kernel
theorem dX12_operand_87 : decode cX12_operand 87 = .ok (.iload_n 1, 1) := by decide +kernel
theorem dX12_operand_88 : decode cX12_operand 88 = .ok (.bipush 40, 2) := by decide +kernel
theorem dX12_operand_90 : decode cX12_operand 90 = .ok (.if_icmp .ne 60, 3) := by decide +kernel
theorem dX12_operand_93 : decode cX12_operand 93 = .ok (.aload_n 0, 1) := by decide +kernel
theorem dX12_operand_94 : decode cX12_operand 94 = .ok (.invokevirtual 208, 3) := by decide +kernel
theorem dX12_operand_97 : decode cX12_operand 97 = .ok (.ifCond .ne 4, 3) := by decide +kernel
theorem dX12_operand_100 : decode cX12_operand 100 = .ok (.return_, 1) := by decide +kernel
theorem dX12_operand_101 : decode cX12_operand 101 = .ok (.aload_n 0, 1) := by decide +kernel
theorem dX12_operand_102 : decode cX12_operand 102 = .ok (.invokevirtual 215, 3) := by decide +kernel
theorem dX12_operand_105 : decode cX12_operand 105 = .ok (.aload_n 0, 1) := by decide +kernel
theorem dX12_operand_106 : decode cX12_operand 106 = .ok (.getfield 184, 3) := by decide +kernel
theorem dX12_operand_109 : decode cX12_operand 109 = .ok (.ifCond .lt 4, 3) := by decide +kernel
theorem dX12_operand_112 : decode cX12_operand 112 = .ok (.return_, 1) := by decide +kernel
theorem dX12_operand_113 : decode cX12_operand 113 = .ok (.aload_n 0, 1) := by decide +kernel
theorem dX12_operand_114 : decode cX12_operand 114 = .ok (.invokevirtual 196, 3) := by decide +kernel
theorem dX12_operand_117 : decode cX12_operand 117 = .ok (.bipush 41, 2) := by decide +kernel
theorem dX12_operand_119 : decode cX12_operand 119 = .ok (.if_icmp .eq 8, 3) := by decide +kernel
theorem dX12_operand_122 : decode cX12_operand 122 = .ok (.aload_n 0, 1) := by decide +kernel
theorem dX12_operand_123 : decode cX12_operand 123 = .ok (.invokevirtual 193, 3) := by decide +kernel
theorem dX12_operand_126 : decode cX12_operand 126 = .ok (.return_, 1) := by decide +kernel
theorem dX12_operand_127 : decode cX12_operand 127 = .ok (.aload_n 0, 1) := by decide +kernel
theorem dX12_operand_128 : decode cX12_operand 128 = .ok (.dup, 1) := by decide +kernel
theorem dX12_operand_129 : decode cX12_operand 129 = .ok (.getfield 181, 3) := by decide +kernel
theorem dX12_operand_132 : decode cX12_operand 132 = .ok (.iconst 1, 1) := by decide +kernel
theorem dX12_operand_133 : decode cX12_operand 133 = .ok (.iadd, 1) := by decide +kernel
theorem dX12_operand_134 : decode cX12_operand 134 = .ok (.putfield 181, 3) := by decide +kernel
theorem dX12_operand_137 : decode cX12_operand 137 = .ok (.aload_n 0, 1) := by decide +kernel
theorem dX12_operand_138 : decode cX12_operand 138 = .ok (.dup, 1) := by decide +kernel
theorem dX12_operand_139 : decode cX12_operand 139 = .ok (.getfield 190, 3) := by decide +kernel
theorem dX12_operand_142 : decode cX12_operand 142 = .ok (.iconst 1, 1) := by decide +kernel
theorem dX12_operand_143 : decode cX12_operand 143 = .ok (.isub, 1) := by decide +kernel
theorem dX12_operand_144 : decode cX12_operand 144 = .ok (.putfield 190, 3) := by decide +kernel
theorem dX12_operand_147 : decode cX12_operand 147 = .ok (.goto 7, 3) := by decide +kernel
theorem dX12_operand_150 : decode cX12_operand 150 = .ok (.aload_n 0, 1) := by decide +kernel
theorem dX12_operand_151 : decode cX12_operand 151 = .ok (.invokevirtual 218, 3) := by decide +kernel
theorem dX12_operand_154 : decode cX12_operand 154 = .ok (.return_, 1) := by decide +kernel
theorem dX12_product_0 : decode cX12_product 0 = .ok (.aload_n 0, 1) := by decide +kernel
theorem dX12_product_1 : decode cX12_product 1 = .ok (.invokevirtual 212, 3) := by decide +kernel
theorem dX12_product_4 : decode cX12_product 4 = .ok (.aload_n 0, 1) := by decide +kernel
theorem dX12_product_5 : decode cX12_product 5 = .ok (.getfield 184, 3) := by decide +kernel
theorem dX12_product_8 : decode cX12_product 8 = .ok (.ifCond .ge 58, 3) := by decide +kernel
theorem dX12_product_11 : decode cX12_product 11 = .ok (.aload_n 0, 1) := by decide +kernel
theorem dX12_product_12 : decode cX12_product 12 = .ok (.invokevirtual 196, 3) := by decide +kernel
theorem dX12_product_15 : decode cX12_product 15 = .ok (.bipush 42, 2) := by decide +kernel
theorem dX12_product_17 : decode cX12_product 17 = .ok (.if_icmp .eq 21, 3) := by decide +kernel
theorem dX12_product_20 : decode cX12_product 20 = .ok (.aload_n 0, 1) := by decide +kernel
theorem dX12_product_21 : decode cX12_product 21 = .ok (.invokevirtual 196, 3) := by decide +kernel
theorem dX12_product_24 : decode cX12_product 24 = .ok (.bipush 47, 2) := by decide +kernel
theorem dX12_product_26 : decode cX12_product 26 = .ok (.if_icmp .eq 12, 3) := by decide +kernel
theorem dX12_product_29 : decode cX12_product 29 = .ok (.aload_n 0, 1) := by decide +kernel
theorem dX12_product_30 : decode cX12_product 30 = .ok (.invokevirtual 196, 3) := by decide +kernel
theorem dX12_product_33 : decode cX12_product 33 = .ok (.bipush 37, 2) := by decide +kernel
theorem dX12_product_35 : decode cX12_product 35 = .ok (.if_icmp .ne 31, 3) := by decide +kernel
theorem dX12_product_38 : decode cX12_product 38 = .ok (.aload_n 0, 1) := by decide +kernel
theorem dX12_product_39 : decode cX12_product 39 = .ok (.invokevirtual 196, 3) := by decide +kernel
theorem dX12_product_42 : decode cX12_product 42 = .ok (.istore_n 1, 1) := by decide +kernel
theorem dX12_product_43 : decode cX12_product 43 = .ok (.aload_n 0, 1) := by decide +kernel
theorem dX12_product_44 : decode cX12_product 44 = .ok (.dup, 1) := by decide +kernel
theorem dX12_product_45 : decode cX12_product 45 = .ok (.getfield 181, 3) := by decide +kernel
theorem dX12_product_48 : decode cX12_product 48 = .ok (.iconst 1, 1) := by decide +kernel
theorem dX12_product_49 : decode cX12_product 49 = .ok (.iadd, 1) := by decide +kernel
theorem dX12_product_50 : decode cX12_product 50 = .ok (.putfield 181, 3) := by decide +kernel
theorem dX12_product_53 : decode cX12_product 53 = .ok (.aload_n 0, 1) := by decide +kernel
theorem dX12_product_54 : decode cX12_product 54 = .ok (.invokevirtual 212, 3) := by decide +kernel
theorem dX12_product_57 : decode cX12_product 57 = .ok (.aload_n 0, 1) := by decide +kernel
theorem dX12_product_58 : decode cX12_product 58 = .ok (.iload_n 1, 1) := by decide +kernel
theorem dX12_product_59 : decode cX12_product 59 = .ok (.iconst 0, 1) := by decide +kernel
theorem dX12_product_60 : decode cX12_product 60 = .ok (.invokevirtual 200, 3) := by decide +kernel
theorem dX12_product_63 : decode cX12_product 63 = .ok (.goto (-59), 3) := by decide +kernel
theorem dX12_product_66 : decode cX12_product 66 = .ok (.return_, 1) := by decide +kernel
theorem dX12_sum_0 : decode cX12_sum 0 = .ok (.aload_n 0, 1) := by decide +kernel
theorem dX12_sum_1 : decode cX12_sum 1 = .ok (.invokevirtual 221, 3) := by decide +kernel
theorem dX12_sum_4 : decode cX12_sum 4 = .ok (.aload_n 0, 1) := by decide +kernel
theorem dX12_sum_5 : decode cX12_sum 5 = .ok (.getfield 184, 3) := by decide +kernel
theorem dX12_sum_8 : decode cX12_sum 8 = .ok (.ifCond .ge 49, 3) := by decide +kernel
theorem dX12_sum_11 : decode cX12_sum 11 = .ok (.aload_n 0, 1) := by decide +kernel
theorem dX12_sum_12 : decode cX12_sum 12 = .ok (.invokevirtual 196, 3) := by decide +kernel
theorem dX12_sum_15 : decode cX12_sum 15 = .ok (.bipush 43, 2) := by decide +kernel
theorem dX12_sum_17 : decode cX12_sum 17 = .ok (.if_icmp .eq 12, 3) := by decide +kernel
theorem dX12_sum_20 : decode cX12_sum 20 = .ok (.aload_n 0, 1) := by decide +kernel
theorem dX12_sum_21 : decode cX12_sum 21 = .ok (.invokevirtual 196, 3) := by decide +kernel
theorem dX12_sum_24 : decode cX12_sum 24 = .ok (.bipush 45, 2) := by decide +kernel
theorem dX12_sum_26 : decode cX12_sum 26 = .ok (.if_icmp .ne 31, 3) := by decide +kernel
theorem dX12_sum_29 : decode cX12_sum 29 = .ok (.aload_n 0, 1) := by decide +kernel
theorem dX12_sum_30 : decode cX12_sum 30 = .ok (.invokevirtual 196, 3) := by decide +kernel
theorem dX12_sum_33 : decode cX12_sum 33 = .ok (.istore_n 1, 1) := by decide +kernel
theorem dX12_sum_34 : decode cX12_sum 34 = .ok (.aload_n 0, 1) := by decide +kernel
theorem dX12_sum_35 : decode cX12_sum 35 = .ok (.dup, 1) := by decide +kernel
theorem dX12_sum_36 : decode cX12_sum 36 = .ok (.getfield 181, 3) := by decide +kernel
theorem dX12_sum_39 : decode cX12_sum 39 = .ok (.iconst 1, 1) := by decide +kernel
theorem dX12_sum_40 : decode cX12_sum 40 = .ok (.iadd, 1) := by decide +kernel
theorem dX12_sum_41 : decode cX12_sum 41 = .ok (.putfield 181, 3) := by decide +kernel
theorem dX12_sum_44 : decode cX12_sum 44 = .ok (.aload_n 0, 1) := by decide +kernel
theorem dX12_sum_45 : decode cX12_sum 45 = .ok (.invokevirtual 221, 3) := by decide +kernel
theorem dX12_sum_48 : decode cX12_sum 48 = .ok (.aload_n 0, 1) := by decide +kernel
theorem dX12_sum_49 : decode cX12_sum 49 = .ok (.iload_n 1, 1) := by decide +kernel
theorem dX12_sum_50 : decode cX12_sum 50 = .ok (.iconst 0, 1) := by decide +kernel
theorem dX12_sum_51 : decode cX12_sum 51 = .ok (.invokevirtual 200, 3) := by decide +kernel
theorem dX12_sum_54 : decode cX12_sum 54 = .ok (.goto (-50), 3) := by decide +kernel
theorem dX12_sum_57 : decode cX12_sum 57 = .ok (.return_, 1) := by decide +kernel
theorem dX12_compared_0 : decode cX12_compared 0 = .ok (.aload_n 0, 1) := by decide +kernel
theorem dX12_compared_1 : decode cX12_compared 1 = .ok (.invokevirtual 224, 3) := by decide +kernel
theorem dX12_compared_4 : decode cX12_compared 4 = .ok (.aload_n 0, 1) := by decide +kernel
theorem dX12_compared_5 : decode cX12_compared 5 = .ok (.invokevirtual 196, 3) := by decide +kernel
theorem dX12_compared_8 : decode cX12_compared 8 = .ok (.istore_n 1, 1) := by decide +kernel
theorem dX12_compared_9 : decode cX12_compared 9 = .ok (.aload_n 0, 1) := by decide +kernel
theorem dX12_compared_10 : decode cX12_compared 10 = .ok (.getfield 184, 3) := by decide +kernel
theorem dX12_compared_13 : decode cX12_compared 13 = .ok (.ifCond .ge 21, 3) := by decide +kernel
theorem dX12_compared_16 : decode cX12_compared 16 = .ok (.iload_n 1, 1) := by decide +kernel
theorem dX12_compared_17 : decode cX12_compared 17 = .ok (.bipush 60, 2) := by decide +kernel
theorem dX12_compared_19 : decode cX12_compared 19 = .ok (.if_icmp .eq 16, 3) := by decide +kernel
theorem dX12_compared_22 : decode cX12_compared 22 = .ok (.iload_n 1, 1) := by decide +kernel
theorem dX12_compared_23 : decode cX12_compared 23 = .ok (.bipush 61, 2) := by decide +kernel
theorem dX12_compared_25 : decode cX12_compared 25 = .ok (.if_icmp .eq 10, 3) := by decide +kernel
theorem dX12_compared_28 : decode cX12_compared 28 = .ok (.iload_n 1, 1) := by decide +kernel
theorem dX12_compared_29 : decode cX12_compared 29 = .ok (.bipush 62, 2) := by decide +kernel
theorem dX12_compared_31 : decode cX12_compared 31 = .ok (.if_icmp .eq 4, 3) := by decide +kernel
theorem dX12_compared_34 : decode cX12_compared 34 = .ok (.return_, 1) := by decide +kernel
theorem dX12_compared_35 : decode cX12_compared 35 = .ok (.aload_n 0, 1) := by decide +kernel
theorem dX12_compared_36 : decode cX12_compared 36 = .ok (.dup, 1) := by decide +kernel
theorem dX12_compared_37 : decode cX12_compared 37 = .ok (.getfield 181, 3) := by decide +kernel
theorem dX12_compared_40 : decode cX12_compared 40 = .ok (.iconst 1, 1) := by decide +kernel
theorem dX12_compared_41 : decode cX12_compared 41 = .ok (.iadd, 1) := by decide +kernel
theorem dX12_compared_42 : decode cX12_compared 42 = .ok (.putfield 181, 3) := by decide +kernel
theorem dX12_compared_45 : decode cX12_compared 45 = .ok (.aload_n 0, 1) := by decide +kernel
theorem dX12_compared_46 : decode cX12_compared 46 = .ok (.invokevirtual 224, 3) := by decide +kernel
theorem dX12_compared_49 : decode cX12_compared 49 = .ok (.aload_n 0, 1) := by decide +kernel
theorem dX12_compared_50 : decode cX12_compared 50 = .ok (.iload_n 1, 1) := by decide +kernel
theorem dX12_compared_51 : decode cX12_compared 51 = .ok (.iconst 0, 1) := by decide +kernel
theorem dX12_compared_52 : decode cX12_compared 52 = .ok (.invokevirtual 200, 3) := by decide +kernel
theorem dX12_compared_55 : decode cX12_compared 55 = .ok (.return_, 1) := by decide +kernel
theorem dX12_both_0 : decode cX12_both 0 = .ok (.aload_n 0, 1) := by decide +kernel
theorem dX12_both_1 : decode cX12_both 1 = .ok (.invokevirtual 227, 3) := by decide +kernel
theorem dX12_both_4 : decode cX12_both 4 = .ok (.aload_n 0, 1) := by decide +kernel
theorem dX12_both_5 : decode cX12_both 5 = .ok (.getfield 184, 3) := by decide +kernel
theorem dX12_both_8 : decode cX12_both 8 = .ok (.ifCond .ge 36, 3) := by decide +kernel
theorem dX12_both_11 : decode cX12_both 11 = .ok (.aload_n 0, 1) := by decide +kernel
theorem dX12_both_12 : decode cX12_both 12 = .ok (.invokevirtual 196, 3) := by decide +kernel
theorem dX12_both_15 : decode cX12_both 15 = .ok (.bipush 38, 2) := by decide +kernel
theorem dX12_both_17 : decode cX12_both 17 = .ok (.if_icmp .ne 27, 3) := by decide +kernel
theorem dX12_both_20 : decode cX12_both 20 = .ok (.aload_n 0, 1) := by decide +kernel
theorem dX12_both_21 : decode cX12_both 21 = .ok (.dup, 1) := by decide +kernel
theorem dX12_both_22 : decode cX12_both 22 = .ok (.getfield 181, 3) := by decide +kernel
theorem dX12_both_25 : decode cX12_both 25 = .ok (.iconst 1, 1) := by decide +kernel
theorem dX12_both_26 : decode cX12_both 26 = .ok (.iadd, 1) := by decide +kernel
theorem dX12_both_27 : decode cX12_both 27 = .ok (.putfield 181, 3) := by decide +kernel
theorem dX12_both_30 : decode cX12_both 30 = .ok (.aload_n 0, 1) := by decide +kernel
theorem dX12_both_31 : decode cX12_both 31 = .ok (.invokevirtual 227, 3) := by decide +kernel
theorem dX12_both_34 : decode cX12_both 34 = .ok (.aload_n 0, 1) := by decide +kernel
theorem dX12_both_35 : decode cX12_both 35 = .ok (.bipush 38, 2) := by decide +kernel
theorem dX12_both_37 : decode cX12_both 37 = .ok (.iconst 0, 1) := by decide +kernel
theorem dX12_both_38 : decode cX12_both 38 = .ok (.invokevirtual 200, 3) := by decide +kernel
theorem dX12_both_41 : decode cX12_both 41 = .ok (.goto (-37), 3) := by decide +kernel
theorem dX12_both_44 : decode cX12_both 44 = .ok (.return_, 1) := by decide +kernel
theorem dX12_either_0 : decode cX12_either 0 = .ok (.aload_n 0, 1) := by decide +kernel
theorem dX12_either_1 : decode cX12_either 1 = .ok (.invokevirtual 230, 3) := by decide +kernel
theorem dX12_either_4 : decode cX12_either 4 = .ok (.aload_n 0, 1) := by decide +kernel
theorem dX12_either_5 : decode cX12_either 5 = .ok (.getfield 184, 3) := by decide +kernel
theorem dX12_either_8 : decode cX12_either 8 = .ok (.ifCond .ge 36, 3) := by decide +kernel
theorem dX12_either_11 : decode cX12_either 11 = .ok (.aload_n 0, 1) := by decide +kernel
theorem dX12_either_12 : decode cX12_either 12 = .ok (.invokevirtual 196, 3) := by decide +kernel
theorem dX12_either_15 : decode cX12_either 15 = .ok (.bipush 124, 2) := by decide +kernel
theorem dX12_either_17 : decode cX12_either 17 = .ok (.if_icmp .ne 27, 3) := by decide +kernel
theorem dX12_either_20 : decode cX12_either 20 = .ok (.aload_n 0, 1) := by decide +kernel
theorem dX12_either_21 : decode cX12_either 21 = .ok (.dup, 1) := by decide +kernel
theorem dX12_either_22 : decode cX12_either 22 = .ok (.getfield 181, 3) := by decide +kernel
theorem dX12_either_25 : decode cX12_either 25 = .ok (.iconst 1, 1) := by decide +kernel
theorem dX12_either_26 : decode cX12_either 26 = .ok (.iadd, 1) := by decide +kernel
theorem dX12_either_27 : decode cX12_either 27 = .ok (.putfield 181, 3) := by decide +kernel
theorem dX12_either_30 : decode cX12_either 30 = .ok (.aload_n 0, 1) := by decide +kernel
theorem dX12_either_31 : decode cX12_either 31 = .ok (.invokevirtual 230, 3) := by decide +kernel
theorem dX12_either_34 : decode cX12_either 34 = .ok (.aload_n 0, 1) := by decide +kernel
theorem dX12_either_35 : decode cX12_either 35 = .ok (.bipush 124, 2) := by decide +kernel
theorem dX12_either_37 : decode cX12_either 37 = .ok (.iconst 0, 1) := by decide +kernel
theorem dX12_either_38 : decode cX12_either 38 = .ok (.invokevirtual 200, 3) := by decide +kernel
theorem dX12_either_41 : decode cX12_either 41 = .ok (.goto (-37), 3) := by decide +kernel
theorem dX12_either_44 : decode cX12_either 44 = .ok (.return_, 1) := by decide +kernel
theorem dX12_line_0 : decode cX12_line 0 = .ok (.bipush 61, 2) := by decide +kernel
theorem dX12_line_2 : decode cX12_line 2 = .ok (.aload_n 0, 1) := by decide +kernel
theorem dX12_line_3 : decode cX12_line 3 = .ok (.getfield 60, 3) := by decide +kernel
theorem dX12_line_6 : decode cX12_line 6 = .ok (.iconst 1, 1) := by decide +kernel
theorem dX12_line_7 : decode cX12_line 7 = .ok (.iaload, 1) := by decide +kernel
theorem dX12_line_8 : decode cX12_line 8 = .ok (.iadd, 1) := by decide +kernel
theorem dX12_line_9 : decode cX12_line 9 = .ok (.istore_n 1, 1) := by decide +kernel
theorem dX12_line_10 : decode cX12_line 10 = .ok (.aload_n 0, 1) := by decide +kernel
theorem dX12_line_11 : decode cX12_line 11 = .ok (.getfield 63, 3) := by decide +kernel
theorem dX12_line_14 : decode cX12_line 14 = .ok (.iload_n 1, 1) := by decide +kernel
theorem dX12_line_15 : decode cX12_line 15 = .ok (.aload_n 0, 1) := by decide +kernel
theorem dX12_line_16 : decode cX12_line 16 = .ok (.getfield 187, 3) := by decide +kernel
theorem dX12_line_19 : decode cX12_line 19 = .ok (.i2s, 1) := by decide +kernel
theorem dX12_line_20 : decode cX12_line 20 = .ok (.sastore, 1) := by decide +kernel
theorem dX12_line_21 : decode cX12_line 21 = .ok (.aload_n 0, 1) := by decide +kernel
theorem dX12_line_22 : decode cX12_line 22 = .ok (.invokevirtual 215, 3) := by decide +kernel
theorem dX12_line_25 : decode cX12_line 25 = .ok (.aload_n 0, 1) := by decide +kernel
theorem dX12_line_26 : decode cX12_line 26 = .ok (.getfield 184, 3) := by decide +kernel
theorem dX12_line_29 : decode cX12_line 29 = .ok (.ifCond .ge 37, 3) := by decide +kernel
theorem dX12_line_32 : decode cX12_line 32 = .ok (.aload_n 0, 1) := by decide +kernel
theorem dX12_line_33 : decode cX12_line 33 = .ok (.invokevirtual 196, 3) := by decide +kernel
theorem dX12_line_36 : decode cX12_line 36 = .ok (.bipush 63, 2) := by decide +kernel
theorem dX12_line_38 : decode cX12_line 38 = .ok (.if_icmp .ne 28, 3) := by decide +kernel
theorem dX12_line_41 : decode cX12_line 41 = .ok (.aload_n 0, 1) := by decide +kernel
theorem dX12_line_42 : decode cX12_line 42 = .ok (.dup, 1) := by decide +kernel
theorem dX12_line_43 : decode cX12_line 43 = .ok (.getfield 181, 3) := by decide +kernel
theorem dX12_line_46 : decode cX12_line 46 = .ok (.iconst 1, 1) := by decide +kernel
theorem dX12_line_47 : decode cX12_line 47 = .ok (.iadd, 1) := by decide +kernel
theorem dX12_line_48 : decode cX12_line 48 = .ok (.putfield 181, 3) := by decide +kernel
theorem dX12_line_51 : decode cX12_line 51 = .ok (.aload_n 0, 1) := by decide +kernel
theorem dX12_line_52 : decode cX12_line 52 = .ok (.getfield 63, 3) := by decide +kernel
theorem dX12_line_55 : decode cX12_line 55 = .ok (.iload_n 1, 1) := by decide +kernel
theorem dX12_line_56 : decode cX12_line 56 = .ok (.aload_n 0, 1) := by decide +kernel
theorem dX12_line_57 : decode cX12_line 57 = .ok (.getfield 187, 3) := by decide +kernel
theorem dX12_line_60 : decode cX12_line 60 = .ok (.i2s, 1) := by decide +kernel
theorem dX12_line_61 : decode cX12_line 61 = .ok (.sastore, 1) := by decide +kernel
theorem dX12_line_62 : decode cX12_line 62 = .ok (.aload_n 0, 1) := by decide +kernel
theorem dX12_line_63 : decode cX12_line 63 = .ok (.invokevirtual 215, 3) := by decide +kernel
theorem dX12_line_66 : decode cX12_line 66 = .ok (.aload_n 0, 1) := by decide +kernel
theorem dX12_line_67 : decode cX12_line 67 = .ok (.getfield 67, 3) := by decide +kernel
theorem dX12_line_70 : decode cX12_line 70 = .ok (.iload_n 1, 1) := by decide +kernel
theorem dX12_line_71 : decode cX12_line 71 = .ok (.aload_n 0, 1) := by decide +kernel
theorem dX12_line_72 : decode cX12_line 72 = .ok (.getfield 187, 3) := by decide +kernel
theorem dX12_line_75 : decode cX12_line 75 = .ok (.i2s, 1) := by decide +kernel
theorem dX12_line_76 : decode cX12_line 76 = .ok (.sastore, 1) := by decide +kernel
theorem dX12_line_77 : decode cX12_line 77 = .ok (.aload_n 0, 1) := by decide +kernel
theorem dX12_line_78 : decode cX12_line 78 = .ok (.getfield 60, 3) := by decide +kernel
theorem dX12_line_81 : decode cX12_line 81 = .ok (.iconst 1, 1) := by decide +kernel
theorem dX12_line_82 : decode cX12_line 82 = .ok (.dup2, 1) := by decide +kernel
theorem dX12_line_83 : decode cX12_line 83 = .ok (.iaload, 1) := by decide +kernel
theorem dX12_line_84 : decode cX12_line 84 = .ok (.iconst 1, 1) := by decide +kernel
theorem dX12_line_85 : decode cX12_line 85 = .ok (.iadd, 1) := by decide +kernel
theorem dX12_line_86 : decode cX12_line 86 = .ok (.iastore, 1) := by decide +kernel
theorem dX12_line_87 : decode cX12_line 87 = .ok (.return_, 1) := by decide +kernel
theorem dX12_readText_0 : decode cX12_readText 0 = .ok (.aload_n 0, 1) := by decide +kernel
theorem dX12_readText_1 : decode cX12_readText 1 = .ok (.iconst 0, 1) := by decide +kernel
theorem dX12_readText_2 : decode cX12_readText 2 = .ok (.putfield 181, 3) := by decide +kernel
theorem dX12_readText_5 : decode cX12_readText 5 = .ok (.aload_n 0, 1) := by decide +kernel
theorem dX12_readText_6 : decode cX12_readText 6 = .ok (.iconst (-1), 1) := by decide +kernel
theorem dX12_readText_7 : decode cX12_readText 7 = .ok (.putfield 184, 3) := by decide +kernel
theorem dX12_readText_10 : decode cX12_readText 10 = .ok (.aload_n 0, 1) := by decide +kernel
theorem dX12_readText_11 : decode cX12_readText 11 = .ok (.iconst 0, 1) := by decide +kernel
theorem dX12_readText_12 : decode cX12_readText 12 = .ok (.putfield 190, 3) := by decide +kernel
theorem dX12_readText_15 : decode cX12_readText 15 = .ok (.aload_n 0, 1) := by decide +kernel
theorem dX12_readText_16 : decode cX12_readText 16 = .ok (.iconst 0, 1) := by decide +kernel
theorem dX12_readText_17 : decode cX12_readText 17 = .ok (.putfield 187, 3) := by decide +kernel
theorem dX12_readText_20 : decode cX12_readText 20 = .ok (.aload_n 0, 1) := by decide +kernel
theorem dX12_readText_21 : decode cX12_readText 21 = .ok (.getfield 60, 3) := by decide +kernel
theorem dX12_readText_24 : decode cX12_readText 24 = .ok (.iconst 1, 1) := by decide +kernel
theorem dX12_readText_25 : decode cX12_readText 25 = .ok (.iconst 0, 1) := by decide +kernel
theorem dX12_readText_26 : decode cX12_readText 26 = .ok (.iastore, 1) := by decide +kernel
theorem dX12_readText_27 : decode cX12_readText 27 = .ok (.aload_n 0, 1) := by decide +kernel
theorem dX12_readText_28 : decode cX12_readText 28 = .ok (.invokevirtual 233, 3) := by decide +kernel
theorem dX12_readText_31 : decode cX12_readText 31 = .ok (.aload_n 0, 1) := by decide +kernel
theorem dX12_readText_32 : decode cX12_readText 32 = .ok (.getfield 184, 3) := by decide +kernel
theorem dX12_readText_35 : decode cX12_readText 35 = .ok (.ifCond .ge 29, 3) := by decide +kernel
theorem dX12_readText_38 : decode cX12_readText 38 = .ok (.aload_n 0, 1) := by decide +kernel
theorem dX12_readText_39 : decode cX12_readText 39 = .ok (.invokevirtual 196, 3) := by decide +kernel
theorem dX12_readText_42 : decode cX12_readText 42 = .ok (.bipush 59, 2) := by decide +kernel
theorem dX12_readText_44 : decode cX12_readText 44 = .ok (.if_icmp .ne 20, 3) := by decide +kernel
theorem dX12_readText_47 : decode cX12_readText 47 = .ok (.aload_n 0, 1) := by decide +kernel
theorem dX12_readText_48 : decode cX12_readText 48 = .ok (.dup, 1) := by decide +kernel
theorem dX12_readText_49 : decode cX12_readText 49 = .ok (.getfield 181, 3) := by decide +kernel
theorem dX12_readText_52 : decode cX12_readText 52 = .ok (.iconst 1, 1) := by decide +kernel
theorem dX12_readText_53 : decode cX12_readText 53 = .ok (.iadd, 1) := by decide +kernel
theorem dX12_readText_54 : decode cX12_readText 54 = .ok (.putfield 181, 3) := by decide +kernel
theorem dX12_readText_57 : decode cX12_readText 57 = .ok (.aload_n 0, 1) := by decide +kernel
theorem dX12_readText_58 : decode cX12_readText 58 = .ok (.invokevirtual 233, 3) := by decide +kernel
theorem dX12_readText_61 : decode cX12_readText 61 = .ok (.goto (-30), 3) := by decide +kernel
theorem dX12_readText_64 : decode cX12_readText 64 = .ok (.aload_n 0, 1) := by decide +kernel
theorem dX12_readText_65 : decode cX12_readText 65 = .ok (.getfield 184, 3) := by decide +kernel
theorem dX12_readText_68 : decode cX12_readText 68 = .ok (.ifCond .ge 18, 3) := by decide +kernel
theorem dX12_readText_71 : decode cX12_readText 71 = .ok (.aload_n 0, 1) := by decide +kernel
theorem dX12_readText_72 : decode cX12_readText 72 = .ok (.getfield 181, 3) := by decide +kernel
theorem dX12_readText_75 : decode cX12_readText 75 = .ok (.aload_n 0, 1) := by decide +kernel
theorem dX12_readText_76 : decode cX12_readText 76 = .ok (.getfield 178, 3) := by decide +kernel
theorem dX12_readText_79 : decode cX12_readText 79 = .ok (.if_icmp .ge 7, 3) := by decide +kernel
theorem dX12_readText_82 : decode cX12_readText 82 = .ok (.aload_n 0, 1) := by decide +kernel
theorem dX12_readText_83 : decode cX12_readText 83 = .ok (.invokevirtual 193, 3) := by decide +kernel
theorem dX12_readText_86 : decode cX12_readText 86 = .ok (.aload_n 0, 1) := by decide +kernel
theorem dX12_readText_87 : decode cX12_readText 87 = .ok (.iconst 0, 1) := by decide +kernel
theorem dX12_readText_88 : decode cX12_readText 88 = .ok (.putfield 178, 3) := by decide +kernel
theorem dX12_readText_91 : decode cX12_readText 91 = .ok (.aload_n 0, 1) := by decide +kernel
theorem dX12_readText_92 : decode cX12_readText 92 = .ok (.getfield 184, 3) := by decide +kernel
theorem dX12_readText_95 : decode cX12_readText 95 = .ok (.ifCond .lt 8, 3) := by decide +kernel
theorem dX12_readText_98 : decode cX12_readText 98 = .ok (.aload_n 0, 1) := by decide +kernel
theorem dX12_readText_99 : decode cX12_readText 99 = .ok (.getfield 184, 3) := by decide +kernel
theorem dX12_readText_102 : decode cX12_readText 102 = .ok (.ireturn, 1) := by decide +kernel
theorem dX12_readText_103 : decode cX12_readText 103 = .ok (.iconst 0, 1) := by decide +kernel
theorem dX12_readText_104 : decode cX12_readText 104 = .ok (.istore_n 2, 1) := by decide +kernel
theorem dX12_readText_105 : decode cX12_readText 105 = .ok (.iload_n 2, 1) := by decide +kernel
theorem dX12_readText_106 : decode cX12_readText 106 = .ok (.aload_n 0, 1) := by decide +kernel
theorem dX12_readText_107 : decode cX12_readText 107 = .ok (.getfield 187, 3) := by decide +kernel
theorem dX12_readText_110 : decode cX12_readText 110 = .ok (.if_icmp .ge 53, 3) := by decide +kernel
theorem dX12_readText_113 : decode cX12_readText 113 = .ok (.aload_n 0, 1) := by decide +kernel
theorem dX12_readText_114 : decode cX12_readText 114 = .ok (.getfield 54, 3) := by decide +kernel
theorem dX12_readText_117 : decode cX12_readText 117 = .ok (.sipush 130, 3) := by decide +kernel
theorem dX12_readText_120 : decode cX12_readText 120 = .ok (.iload_n 1, 1) := by decide +kernel
theorem dX12_readText_121 : decode cX12_readText 121 = .ok (.imul, 1) := by decide +kernel
theorem dX12_readText_122 : decode cX12_readText 122 = .ok (.iload_n 2, 1) := by decide +kernel
theorem dX12_readText_123 : decode cX12_readText 123 = .ok (.iadd, 1) := by decide +kernel
theorem dX12_readText_124 : decode cX12_readText 124 = .ok (.aload_n 0, 1) := by decide +kernel
theorem dX12_readText_125 : decode cX12_readText 125 = .ok (.getfield 54, 3) := by decide +kernel
theorem dX12_readText_128 : decode cX12_readText 128 = .ok (.sipush 130, 3) := by decide +kernel
theorem dX12_readText_131 : decode cX12_readText 131 = .ok (.iload_n 2, 1) := by decide +kernel
theorem dX12_readText_132 : decode cX12_readText 132 = .ok (.iadd, 1) := by decide +kernel
theorem dX12_readText_133 : decode cX12_readText 133 = .ok (.baload, 1) := by decide +kernel
theorem dX12_readText_134 : decode cX12_readText 134 = .ok (.bastore, 1) := by decide +kernel
theorem dX12_readText_135 : decode cX12_readText 135 = .ok (.aload_n 0, 1) := by decide +kernel
theorem dX12_readText_136 : decode cX12_readText 136 = .ok (.getfield 57, 3) := by decide +kernel
theorem dX12_readText_139 : decode cX12_readText 139 = .ok (.sipush 130, 3) := by decide +kernel
theorem dX12_readText_142 : decode cX12_readText 142 = .ok (.iload_n 1, 1) := by decide +kernel
theorem dX12_readText_143 : decode cX12_readText 143 = .ok (.imul, 1) := by decide +kernel
theorem dX12_readText_144 : decode cX12_readText 144 = .ok (.iload_n 2, 1) := by decide +kernel
theorem dX12_readText_145 : decode cX12_readText 145 = .ok (.iadd, 1) := by decide +kernel
theorem dX12_readText_146 : decode cX12_readText 146 = .ok (.aload_n 0, 1) := by decide +kernel
theorem dX12_readText_147 : decode cX12_readText 147 = .ok (.getfield 57, 3) := by decide +kernel
theorem dX12_readText_150 : decode cX12_readText 150 = .ok (.sipush 130, 3) := by decide +kernel
theorem dX12_readText_153 : decode cX12_readText 153 = .ok (.iload_n 2, 1) := by decide +kernel
theorem dX12_readText_154 : decode cX12_readText 154 = .ok (.iadd, 1) := by decide +kernel
theorem dX12_readText_155 : decode cX12_readText 155 = .ok (.iaload, 1) := by decide +kernel
theorem dX12_readText_156 : decode cX12_readText 156 = .ok (.iastore, 1) := by decide +kernel
theorem dX12_readText_157 : decode cX12_readText 157 = .ok (.iinc 2 1, 3) := by decide +kernel
theorem dX12_readText_160 : decode cX12_readText 160 = .ok (.goto (-55), 3) := by decide +kernel
theorem dX12_readText_163 : decode cX12_readText 163 = .ok (.aload_n 0, 1) := by decide +kernel
theorem dX12_readText_164 : decode cX12_readText 164 = .ok (.getfield 60, 3) := by decide +kernel
theorem dX12_readText_167 : decode cX12_readText 167 = .ok (.iload_n 1, 1) := by decide +kernel
theorem dX12_readText_168 : decode cX12_readText 168 = .ok (.aload_n 0, 1) := by decide +kernel
theorem dX12_readText_169 : decode cX12_readText 169 = .ok (.getfield 60, 3) := by decide +kernel
theorem dX12_readText_172 : decode cX12_readText 172 = .ok (.iconst 1, 1) := by decide +kernel
theorem dX12_readText_173 : decode cX12_readText 173 = .ok (.iaload, 1) := by decide +kernel
theorem dX12_readText_174 : decode cX12_readText 174 = .ok (.iastore, 1) := by decide +kernel
theorem dX12_readText_175 : decode cX12_readText 175 = .ok (.iconst 0, 1) := by decide +kernel
theorem dX12_readText_176 : decode cX12_readText 176 = .ok (.istore_n 2, 1) := by decide +kernel
theorem dX12_readText_177 : decode cX12_readText 177 = .ok (.iload_n 2, 1) := by decide +kernel
theorem dX12_readText_178 : decode cX12_readText 178 = .ok (.aload_n 0, 1) := by decide +kernel
theorem dX12_readText_179 : decode cX12_readText 179 = .ok (.getfield 60, 3) := by decide +kernel
theorem dX12_readText_182 : decode cX12_readText 182 = .ok (.iload_n 1, 1) := by decide +kernel
theorem dX12_readText_183 : decode cX12_readText 183 = .ok (.iaload, 1) := by decide +kernel
theorem dX12_readText_184 : decode cX12_readText 184 = .ok (.if_icmp .ge 49, 3) := by decide +kernel
theorem dX12_readText_187 : decode cX12_readText 187 = .ok (.aload_n 0, 1) := by decide +kernel
theorem dX12_readText_188 : decode cX12_readText 188 = .ok (.getfield 63, 3) := by decide +kernel
theorem dX12_readText_191 : decode cX12_readText 191 = .ok (.bipush 61, 2) := by decide +kernel
theorem dX12_readText_193 : decode cX12_readText 193 = .ok (.iload_n 1, 1) := by decide +kernel
theorem dX12_readText_194 : decode cX12_readText 194 = .ok (.imul, 1) := by decide +kernel
theorem dX12_readText_195 : decode cX12_readText 195 = .ok (.iload_n 2, 1) := by decide +kernel
theorem dX12_readText_196 : decode cX12_readText 196 = .ok (.iadd, 1) := by decide +kernel
theorem dX12_readText_197 : decode cX12_readText 197 = .ok (.aload_n 0, 1) := by decide +kernel
theorem dX12_readText_198 : decode cX12_readText 198 = .ok (.getfield 63, 3) := by decide +kernel
theorem dX12_readText_201 : decode cX12_readText 201 = .ok (.bipush 61, 2) := by decide +kernel
theorem dX12_readText_203 : decode cX12_readText 203 = .ok (.iload_n 2, 1) := by decide +kernel
theorem dX12_readText_204 : decode cX12_readText 204 = .ok (.iadd, 1) := by decide +kernel
theorem dX12_readText_205 : decode cX12_readText 205 = .ok (.saload, 1) := by decide +kernel
theorem dX12_readText_206 : decode cX12_readText 206 = .ok (.sastore, 1) := by decide +kernel
theorem dX12_readText_207 : decode cX12_readText 207 = .ok (.aload_n 0, 1) := by decide +kernel
theorem dX12_readText_208 : decode cX12_readText 208 = .ok (.getfield 67, 3) := by decide +kernel
theorem dX12_readText_211 : decode cX12_readText 211 = .ok (.bipush 61, 2) := by decide +kernel
theorem dX12_readText_213 : decode cX12_readText 213 = .ok (.iload_n 1, 1) := by decide +kernel
theorem dX12_readText_214 : decode cX12_readText 214 = .ok (.imul, 1) := by decide +kernel
theorem dX12_readText_215 : decode cX12_readText 215 = .ok (.iload_n 2, 1) := by decide +kernel
theorem dX12_readText_216 : decode cX12_readText 216 = .ok (.iadd, 1) := by decide +kernel
theorem dX12_readText_217 : decode cX12_readText 217 = .ok (.aload_n 0, 1) := by decide +kernel
theorem dX12_readText_218 : decode cX12_readText 218 = .ok (.getfield 67, 3) := by decide +kernel
theorem dX12_readText_221 : decode cX12_readText 221 = .ok (.bipush 61, 2) := by decide +kernel
theorem dX12_readText_223 : decode cX12_readText 223 = .ok (.iload_n 2, 1) := by decide +kernel
theorem dX12_readText_224 : decode cX12_readText 224 = .ok (.iadd, 1) := by decide +kernel
theorem dX12_readText_225 : decode cX12_readText 225 = .ok (.saload, 1) := by decide +kernel
theorem dX12_readText_226 : decode cX12_readText 226 = .ok (.sastore, 1) := by decide +kernel
theorem dX12_readText_227 : decode cX12_readText 227 = .ok (.iinc 2 1, 3) := by decide +kernel
theorem dX12_readText_230 : decode cX12_readText 230 = .ok (.goto (-53), 3) := by decide +kernel
theorem dX12_readText_233 : decode cX12_readText 233 = .ok (.iconst (-1), 1) := by decide +kernel
theorem dX12_readText_234 : decode cX12_readText 234 = .ok (.ireturn, 1) := by decide +kernel
theorem dX12_twoOf_0 : decode cX12_twoOf 0 = .ok (.iload_n 0, 1) := by decide +kernel
theorem dX12_twoOf_1 : decode cX12_twoOf 1 = .ok (.tableswitch 217 37 62 #[153, 203, 217, 217, 217, 127, 119, 217, 123, 217, 131, 217, 217, 217, 217, 217, 217, 217, 217, 217, 217, 217, 217, 170, 181, 192], 119) := by decide +kernel
theorem dX12_twoOf_120 : decode cX12_twoOf 120 = .ok (.iload_n 1, 1) := by decide +kernel
theorem dX12_twoOf_121 : decode cX12_twoOf 121 = .ok (.iload_n 2, 1) := by decide +kernel
theorem dX12_twoOf_122 : decode cX12_twoOf 122 = .ok (.iadd, 1) := by decide +kernel
theorem dX12_twoOf_123 : decode cX12_twoOf 123 = .ok (.ireturn, 1) := by decide +kernel
theorem dX12_twoOf_124 : decode cX12_twoOf 124 = .ok (.iload_n 1, 1) := by decide +kernel
theorem dX12_twoOf_125 : decode cX12_twoOf 125 = .ok (.iload_n 2, 1) := by decide +kernel
theorem dX12_twoOf_126 : decode cX12_twoOf 126 = .ok (.isub, 1) := by decide +kernel
theorem dX12_twoOf_127 : decode cX12_twoOf 127 = .ok (.ireturn, 1) := by decide +kernel
theorem dX12_twoOf_128 : decode cX12_twoOf 128 = .ok (.iload_n 1, 1) := by decide +kernel
theorem dX12_twoOf_129 : decode cX12_twoOf 129 = .ok (.iload_n 2, 1) := by decide +kernel
theorem dX12_twoOf_130 : decode cX12_twoOf 130 = .ok (.imul, 1) := by decide +kernel
theorem dX12_twoOf_131 : decode cX12_twoOf 131 = .ok (.ireturn, 1) := by decide +kernel
theorem dX12_twoOf_132 : decode cX12_twoOf 132 = .ok (.iload_n 2, 1) := by decide +kernel
theorem dX12_twoOf_133 : decode cX12_twoOf 133 = .ok (.ifCond .ne 7, 3) := by decide +kernel
theorem dX12_twoOf_136 : decode cX12_twoOf 136 = .ok (.iconst 0, 1) := by decide +kernel
theorem dX12_twoOf_137 : decode cX12_twoOf 137 = .ok (.goto 16, 3) := by decide +kernel
theorem dX12_twoOf_140 : decode cX12_twoOf 140 = .ok (.iload_n 2, 1) := by decide +kernel
theorem dX12_twoOf_141 : decode cX12_twoOf 141 = .ok (.iconst (-1), 1) := by decide +kernel
theorem dX12_twoOf_142 : decode cX12_twoOf 142 = .ok (.if_icmp .ne 8, 3) := by decide +kernel
theorem dX12_twoOf_145 : decode cX12_twoOf 145 = .ok (.iload_n 1, 1) := by decide +kernel
theorem dX12_twoOf_146 : decode cX12_twoOf 146 = .ok (.ineg, 1) := by decide +kernel
theorem dX12_twoOf_147 : decode cX12_twoOf 147 = .ok (.goto 6, 3) := by decide +kernel
theorem dX12_twoOf_150 : decode cX12_twoOf 150 = .ok (.iload_n 1, 1) := by decide +kernel
theorem dX12_twoOf_151 : decode cX12_twoOf 151 = .ok (.iload_n 2, 1) := by decide +kernel
theorem dX12_twoOf_152 : decode cX12_twoOf 152 = .ok (.idiv, 1) := by decide +kernel
theorem dX12_twoOf_153 : decode cX12_twoOf 153 = .ok (.ireturn, 1) := by decide +kernel
theorem dX12_twoOf_154 : decode cX12_twoOf 154 = .ok (.iload_n 2, 1) := by decide +kernel
theorem dX12_twoOf_155 : decode cX12_twoOf 155 = .ok (.ifCond .eq 8, 3) := by decide +kernel
theorem dX12_twoOf_158 : decode cX12_twoOf 158 = .ok (.iload_n 2, 1) := by decide +kernel
theorem dX12_twoOf_159 : decode cX12_twoOf 159 = .ok (.iconst (-1), 1) := by decide +kernel
theorem dX12_twoOf_160 : decode cX12_twoOf 160 = .ok (.if_icmp .ne 7, 3) := by decide +kernel
theorem dX12_twoOf_163 : decode cX12_twoOf 163 = .ok (.iconst 0, 1) := by decide +kernel
theorem dX12_twoOf_164 : decode cX12_twoOf 164 = .ok (.goto 6, 3) := by decide +kernel
theorem dX12_twoOf_167 : decode cX12_twoOf 167 = .ok (.iload_n 1, 1) := by decide +kernel
theorem dX12_twoOf_168 : decode cX12_twoOf 168 = .ok (.iload_n 2, 1) := by decide +kernel
theorem dX12_twoOf_169 : decode cX12_twoOf 169 = .ok (.irem, 1) := by decide +kernel
theorem dX12_twoOf_170 : decode cX12_twoOf 170 = .ok (.ireturn, 1) := by decide +kernel
theorem dX12_twoOf_171 : decode cX12_twoOf 171 = .ok (.iload_n 1, 1) := by decide +kernel
theorem dX12_twoOf_172 : decode cX12_twoOf 172 = .ok (.iload_n 2, 1) := by decide +kernel
theorem dX12_twoOf_173 : decode cX12_twoOf 173 = .ok (.if_icmp .ge 7, 3) := by decide +kernel
theorem dX12_twoOf_176 : decode cX12_twoOf 176 = .ok (.iconst 1, 1) := by decide +kernel
theorem dX12_twoOf_177 : decode cX12_twoOf 177 = .ok (.goto 4, 3) := by decide +kernel
theorem dX12_twoOf_180 : decode cX12_twoOf 180 = .ok (.iconst 0, 1) := by decide +kernel
theorem dX12_twoOf_181 : decode cX12_twoOf 181 = .ok (.ireturn, 1) := by decide +kernel
theorem dX12_twoOf_182 : decode cX12_twoOf 182 = .ok (.iload_n 1, 1) := by decide +kernel
theorem dX12_twoOf_183 : decode cX12_twoOf 183 = .ok (.iload_n 2, 1) := by decide +kernel
theorem dX12_twoOf_184 : decode cX12_twoOf 184 = .ok (.if_icmp .ne 7, 3) := by decide +kernel
theorem dX12_twoOf_187 : decode cX12_twoOf 187 = .ok (.iconst 1, 1) := by decide +kernel
theorem dX12_twoOf_188 : decode cX12_twoOf 188 = .ok (.goto 4, 3) := by decide +kernel
theorem dX12_twoOf_191 : decode cX12_twoOf 191 = .ok (.iconst 0, 1) := by decide +kernel
theorem dX12_twoOf_192 : decode cX12_twoOf 192 = .ok (.ireturn, 1) := by decide +kernel
theorem dX12_twoOf_193 : decode cX12_twoOf 193 = .ok (.iload_n 1, 1) := by decide +kernel
theorem dX12_twoOf_194 : decode cX12_twoOf 194 = .ok (.iload_n 2, 1) := by decide +kernel
theorem dX12_twoOf_195 : decode cX12_twoOf 195 = .ok (.if_icmp .le 7, 3) := by decide +kernel
theorem dX12_twoOf_198 : decode cX12_twoOf 198 = .ok (.iconst 1, 1) := by decide +kernel
theorem dX12_twoOf_199 : decode cX12_twoOf 199 = .ok (.goto 4, 3) := by decide +kernel
theorem dX12_twoOf_202 : decode cX12_twoOf 202 = .ok (.iconst 0, 1) := by decide +kernel
theorem dX12_twoOf_203 : decode cX12_twoOf 203 = .ok (.ireturn, 1) := by decide +kernel
theorem dX12_twoOf_204 : decode cX12_twoOf 204 = .ok (.iload_n 1, 1) := by decide +kernel
theorem dX12_twoOf_205 : decode cX12_twoOf 205 = .ok (.ifCond .eq 11, 3) := by decide +kernel
theorem dX12_twoOf_208 : decode cX12_twoOf 208 = .ok (.iload_n 2, 1) := by decide +kernel
theorem dX12_twoOf_209 : decode cX12_twoOf 209 = .ok (.ifCond .eq 7, 3) := by decide +kernel
theorem dX12_twoOf_212 : decode cX12_twoOf 212 = .ok (.iconst 1, 1) := by decide +kernel
theorem dX12_twoOf_213 : decode cX12_twoOf 213 = .ok (.goto 4, 3) := by decide +kernel
theorem dX12_twoOf_216 : decode cX12_twoOf 216 = .ok (.iconst 0, 1) := by decide +kernel
theorem dX12_twoOf_217 : decode cX12_twoOf 217 = .ok (.ireturn, 1) := by decide +kernel
theorem dX12_twoOf_218 : decode cX12_twoOf 218 = .ok (.iload_n 1, 1) := by decide +kernel
theorem dX12_twoOf_219 : decode cX12_twoOf 219 = .ok (.ifCond .ne 7, 3) := by decide +kernel
theorem dX12_twoOf_222 : decode cX12_twoOf 222 = .ok (.iload_n 2, 1) := by decide +kernel
theorem dX12_twoOf_223 : decode cX12_twoOf 223 = .ok (.ifCond .eq 7, 3) := by decide +kernel
theorem dX12_twoOf_226 : decode cX12_twoOf 226 = .ok (.iconst 1, 1) := by decide +kernel
theorem dX12_twoOf_227 : decode cX12_twoOf 227 = .ok (.goto 4, 3) := by decide +kernel
theorem dX12_twoOf_230 : decode cX12_twoOf 230 = .ok (.iconst 0, 1) := by decide +kernel
theorem dX12_twoOf_231 : decode cX12_twoOf 231 = .ok (.ireturn, 1) := by decide +kernel
theorem dX12_worked_0 : decode cX12_worked 0 = .ok (.iconst 0, 1) := by decide +kernel
theorem dX12_worked_1 : decode cX12_worked 1 = .ok (.istore 4, 2) := by decide +kernel
theorem dX12_worked_3 : decode cX12_worked 3 = .ok (.sipush 130, 3) := by decide +kernel
theorem dX12_worked_6 : decode cX12_worked 6 = .ok (.iload_n 1, 1) := by decide +kernel
theorem dX12_worked_7 : decode cX12_worked 7 = .ok (.imul, 1) := by decide +kernel
theorem dX12_worked_8 : decode cX12_worked 8 = .ok (.iload_n 2, 1) := by decide +kernel
theorem dX12_worked_9 : decode cX12_worked 9 = .ok (.iadd, 1) := by decide +kernel
theorem dX12_worked_10 : decode cX12_worked 10 = .ok (.istore 5, 2) := by decide +kernel
theorem dX12_worked_12 : decode cX12_worked 12 = .ok (.iload 5, 2) := by decide +kernel
theorem dX12_worked_14 : decode cX12_worked 14 = .ok (.sipush 130, 3) := by decide +kernel
theorem dX12_worked_17 : decode cX12_worked 17 = .ok (.iload_n 1, 1) := by decide +kernel
theorem dX12_worked_18 : decode cX12_worked 18 = .ok (.imul, 1) := by decide +kernel
theorem dX12_worked_19 : decode cX12_worked 19 = .ok (.iload_n 3, 1) := by decide +kernel
theorem dX12_worked_20 : decode cX12_worked 20 = .ok (.iadd, 1) := by decide +kernel
theorem dX12_worked_21 : decode cX12_worked 21 = .ok (.if_icmp .ge 167, 3) := by decide +kernel
theorem dX12_worked_24 : decode cX12_worked 24 = .ok (.aload_n 0, 1) := by decide +kernel
theorem dX12_worked_25 : decode cX12_worked 25 = .ok (.getfield 54, 3) := by decide +kernel
theorem dX12_worked_28 : decode cX12_worked 28 = .ok (.iload 5, 2) := by decide +kernel
theorem dX12_worked_30 : decode cX12_worked 30 = .ok (.baload, 1) := by decide +kernel
theorem dX12_worked_31 : decode cX12_worked 31 = .ok (.istore 6, 2) := by decide +kernel
theorem dX12_worked_33 : decode cX12_worked 33 = .ok (.iload 6, 2) := by decide +kernel
theorem dX12_worked_35 : decode cX12_worked 35 = .ok (.iconst 1, 1) := by decide +kernel
theorem dX12_worked_36 : decode cX12_worked 36 = .ok (.if_icmp .eq 9, 3) := by decide +kernel
theorem dX12_worked_39 : decode cX12_worked 39 = .ok (.iload 6, 2) := by decide +kernel
theorem dX12_worked_41 : decode cX12_worked 41 = .ok (.iconst 2, 1) := by decide +kernel
theorem dX12_worked_42 : decode cX12_worked 42 = .ok (.if_icmp .ne 44, 3) := by decide +kernel
theorem dX12_worked_45 : decode cX12_worked 45 = .ok (.aload_n 0, 1) := by decide +kernel
theorem dX12_worked_46 : decode cX12_worked 46 = .ok (.getfield 73, 3) := by decide +kernel
theorem dX12_worked_49 : decode cX12_worked 49 = .ok (.iload 4, 2) := by decide +kernel
theorem dX12_worked_51 : decode cX12_worked 51 = .ok (.iload 6, 2) := by decide +kernel
theorem dX12_worked_53 : decode cX12_worked 53 = .ok (.iconst 1, 1) := by decide +kernel
theorem dX12_worked_54 : decode cX12_worked 54 = .ok (.if_icmp .ne 13, 3) := by decide +kernel
theorem dX12_worked_57 : decode cX12_worked 57 = .ok (.aload_n 0, 1) := by decide +kernel
theorem dX12_worked_58 : decode cX12_worked 58 = .ok (.getfield 57, 3) := by decide +kernel
theorem dX12_worked_61 : decode cX12_worked 61 = .ok (.iload 5, 2) := by decide +kernel
theorem dX12_worked_63 : decode cX12_worked 63 = .ok (.iaload, 1) := by decide +kernel
theorem dX12_worked_64 : decode cX12_worked 64 = .ok (.goto 15, 3) := by decide +kernel
theorem dX12_worked_67 : decode cX12_worked 67 = .ok (.aload_n 0, 1) := by decide +kernel
theorem dX12_worked_68 : decode cX12_worked 68 = .ok (.getfield 70, 3) := by decide +kernel
theorem dX12_worked_71 : decode cX12_worked 71 = .ok (.aload_n 0, 1) := by decide +kernel
theorem dX12_worked_72 : decode cX12_worked 72 = .ok (.getfield 57, 3) := by decide +kernel
theorem dX12_worked_75 : decode cX12_worked 75 = .ok (.iload 5, 2) := by decide +kernel
theorem dX12_worked_77 : decode cX12_worked 77 = .ok (.iaload, 1) := by decide +kernel
theorem dX12_worked_78 : decode cX12_worked 78 = .ok (.iaload, 1) := by decide +kernel
theorem dX12_worked_79 : decode cX12_worked 79 = .ok (.iastore, 1) := by decide +kernel
theorem dX12_worked_80 : decode cX12_worked 80 = .ok (.iinc 4 1, 3) := by decide +kernel
theorem dX12_worked_83 : decode cX12_worked 83 = .ok (.goto 99, 3) := by decide +kernel
theorem dX12_worked_86 : decode cX12_worked 86 = .ok (.iload 6, 2) := by decide +kernel
theorem dX12_worked_88 : decode cX12_worked 88 = .ok (.iconst 3, 1) := by decide +kernel
theorem dX12_worked_89 : decode cX12_worked 89 = .ok (.if_icmp .ne 32, 3) := by decide +kernel
theorem dX12_worked_92 : decode cX12_worked 92 = .ok (.aload_n 0, 1) := by decide +kernel
theorem dX12_worked_93 : decode cX12_worked 93 = .ok (.getfield 73, 3) := by decide +kernel
theorem dX12_worked_96 : decode cX12_worked 96 = .ok (.iload 4, 2) := by decide +kernel
theorem dX12_worked_98 : decode cX12_worked 98 = .ok (.iconst 1, 1) := by decide +kernel
theorem dX12_worked_99 : decode cX12_worked 99 = .ok (.isub, 1) := by decide +kernel
theorem dX12_worked_100 : decode cX12_worked 100 = .ok (.aload_n 0, 1) := by decide +kernel
theorem dX12_worked_101 : decode cX12_worked 101 = .ok (.getfield 73, 3) := by decide +kernel
theorem dX12_worked_104 : decode cX12_worked 104 = .ok (.iload 4, 2) := by decide +kernel
theorem dX12_worked_106 : decode cX12_worked 106 = .ok (.iconst 1, 1) := by decide +kernel
theorem dX12_worked_107 : decode cX12_worked 107 = .ok (.isub, 1) := by decide +kernel
theorem dX12_worked_108 : decode cX12_worked 108 = .ok (.iaload, 1) := by decide +kernel
theorem dX12_worked_109 : decode cX12_worked 109 = .ok (.ifCond .ne 7, 3) := by decide +kernel
theorem dX12_worked_112 : decode cX12_worked 112 = .ok (.iconst 1, 1) := by decide +kernel
theorem dX12_worked_113 : decode cX12_worked 113 = .ok (.goto 4, 3) := by decide +kernel
theorem dX12_worked_116 : decode cX12_worked 116 = .ok (.iconst 0, 1) := by decide +kernel
theorem dX12_worked_117 : decode cX12_worked 117 = .ok (.iastore, 1) := by decide +kernel
theorem dX12_worked_118 : decode cX12_worked 118 = .ok (.goto 64, 3) := by decide +kernel
theorem dX12_worked_121 : decode cX12_worked 121 = .ok (.iload 6, 2) := by decide +kernel
theorem dX12_worked_123 : decode cX12_worked 123 = .ok (.iconst 4, 1) := by decide +kernel
theorem dX12_worked_124 : decode cX12_worked 124 = .ok (.if_icmp .ne 25, 3) := by decide +kernel
theorem dX12_worked_127 : decode cX12_worked 127 = .ok (.aload_n 0, 1) := by decide +kernel
theorem dX12_worked_128 : decode cX12_worked 128 = .ok (.getfield 73, 3) := by decide +kernel
theorem dX12_worked_131 : decode cX12_worked 131 = .ok (.iload 4, 2) := by decide +kernel
theorem dX12_worked_133 : decode cX12_worked 133 = .ok (.iconst 1, 1) := by decide +kernel
theorem dX12_worked_134 : decode cX12_worked 134 = .ok (.isub, 1) := by decide +kernel
theorem dX12_worked_135 : decode cX12_worked 135 = .ok (.aload_n 0, 1) := by decide +kernel
theorem dX12_worked_136 : decode cX12_worked 136 = .ok (.getfield 73, 3) := by decide +kernel
theorem dX12_worked_139 : decode cX12_worked 139 = .ok (.iload 4, 2) := by decide +kernel
theorem dX12_worked_141 : decode cX12_worked 141 = .ok (.iconst 1, 1) := by decide +kernel
theorem dX12_worked_142 : decode cX12_worked 142 = .ok (.isub, 1) := by decide +kernel
theorem dX12_worked_143 : decode cX12_worked 143 = .ok (.iaload, 1) := by decide +kernel
theorem dX12_worked_144 : decode cX12_worked 144 = .ok (.ineg, 1) := by decide +kernel
theorem dX12_worked_145 : decode cX12_worked 145 = .ok (.iastore, 1) := by decide +kernel
theorem dX12_worked_146 : decode cX12_worked 146 = .ok (.goto 36, 3) := by decide +kernel
theorem dX12_worked_149 : decode cX12_worked 149 = .ok (.iinc 4 (-1), 3) := by decide +kernel
theorem dX12_worked_152 : decode cX12_worked 152 = .ok (.aload_n 0, 1) := by decide +kernel
theorem dX12_worked_153 : decode cX12_worked 153 = .ok (.getfield 73, 3) := by decide +kernel
theorem dX12_worked_156 : decode cX12_worked 156 = .ok (.iload 4, 2) := by decide +kernel
theorem dX12_worked_158 : decode cX12_worked 158 = .ok (.iconst 1, 1) := by decide +kernel
theorem dX12_worked_159 : decode cX12_worked 159 = .ok (.isub, 1) := by decide +kernel
theorem dX12_worked_160 : decode cX12_worked 160 = .ok (.iload 6, 2) := by decide +kernel
theorem dX12_worked_162 : decode cX12_worked 162 = .ok (.aload_n 0, 1) := by decide +kernel
theorem dX12_worked_163 : decode cX12_worked 163 = .ok (.getfield 73, 3) := by decide +kernel
theorem dX12_worked_166 : decode cX12_worked 166 = .ok (.iload 4, 2) := by decide +kernel
theorem dX12_worked_168 : decode cX12_worked 168 = .ok (.iconst 1, 1) := by decide +kernel
theorem dX12_worked_169 : decode cX12_worked 169 = .ok (.isub, 1) := by decide +kernel
theorem dX12_worked_170 : decode cX12_worked 170 = .ok (.iaload, 1) := by decide +kernel
theorem dX12_worked_171 : decode cX12_worked 171 = .ok (.aload_n 0, 1) := by decide +kernel
theorem dX12_worked_172 : decode cX12_worked 172 = .ok (.getfield 73, 3) := by decide +kernel
theorem dX12_worked_175 : decode cX12_worked 175 = .ok (.iload 4, 2) := by decide +kernel
theorem dX12_worked_177 : decode cX12_worked 177 = .ok (.iaload, 1) := by decide +kernel
theorem dX12_worked_178 : decode cX12_worked 178 = .ok (.invokestatic 235, 3) := by decide +kernel
theorem dX12_worked_181 : decode cX12_worked 181 = .ok (.iastore, 1) := by decide +kernel
theorem dX12_worked_182 : decode cX12_worked 182 = .ok (.iinc 5 1, 3) := by decide +kernel
theorem dX12_worked_185 : decode cX12_worked 185 = .ok (.goto (-173), 3) := by decide +kernel
theorem dX12_worked_188 : decode cX12_worked 188 = .ok (.aload_n 0, 1) := by decide +kernel
theorem dX12_worked_189 : decode cX12_worked 189 = .ok (.getfield 73, 3) := by decide +kernel
theorem dX12_worked_192 : decode cX12_worked 192 = .ok (.iconst 0, 1) := by decide +kernel
theorem dX12_worked_193 : decode cX12_worked 193 = .ok (.iaload, 1) := by decide +kernel
theorem dX12_worked_194 : decode cX12_worked 194 = .ok (.ireturn, 1) := by decide +kernel
theorem dX12_gives_0 : decode cX12_gives 0 = .ok (.iconst 0, 1) := by decide +kernel
theorem dX12_gives_1 : decode cX12_gives 1 = .ok (.istore_n 2, 1) := by decide +kernel
theorem dX12_gives_2 : decode cX12_gives 2 = .ok (.bipush 61, 2) := by decide +kernel
theorem dX12_gives_4 : decode cX12_gives 4 = .ok (.iload_n 1, 1) := by decide +kernel
theorem dX12_gives_5 : decode cX12_gives 5 = .ok (.imul, 1) := by decide +kernel
theorem dX12_gives_6 : decode cX12_gives 6 = .ok (.istore_n 3, 1) := by decide +kernel
theorem dX12_gives_7 : decode cX12_gives 7 = .ok (.iload_n 3, 1) := by decide +kernel
theorem dX12_gives_8 : decode cX12_gives 8 = .ok (.bipush 61, 2) := by decide +kernel
theorem dX12_gives_10 : decode cX12_gives 10 = .ok (.iload_n 1, 1) := by decide +kernel
theorem dX12_gives_11 : decode cX12_gives 11 = .ok (.imul, 1) := by decide +kernel
theorem dX12_gives_12 : decode cX12_gives 12 = .ok (.aload_n 0, 1) := by decide +kernel
theorem dX12_gives_13 : decode cX12_gives 13 = .ok (.getfield 60, 3) := by decide +kernel
theorem dX12_gives_16 : decode cX12_gives 16 = .ok (.iload_n 1, 1) := by decide +kernel
theorem dX12_gives_17 : decode cX12_gives 17 = .ok (.iaload, 1) := by decide +kernel
theorem dX12_gives_18 : decode cX12_gives 18 = .ok (.iadd, 1) := by decide +kernel
theorem dX12_gives_19 : decode cX12_gives 19 = .ok (.if_icmp .ge 59, 3) := by decide +kernel
theorem dX12_gives_22 : decode cX12_gives 22 = .ok (.aload_n 0, 1) := by decide +kernel
theorem dX12_gives_23 : decode cX12_gives 23 = .ok (.getfield 63, 3) := by decide +kernel
theorem dX12_gives_26 : decode cX12_gives 26 = .ok (.iload_n 3, 1) := by decide +kernel
theorem dX12_gives_27 : decode cX12_gives 27 = .ok (.saload, 1) := by decide +kernel
theorem dX12_gives_28 : decode cX12_gives 28 = .ok (.iload_n 2, 1) := by decide +kernel
theorem dX12_gives_29 : decode cX12_gives 29 = .ok (.if_icmp .eq 18, 3) := by decide +kernel
theorem dX12_gives_32 : decode cX12_gives 32 = .ok (.aload_n 0, 1) := by decide +kernel
theorem dX12_gives_33 : decode cX12_gives 33 = .ok (.iload_n 1, 1) := by decide +kernel
theorem dX12_gives_34 : decode cX12_gives 34 = .ok (.iload_n 2, 1) := by decide +kernel
theorem dX12_gives_35 : decode cX12_gives 35 = .ok (.aload_n 0, 1) := by decide +kernel
theorem dX12_gives_36 : decode cX12_gives 36 = .ok (.getfield 63, 3) := by decide +kernel
theorem dX12_gives_39 : decode cX12_gives 39 = .ok (.iload_n 3, 1) := by decide +kernel
theorem dX12_gives_40 : decode cX12_gives 40 = .ok (.saload, 1) := by decide +kernel
theorem dX12_gives_41 : decode cX12_gives 41 = .ok (.invokevirtual 238, 3) := by decide +kernel
theorem dX12_gives_44 : decode cX12_gives 44 = .ok (.ifCond .eq 21, 3) := by decide +kernel
theorem dX12_gives_47 : decode cX12_gives 47 = .ok (.aload_n 0, 1) := by decide +kernel
theorem dX12_gives_48 : decode cX12_gives 48 = .ok (.iload_n 1, 1) := by decide +kernel
theorem dX12_gives_49 : decode cX12_gives 49 = .ok (.aload_n 0, 1) := by decide +kernel
theorem dX12_gives_50 : decode cX12_gives 50 = .ok (.getfield 63, 3) := by decide +kernel
theorem dX12_gives_53 : decode cX12_gives 53 = .ok (.iload_n 3, 1) := by decide +kernel
theorem dX12_gives_54 : decode cX12_gives 54 = .ok (.saload, 1) := by decide +kernel
theorem dX12_gives_55 : decode cX12_gives 55 = .ok (.aload_n 0, 1) := by decide +kernel
theorem dX12_gives_56 : decode cX12_gives 56 = .ok (.getfield 67, 3) := by decide +kernel
theorem dX12_gives_59 : decode cX12_gives 59 = .ok (.iload_n 3, 1) := by decide +kernel
theorem dX12_gives_60 : decode cX12_gives 60 = .ok (.saload, 1) := by decide +kernel
theorem dX12_gives_61 : decode cX12_gives 61 = .ok (.invokevirtual 238, 3) := by decide +kernel
theorem dX12_gives_64 : decode cX12_gives 64 = .ok (.ireturn, 1) := by decide +kernel
theorem dX12_gives_65 : decode cX12_gives 65 = .ok (.aload_n 0, 1) := by decide +kernel
theorem dX12_gives_66 : decode cX12_gives 66 = .ok (.getfield 67, 3) := by decide +kernel
theorem dX12_gives_69 : decode cX12_gives 69 = .ok (.iload_n 3, 1) := by decide +kernel
theorem dX12_gives_70 : decode cX12_gives 70 = .ok (.saload, 1) := by decide +kernel
theorem dX12_gives_71 : decode cX12_gives 71 = .ok (.istore_n 2, 1) := by decide +kernel
theorem dX12_gives_72 : decode cX12_gives 72 = .ok (.iinc 3 1, 3) := by decide +kernel
theorem dX12_gives_75 : decode cX12_gives 75 = .ok (.goto (-68), 3) := by decide +kernel
theorem dX12_gives_78 : decode cX12_gives 78 = .ok (.iconst 0, 1) := by decide +kernel
theorem dX12_gives_79 : decode cX12_gives 79 = .ok (.ireturn, 1) := by decide +kernel
theorem dX12_law_0 : decode cX12_law 0 = .ok (.aload_n 0, 1) := by decide +kernel
theorem dX12_law_1 : decode cX12_law 1 = .ok (.iconst 0, 1) := by decide +kernel
theorem dX12_law_2 : decode cX12_law 2 = .ok (.invokevirtual 241, 3) := by decide +kernel
theorem dX12_law_5 : decode cX12_law 5 = .ok (.istore_n 1, 1) := by decide +kernel
theorem dX12_law_6 : decode cX12_law 6 = .ok (.iload_n 1, 1) := by decide +kernel
theorem dX12_law_7 : decode cX12_law 7 = .ok (.ifCond .lt 8, 3) := by decide +kernel
theorem dX12_law_10 : decode cX12_law 10 = .ok (.bipush (-100), 2) := by decide +kernel
theorem dX12_law_12 : decode cX12_law 12 = .ok (.iload_n 1, 1) := by decide +kernel
theorem dX12_law_13 : decode cX12_law 13 = .ok (.isub, 1) := by decide +kernel
theorem dX12_law_14 : decode cX12_law 14 = .ok (.ireturn, 1) := by decide +kernel
theorem dX12_law_15 : decode cX12_law 15 = .ok (.aload_n 0, 1) := by decide +kernel
theorem dX12_law_16 : decode cX12_law 16 = .ok (.iconst 1, 1) := by decide +kernel
theorem dX12_law_17 : decode cX12_law 17 = .ok (.putfield 244, 3) := by decide +kernel
theorem dX12_law_20 : decode cX12_law 20 = .ok (.iconst 1, 1) := by decide +kernel
theorem dX12_law_21 : decode cX12_law 21 = .ok (.ireturn, 1) := by decide +kernel
theorem dX12_bentOf_0 : decode cX12_bentOf 0 = .ok (.iload_n 2, 1) := by decide +kernel
theorem dX12_bentOf_1 : decode cX12_bentOf 1 = .ok (.bipush 9, 2) := by decide +kernel
theorem dX12_bentOf_3 : decode cX12_bentOf 3 = .ok (.if_icmp .ne 7, 3) := by decide +kernel
theorem dX12_bentOf_6 : decode cX12_bentOf 6 = .ok (.iconst 0, 1) := by decide +kernel
theorem dX12_bentOf_7 : decode cX12_bentOf 7 = .ok (.goto 23, 3) := by decide +kernel
theorem dX12_bentOf_10 : decode cX12_bentOf 10 = .ok (.aload_n 0, 1) := by decide +kernel
theorem dX12_bentOf_11 : decode cX12_bentOf 11 = .ok (.getfield 25, 3) := by decide +kernel
theorem dX12_bentOf_14 : decode cX12_bentOf 14 = .ok (.iload_n 2, 1) := by decide +kernel
theorem dX12_bentOf_15 : decode cX12_bentOf 15 = .ok (.iaload, 1) := by decide +kernel
theorem dX12_bentOf_16 : decode cX12_bentOf 16 = .ok (.iload_n 1, 1) := by decide +kernel
theorem dX12_bentOf_17 : decode cX12_bentOf 17 = .ok (.if_icmp .ne 7, 3) := by decide +kernel
theorem dX12_bentOf_20 : decode cX12_bentOf 20 = .ok (.iconst 1, 1) := by decide +kernel
theorem dX12_bentOf_21 : decode cX12_bentOf 21 = .ok (.goto 9, 3) := by decide +kernel
theorem dX12_bentOf_24 : decode cX12_bentOf 24 = .ok (.aload_n 0, 1) := by decide +kernel
theorem dX12_bentOf_25 : decode cX12_bentOf 25 = .ok (.getfield 22, 3) := by decide +kernel
theorem dX12_bentOf_28 : decode cX12_bentOf 28 = .ok (.iload_n 2, 1) := by decide +kernel
theorem dX12_bentOf_29 : decode cX12_bentOf 29 = .ok (.iaload, 1) := by decide +kernel
theorem dX12_bentOf_30 : decode cX12_bentOf 30 = .ok (.ireturn, 1) := by decide +kernel
theorem dX12_countedBy_0 : decode cX12_countedBy 0 = .ok (.iload_n 0, 1) := by decide +kernel
theorem dX12_countedBy_1 : decode cX12_countedBy 1 = .ok (.tableswitch 47 1 3 #[27, 33, 39], 27) := by decide +kernel
theorem dX12_countedBy_28 : decode cX12_countedBy 28 = .ok (.iload_n 1, 1) := by decide +kernel
theorem dX12_countedBy_29 : decode cX12_countedBy 29 = .ok (.iload_n 1, 1) := by decide +kernel
theorem dX12_countedBy_30 : decode cX12_countedBy 30 = .ok (.iconst 3, 1) := by decide +kernel
theorem dX12_countedBy_31 : decode cX12_countedBy 31 = .ok (.idiv, 1) := by decide +kernel
theorem dX12_countedBy_32 : decode cX12_countedBy 32 = .ok (.isub, 1) := by decide +kernel
theorem dX12_countedBy_33 : decode cX12_countedBy 33 = .ok (.ireturn, 1) := by decide +kernel
theorem dX12_countedBy_34 : decode cX12_countedBy 34 = .ok (.iload_n 1, 1) := by decide +kernel
theorem dX12_countedBy_35 : decode cX12_countedBy 35 = .ok (.iload_n 1, 1) := by decide +kernel
theorem dX12_countedBy_36 : decode cX12_countedBy 36 = .ok (.iconst 4, 1) := by decide +kernel
theorem dX12_countedBy_37 : decode cX12_countedBy 37 = .ok (.idiv, 1) := by decide +kernel
theorem dX12_countedBy_38 : decode cX12_countedBy 38 = .ok (.iadd, 1) := by decide +kernel
theorem dX12_countedBy_39 : decode cX12_countedBy 39 = .ok (.ireturn, 1) := by decide +kernel
theorem dX12_countedBy_40 : decode cX12_countedBy 40 = .ok (.iload_n 1, 1) := by decide +kernel
theorem dX12_countedBy_41 : decode cX12_countedBy 41 = .ok (.bipush 10, 2) := by decide +kernel
theorem dX12_countedBy_43 : decode cX12_countedBy 43 = .ok (.idiv, 1) := by decide +kernel
theorem dX12_countedBy_44 : decode cX12_countedBy 44 = .ok (.bipush 10, 2) := by decide +kernel
theorem dX12_countedBy_46 : decode cX12_countedBy 46 = .ok (.imul, 1) := by decide +kernel
theorem dX12_countedBy_47 : decode cX12_countedBy 47 = .ok (.ireturn, 1) := by decide +kernel
theorem dX12_countedBy_48 : decode cX12_countedBy 48 = .ok (.iload_n 1, 1) := by decide +kernel
theorem dX12_countedBy_49 : decode cX12_countedBy 49 = .ok (.ireturn, 1) := by decide +kernel
theorem dX12_goRound_0 : decode cX12_goRound 0 = .ok (.aload_n 0, 1) := by decide +kernel
theorem dX12_goRound_1 : decode cX12_goRound 1 = .ok (.getfield 248, 3) := by decide +kernel
theorem dX12_goRound_4 : decode cX12_goRound 4 = .ok (.aload_n 0, 1) := by decide +kernel
theorem dX12_goRound_5 : decode cX12_goRound 5 = .ok (.getfield 31, 3) := by decide +kernel
theorem dX12_goRound_8 : decode cX12_goRound 8 = .ok (.iadd, 1) := by decide +kernel
theorem dX12_goRound_9 : decode cX12_goRound 9 = .ok (.aload_n 0, 1) := by decide +kernel
theorem dX12_goRound_10 : decode cX12_goRound 10 = .ok (.getfield 16, 3) := by decide +kernel
theorem dX12_goRound_13 : decode cX12_goRound 13 = .ok (.iload_n 2, 1) := by decide +kernel
theorem dX12_goRound_14 : decode cX12_goRound 14 = .ok (.iaload, 1) := by decide +kernel
theorem dX12_goRound_15 : decode cX12_goRound 15 = .ok (.iadd, 1) := by decide +kernel
theorem dX12_goRound_16 : decode cX12_goRound 16 = .ok (.aload_n 0, 1) := by decide +kernel
theorem dX12_goRound_17 : decode cX12_goRound 17 = .ok (.getfield 13, 3) := by decide +kernel
theorem dX12_goRound_20 : decode cX12_goRound 20 = .ok (.iload_n 2, 1) := by decide +kernel
theorem dX12_goRound_21 : decode cX12_goRound 21 = .ok (.iaload, 1) := by decide +kernel
theorem dX12_goRound_22 : decode cX12_goRound 22 = .ok (.iconst 3, 1) := by decide +kernel
theorem dX12_goRound_23 : decode cX12_goRound 23 = .ok (.idiv, 1) := by decide +kernel
theorem dX12_goRound_24 : decode cX12_goRound 24 = .ok (.isub, 1) := by decide +kernel
theorem dX12_goRound_25 : decode cX12_goRound 25 = .ok (.istore 4, 2) := by decide +kernel
theorem dX12_goRound_27 : decode cX12_goRound 27 = .ok (.aload_n 0, 1) := by decide +kernel
theorem dX12_goRound_28 : decode cX12_goRound 28 = .ok (.iload 4, 2) := by decide +kernel
theorem dX12_goRound_30 : decode cX12_goRound 30 = .ok (.ifCond .ge 7, 3) := by decide +kernel
theorem dX12_goRound_33 : decode cX12_goRound 33 = .ok (.iconst 0, 1) := by decide +kernel
theorem dX12_goRound_34 : decode cX12_goRound 34 = .ok (.goto 25, 3) := by decide +kernel
theorem dX12_goRound_37 : decode cX12_goRound 37 = .ok (.iload 4, 2) := by decide +kernel
theorem dX12_goRound_39 : decode cX12_goRound 39 = .ok (.aload_n 0, 1) := by decide +kernel
theorem dX12_goRound_40 : decode cX12_goRound 40 = .ok (.getfield 19, 3) := by decide +kernel
theorem dX12_goRound_43 : decode cX12_goRound 43 = .ok (.iload_n 2, 1) := by decide +kernel
theorem dX12_goRound_44 : decode cX12_goRound 44 = .ok (.iaload, 1) := by decide +kernel
theorem dX12_goRound_45 : decode cX12_goRound 45 = .ok (.if_icmp .le 12, 3) := by decide +kernel
theorem dX12_goRound_48 : decode cX12_goRound 48 = .ok (.aload_n 0, 1) := by decide +kernel
theorem dX12_goRound_49 : decode cX12_goRound 49 = .ok (.getfield 19, 3) := by decide +kernel
theorem dX12_goRound_52 : decode cX12_goRound 52 = .ok (.iload_n 2, 1) := by decide +kernel
theorem dX12_goRound_53 : decode cX12_goRound 53 = .ok (.iaload, 1) := by decide +kernel
theorem dX12_goRound_54 : decode cX12_goRound 54 = .ok (.goto 5, 3) := by decide +kernel
theorem dX12_goRound_57 : decode cX12_goRound 57 = .ok (.iload 4, 2) := by decide +kernel
theorem dX12_goRound_59 : decode cX12_goRound 59 = .ok (.putfield 248, 3) := by decide +kernel
theorem dX12_goRound_62 : decode cX12_goRound 62 = .ok (.aload_n 0, 1) := by decide +kernel
theorem dX12_goRound_63 : decode cX12_goRound 63 = .ok (.getfield 248, 3) := by decide +kernel
theorem dX12_goRound_66 : decode cX12_goRound 66 = .ok (.aload_n 0, 1) := by decide +kernel
theorem dX12_goRound_67 : decode cX12_goRound 67 = .ok (.getfield 251, 3) := by decide +kernel
theorem dX12_goRound_70 : decode cX12_goRound 70 = .ok (.if_icmp .le 11, 3) := by decide +kernel
theorem dX12_goRound_73 : decode cX12_goRound 73 = .ok (.aload_n 0, 1) := by decide +kernel
theorem dX12_goRound_74 : decode cX12_goRound 74 = .ok (.aload_n 0, 1) := by decide +kernel
theorem dX12_goRound_75 : decode cX12_goRound 75 = .ok (.getfield 248, 3) := by decide +kernel
theorem dX12_goRound_78 : decode cX12_goRound 78 = .ok (.putfield 251, 3) := by decide +kernel
theorem dX12_goRound_81 : decode cX12_goRound 81 = .ok (.aload_n 0, 1) := by decide +kernel
theorem dX12_goRound_82 : decode cX12_goRound 82 = .ok (.getfield 7, 3) := by decide +kernel
theorem dX12_goRound_85 : decode cX12_goRound 85 = .ok (.iload_n 1, 1) := by decide +kernel
theorem dX12_goRound_86 : decode cX12_goRound 86 = .ok (.iaload, 1) := by decide +kernel
theorem dX12_goRound_87 : decode cX12_goRound 87 = .ok (.aload_n 0, 1) := by decide +kernel
theorem dX12_goRound_88 : decode cX12_goRound 88 = .ok (.getfield 248, 3) := by decide +kernel
theorem dX12_goRound_91 : decode cX12_goRound 91 = .ok (.iconst 3, 1) := by decide +kernel
theorem dX12_goRound_92 : decode cX12_goRound 92 = .ok (.idiv, 1) := by decide +kernel
theorem dX12_goRound_93 : decode cX12_goRound 93 = .ok (.iadd, 1) := by decide +kernel
theorem dX12_goRound_94 : decode cX12_goRound 94 = .ok (.iconst 1, 1) := by decide +kernel
theorem dX12_goRound_95 : decode cX12_goRound 95 = .ok (.iadd, 1) := by decide +kernel
theorem dX12_goRound_96 : decode cX12_goRound 96 = .ok (.istore 5, 2) := by decide +kernel
theorem dX12_goRound_98 : decode cX12_goRound 98 = .ok (.aload_n 0, 1) := by decide +kernel
theorem dX12_goRound_99 : decode cX12_goRound 99 = .ok (.getfield 244, 3) := by decide +kernel
theorem dX12_goRound_102 : decode cX12_goRound 102 = .ok (.ifCond .eq 71, 3) := by decide +kernel
theorem dX12_goRound_105 : decode cX12_goRound 105 = .ok (.aload_n 0, 1) := by decide +kernel
theorem dX12_goRound_106 : decode cX12_goRound 106 = .ok (.getfield 70, 3) := by decide +kernel
theorem dX12_goRound_109 : decode cX12_goRound 109 = .ok (.iconst 0, 1) := by decide +kernel
theorem dX12_goRound_110 : decode cX12_goRound 110 = .ok (.aload_n 0, 1) := by decide +kernel
theorem dX12_goRound_111 : decode cX12_goRound 111 = .ok (.getfield 248, 3) := by decide +kernel
theorem dX12_goRound_114 : decode cX12_goRound 114 = .ok (.iastore, 1) := by decide +kernel
theorem dX12_goRound_115 : decode cX12_goRound 115 = .ok (.aload_n 0, 1) := by decide +kernel
theorem dX12_goRound_116 : decode cX12_goRound 116 = .ok (.getfield 70, 3) := by decide +kernel
theorem dX12_goRound_119 : decode cX12_goRound 119 = .ok (.iconst 1, 1) := by decide +kernel
theorem dX12_goRound_120 : decode cX12_goRound 120 = .ok (.aload_n 0, 1) := by decide +kernel
theorem dX12_goRound_121 : decode cX12_goRound 121 = .ok (.getfield 7, 3) := by decide +kernel
theorem dX12_goRound_124 : decode cX12_goRound 124 = .ok (.iload_n 1, 1) := by decide +kernel
theorem dX12_goRound_125 : decode cX12_goRound 125 = .ok (.iaload, 1) := by decide +kernel
theorem dX12_goRound_126 : decode cX12_goRound 126 = .ok (.iastore, 1) := by decide +kernel
theorem dX12_goRound_127 : decode cX12_goRound 127 = .ok (.aload_n 0, 1) := by decide +kernel
theorem dX12_goRound_128 : decode cX12_goRound 128 = .ok (.getfield 70, 3) := by decide +kernel
theorem dX12_goRound_131 : decode cX12_goRound 131 = .ok (.iconst 2, 1) := by decide +kernel
theorem dX12_goRound_132 : decode cX12_goRound 132 = .ok (.aload_n 0, 1) := by decide +kernel
theorem dX12_goRound_133 : decode cX12_goRound 133 = .ok (.getfield 13, 3) := by decide +kernel
theorem dX12_goRound_136 : decode cX12_goRound 136 = .ok (.iload_n 2, 1) := by decide +kernel
theorem dX12_goRound_137 : decode cX12_goRound 137 = .ok (.iaload, 1) := by decide +kernel
theorem dX12_goRound_138 : decode cX12_goRound 138 = .ok (.iastore, 1) := by decide +kernel
theorem dX12_goRound_139 : decode cX12_goRound 139 = .ok (.aload_n 0, 1) := by decide +kernel
theorem dX12_goRound_140 : decode cX12_goRound 140 = .ok (.getfield 70, 3) := by decide +kernel
theorem dX12_goRound_143 : decode cX12_goRound 143 = .ok (.iconst 3, 1) := by decide +kernel
theorem dX12_goRound_144 : decode cX12_goRound 144 = .ok (.aload_n 0, 1) := by decide +kernel
theorem dX12_goRound_145 : decode cX12_goRound 145 = .ok (.getfield 254, 3) := by decide +kernel
theorem dX12_goRound_148 : decode cX12_goRound 148 = .ok (.iastore, 1) := by decide +kernel
theorem dX12_goRound_149 : decode cX12_goRound 149 = .ok (.aload_n 0, 1) := by decide +kernel
theorem dX12_goRound_150 : decode cX12_goRound 150 = .ok (.getfield 70, 3) := by decide +kernel
theorem dX12_goRound_153 : decode cX12_goRound 153 = .ok (.iconst 4, 1) := by decide +kernel
theorem dX12_goRound_154 : decode cX12_goRound 154 = .ok (.iload_n 3, 1) := by decide +kernel
theorem dX12_goRound_155 : decode cX12_goRound 155 = .ok (.iastore, 1) := by decide +kernel
theorem dX12_goRound_156 : decode cX12_goRound 156 = .ok (.aload_n 0, 1) := by decide +kernel
theorem dX12_goRound_157 : decode cX12_goRound 157 = .ok (.getfield 70, 3) := by decide +kernel
theorem dX12_goRound_160 : decode cX12_goRound 160 = .ok (.iconst 5, 1) := by decide +kernel
theorem dX12_goRound_161 : decode cX12_goRound 161 = .ok (.aload_n 0, 1) := by decide +kernel
theorem dX12_goRound_162 : decode cX12_goRound 162 = .ok (.getfield 31, 3) := by decide +kernel
theorem dX12_goRound_165 : decode cX12_goRound 165 = .ok (.iastore, 1) := by decide +kernel
theorem dX12_goRound_166 : decode cX12_goRound 166 = .ok (.aload_n 0, 1) := by decide +kernel
theorem dX12_goRound_167 : decode cX12_goRound 167 = .ok (.iconst 0, 1) := by decide +kernel
theorem dX12_goRound_168 : decode cX12_goRound 168 = .ok (.invokevirtual 257, 3) := by decide +kernel
theorem dX12_goRound_171 : decode cX12_goRound 171 = .ok (.istore 5, 2) := by decide +kernel
theorem dX12_goRound_173 : decode cX12_goRound 173 = .ok (.aload_n 0, 1) := by decide +kernel
theorem dX12_goRound_174 : decode cX12_goRound 174 = .ok (.dup, 1) := by decide +kernel
theorem dX12_goRound_175 : decode cX12_goRound 175 = .ok (.getfield 254, 3) := by decide +kernel
theorem dX12_goRound_178 : decode cX12_goRound 178 = .ok (.iconst 1, 1) := by decide +kernel
theorem dX12_goRound_179 : decode cX12_goRound 179 = .ok (.iadd, 1) := by decide +kernel
theorem dX12_goRound_180 : decode cX12_goRound 180 = .ok (.putfield 254, 3) := by decide +kernel
theorem dX12_goRound_183 : decode cX12_goRound 183 = .ok (.iload 5, 2) := by decide +kernel
theorem dX12_goRound_185 : decode cX12_goRound 185 = .ok (.iconst 1, 1) := by decide +kernel
theorem dX12_goRound_186 : decode cX12_goRound 186 = .ok (.if_icmp .ge 7, 3) := by decide +kernel
theorem dX12_goRound_189 : decode cX12_goRound 189 = .ok (.iconst 1, 1) := by decide +kernel
theorem dX12_goRound_190 : decode cX12_goRound 190 = .ok (.goto 17, 3) := by decide +kernel
theorem dX12_goRound_193 : decode cX12_goRound 193 = .ok (.iload 5, 2) := by decide +kernel
theorem dX12_goRound_195 : decode cX12_goRound 195 = .ok (.bipush 20, 2) := by decide +kernel
theorem dX12_goRound_197 : decode cX12_goRound 197 = .ok (.if_icmp .le 8, 3) := by decide +kernel
theorem dX12_goRound_200 : decode cX12_goRound 200 = .ok (.bipush 20, 2) := by decide +kernel
theorem dX12_goRound_202 : decode cX12_goRound 202 = .ok (.goto 5, 3) := by decide +kernel
theorem dX12_goRound_205 : decode cX12_goRound 205 = .ok (.iload 5, 2) := by decide +kernel
theorem dX12_goRound_207 : decode cX12_goRound 207 = .ok (.istore 6, 2) := by decide +kernel
theorem dX12_goRound_209 : decode cX12_goRound 209 = .ok (.aload_n 0, 1) := by decide +kernel
theorem dX12_goRound_210 : decode cX12_goRound 210 = .ok (.dup, 1) := by decide +kernel
theorem dX12_goRound_211 : decode cX12_goRound 211 = .ok (.getfield 260, 3) := by decide +kernel
theorem dX12_goRound_214 : decode cX12_goRound 214 = .ok (.iload 6, 2) := by decide +kernel
theorem dX12_goRound_216 : decode cX12_goRound 216 = .ok (.iadd, 1) := by decide +kernel
theorem dX12_goRound_217 : decode cX12_goRound 217 = .ok (.putfield 260, 3) := by decide +kernel
theorem dX12_goRound_220 : decode cX12_goRound 220 = .ok (.iload 6, 2) := by decide +kernel
theorem dX12_goRound_222 : decode cX12_goRound 222 = .ok (.ireturn, 1) := by decide +kernel
theorem dX12_isOver_0 : decode cX12_isOver 0 = .ok (.aload_n 0, 1) := by decide +kernel
theorem dX12_isOver_1 : decode cX12_isOver 1 = .ok (.getfield 254, 3) := by decide +kernel
theorem dX12_isOver_4 : decode cX12_isOver 4 = .ok (.bipush 60, 2) := by decide +kernel
theorem dX12_isOver_6 : decode cX12_isOver 6 = .ok (.if_icmp .ge 36, 3) := by decide +kernel
theorem dX12_isOver_9 : decode cX12_isOver 9 = .ok (.iload_n 1, 1) := by decide +kernel
theorem dX12_isOver_10 : decode cX12_isOver 10 = .ok (.aload_n 0, 1) := by decide +kernel
theorem dX12_isOver_11 : decode cX12_isOver 11 = .ok (.getfield 254, 3) := by decide +kernel
theorem dX12_isOver_14 : decode cX12_isOver 14 = .ok (.invokestatic 263, 3) := by decide +kernel
theorem dX12_isOver_17 : decode cX12_isOver 17 = .ok (.aload_n 0, 1) := by decide +kernel
theorem dX12_isOver_18 : decode cX12_isOver 18 = .ok (.getfield 35, 3) := by decide +kernel
theorem dX12_isOver_21 : decode cX12_isOver 21 = .ok (.if_icmp .ge 21, 3) := by decide +kernel
theorem dX12_isOver_24 : decode cX12_isOver 24 = .ok (.aload_n 0, 1) := by decide +kernel
theorem dX12_isOver_25 : decode cX12_isOver 25 = .ok (.getfield 142, 3) := by decide +kernel
theorem dX12_isOver_28 : decode cX12_isOver 28 = .ok (.ifCond .le 18, 3) := by decide +kernel
theorem dX12_isOver_31 : decode cX12_isOver 31 = .ok (.aload_n 0, 1) := by decide +kernel
theorem dX12_isOver_32 : decode cX12_isOver 32 = .ok (.getfield 260, 3) := by decide +kernel
theorem dX12_isOver_35 : decode cX12_isOver 35 = .ok (.aload_n 0, 1) := by decide +kernel
theorem dX12_isOver_36 : decode cX12_isOver 36 = .ok (.getfield 142, 3) := by decide +kernel
theorem dX12_isOver_39 : decode cX12_isOver 39 = .ok (.if_icmp .lt 7, 3) := by decide +kernel
theorem dX12_isOver_42 : decode cX12_isOver 42 = .ok (.iconst 1, 1) := by decide +kernel
theorem dX12_isOver_43 : decode cX12_isOver 43 = .ok (.goto 4, 3) := by decide +kernel
theorem dX12_isOver_46 : decode cX12_isOver 46 = .ok (.iconst 0, 1) := by decide +kernel
theorem dX12_isOver_47 : decode cX12_isOver 47 = .ok (.ireturn, 1) := by decide +kernel
theorem dX12_beginTurn_0 : decode cX12_beginTurn 0 = .ok (.aload_n 0, 1) := by decide +kernel
theorem dX12_beginTurn_1 : decode cX12_beginTurn 1 = .ok (.iconst 0, 1) := by decide +kernel
theorem dX12_beginTurn_2 : decode cX12_beginTurn 2 = .ok (.putfield 248, 3) := by decide +kernel
theorem dX12_beginTurn_5 : decode cX12_beginTurn 5 = .ok (.aload_n 0, 1) := by decide +kernel
theorem dX12_beginTurn_6 : decode cX12_beginTurn 6 = .ok (.iconst 0, 1) := by decide +kernel
theorem dX12_beginTurn_7 : decode cX12_beginTurn 7 = .ok (.putfield 254, 3) := by decide +kernel
theorem dX12_beginTurn_10 : decode cX12_beginTurn 10 = .ok (.aload_n 0, 1) := by decide +kernel
theorem dX12_beginTurn_11 : decode cX12_beginTurn 11 = .ok (.iconst 0, 1) := by decide +kernel
theorem dX12_beginTurn_12 : decode cX12_beginTurn 12 = .ok (.putfield 260, 3) := by decide +kernel
theorem dX12_beginTurn_15 : decode cX12_beginTurn 15 = .ok (.aload_n 0, 1) := by decide +kernel
theorem dX12_beginTurn_16 : decode cX12_beginTurn 16 = .ok (.iconst 0, 1) := by decide +kernel
theorem dX12_beginTurn_17 : decode cX12_beginTurn 17 = .ok (.putfield 251, 3) := by decide +kernel
theorem dX12_beginTurn_20 : decode cX12_beginTurn 20 = .ok (.return_, 1) := by decide +kernel
theorem dX12_goTurn_0 : decode cX12_goTurn 0 = .ok (.aload_n 0, 1) := by decide +kernel
theorem dX12_goTurn_1 : decode cX12_goTurn 1 = .ok (.invokevirtual 266, 3) := by decide +kernel
theorem dX12_goTurn_4 : decode cX12_goTurn 4 = .ok (.aload_n 0, 1) := by decide +kernel
theorem dX12_goTurn_5 : decode cX12_goTurn 5 = .ok (.iload_n 2, 1) := by decide +kernel
theorem dX12_goTurn_6 : decode cX12_goTurn 6 = .ok (.iload_n 3, 1) := by decide +kernel
theorem dX12_goTurn_7 : decode cX12_goTurn 7 = .ok (.invokevirtual 269, 3) := by decide +kernel
theorem dX12_goTurn_10 : decode cX12_goTurn 10 = .ok (.istore 5, 2) := by decide +kernel
theorem dX12_goTurn_12 : decode cX12_goTurn 12 = .ok (.aload_n 0, 1) := by decide +kernel
theorem dX12_goTurn_13 : decode cX12_goTurn 13 = .ok (.iload_n 1, 1) := by decide +kernel
theorem dX12_goTurn_14 : decode cX12_goTurn 14 = .ok (.iload_n 2, 1) := by decide +kernel
theorem dX12_goTurn_15 : decode cX12_goTurn 15 = .ok (.iload 4, 2) := by decide +kernel
theorem dX12_goTurn_17 : decode cX12_goTurn 17 = .ok (.invokevirtual 272, 3) := by decide +kernel
theorem dX12_goTurn_20 : decode cX12_goTurn 20 = .ok (.pop, 1) := by decide +kernel
theorem dX12_goTurn_21 : decode cX12_goTurn 21 = .ok (.aload_n 0, 1) := by decide +kernel
theorem dX12_goTurn_22 : decode cX12_goTurn 22 = .ok (.iload 5, 2) := by decide +kernel
theorem dX12_goTurn_24 : decode cX12_goTurn 24 = .ok (.invokevirtual 275, 3) := by decide +kernel
theorem dX12_goTurn_27 : decode cX12_goTurn 27 = .ok (.ifCond .eq (-15), 3) := by decide +kernel
theorem dX12_goTurn_30 : decode cX12_goTurn 30 = .ok (.return_, 1) := by decide +kernel
theorem dX12_areThree_0 : decode cX12_areThree 0 = .ok (.iload_n 1, 1) := by decide +kernel
theorem dX12_areThree_1 : decode cX12_areThree 1 = .ok (.ifCond .lt 65, 3) := by decide +kernel
theorem dX12_areThree_4 : decode cX12_areThree 4 = .ok (.iload_n 1, 1) := by decide +kernel
theorem dX12_areThree_5 : decode cX12_areThree 5 = .ok (.bipush 100, 2) := by decide +kernel
theorem dX12_areThree_7 : decode cX12_areThree 7 = .ok (.idiv, 1) := by decide +kernel
theorem dX12_areThree_8 : decode cX12_areThree 8 = .ok (.invokestatic 165, 3) := by decide +kernel
theorem dX12_areThree_11 : decode cX12_areThree 11 = .ok (.ifCond .eq 55, 3) := by decide +kernel
theorem dX12_areThree_14 : decode cX12_areThree 14 = .ok (.aload_n 0, 1) := by decide +kernel
theorem dX12_areThree_15 : decode cX12_areThree 15 = .ok (.iload_n 1, 1) := by decide +kernel
theorem dX12_areThree_16 : decode cX12_areThree 16 = .ok (.bipush 10, 2) := by decide +kernel
theorem dX12_areThree_18 : decode cX12_areThree 18 = .ok (.idiv, 1) := by decide +kernel
theorem dX12_areThree_19 : decode cX12_areThree 19 = .ok (.bipush 10, 2) := by decide +kernel
theorem dX12_areThree_21 : decode cX12_areThree 21 = .ok (.irem, 1) := by decide +kernel
theorem dX12_areThree_22 : decode cX12_areThree 22 = .ok (.invokevirtual 162, 3) := by decide +kernel
theorem dX12_areThree_25 : decode cX12_areThree 25 = .ok (.ifCond .eq 41, 3) := by decide +kernel
theorem dX12_areThree_28 : decode cX12_areThree 28 = .ok (.iload_n 1, 1) := by decide +kernel
theorem dX12_areThree_29 : decode cX12_areThree 29 = .ok (.bipush 10, 2) := by decide +kernel
theorem dX12_areThree_31 : decode cX12_areThree 31 = .ok (.irem, 1) := by decide +kernel
theorem dX12_areThree_32 : decode cX12_areThree 32 = .ok (.bipush 9, 2) := by decide +kernel
theorem dX12_areThree_34 : decode cX12_areThree 34 = .ok (.if_icmp .eq 28, 3) := by decide +kernel
theorem dX12_areThree_37 : decode cX12_areThree 37 = .ok (.aload_n 0, 1) := by decide +kernel
theorem dX12_areThree_38 : decode cX12_areThree 38 = .ok (.iload_n 1, 1) := by decide +kernel
theorem dX12_areThree_39 : decode cX12_areThree 39 = .ok (.bipush 10, 2) := by decide +kernel
theorem dX12_areThree_41 : decode cX12_areThree 41 = .ok (.irem, 1) := by decide +kernel
theorem dX12_areThree_42 : decode cX12_areThree 42 = .ok (.invokevirtual 162, 3) := by decide +kernel
theorem dX12_areThree_45 : decode cX12_areThree 45 = .ok (.ifCond .eq 21, 3) := by decide +kernel
theorem dX12_areThree_48 : decode cX12_areThree 48 = .ok (.iload_n 1, 1) := by decide +kernel
theorem dX12_areThree_49 : decode cX12_areThree 49 = .ok (.bipush 10, 2) := by decide +kernel
theorem dX12_areThree_51 : decode cX12_areThree 51 = .ok (.irem, 1) := by decide +kernel
theorem dX12_areThree_52 : decode cX12_areThree 52 = .ok (.iload_n 1, 1) := by decide +kernel
theorem dX12_areThree_53 : decode cX12_areThree 53 = .ok (.bipush 10, 2) := by decide +kernel
theorem dX12_areThree_55 : decode cX12_areThree 55 = .ok (.idiv, 1) := by decide +kernel
theorem dX12_areThree_56 : decode cX12_areThree 56 = .ok (.bipush 10, 2) := by decide +kernel
theorem dX12_areThree_58 : decode cX12_areThree 58 = .ok (.irem, 1) := by decide +kernel
theorem dX12_areThree_59 : decode cX12_areThree 59 = .ok (.if_icmp .eq 7, 3) := by decide +kernel
theorem dX12_areThree_62 : decode cX12_areThree 62 = .ok (.iconst 1, 1) := by decide +kernel
theorem dX12_areThree_63 : decode cX12_areThree 63 = .ok (.goto 4, 3) := by decide +kernel
theorem dX12_areThree_66 : decode cX12_areThree 66 = .ok (.iconst 0, 1) := by decide +kernel
theorem dX12_areThree_67 : decode cX12_areThree 67 = .ok (.ireturn, 1) := by decide +kernel
theorem dX12_areWaiting_0 : decode cX12_areWaiting 0 = .ok (.iload_n 0, 1) := by decide +kernel
theorem dX12_areWaiting_1 : decode cX12_areWaiting 1 = .ok (.iconst 0, 1) := by decide +kernel
theorem dX12_areWaiting_2 : decode cX12_areWaiting 2 = .ok (.bipush 8, 2) := by decide +kernel
theorem dX12_areWaiting_4 : decode cX12_areWaiting 4 = .ok (.invokestatic 128, 3) := by decide +kernel
theorem dX12_areWaiting_7 : decode cX12_areWaiting 7 = .ok (.ireturn, 1) := by decide +kernel
theorem dX12_turnOf_0 : decode cX12_turnOf 0 = .ok (.aload_n 0, 1) := by decide +kernel
theorem dX12_turnOf_1 : decode cX12_turnOf 1 = .ok (.iload_n 1, 1) := by decide +kernel
theorem dX12_turnOf_2 : decode cX12_turnOf 2 = .ok (.bipush 100, 2) := by decide +kernel
theorem dX12_turnOf_4 : decode cX12_turnOf 4 = .ok (.idiv, 1) := by decide +kernel
theorem dX12_turnOf_5 : decode cX12_turnOf 5 = .ok (.iload_n 1, 1) := by decide +kernel
theorem dX12_turnOf_6 : decode cX12_turnOf 6 = .ok (.bipush 10, 2) := by decide +kernel
theorem dX12_turnOf_8 : decode cX12_turnOf 8 = .ok (.idiv, 1) := by decide +kernel
theorem dX12_turnOf_9 : decode cX12_turnOf 9 = .ok (.bipush 10, 2) := by decide +kernel
theorem dX12_turnOf_11 : decode cX12_turnOf 11 = .ok (.irem, 1) := by decide +kernel
theorem dX12_turnOf_12 : decode cX12_turnOf 12 = .ok (.iload_n 1, 1) := by decide +kernel
theorem dX12_turnOf_13 : decode cX12_turnOf 13 = .ok (.bipush 10, 2) := by decide +kernel
theorem dX12_turnOf_15 : decode cX12_turnOf 15 = .ok (.irem, 1) := by decide +kernel
theorem dX12_turnOf_16 : decode cX12_turnOf 16 = .ok (.iload_n 2, 1) := by decide +kernel
theorem dX12_turnOf_17 : decode cX12_turnOf 17 = .ok (.invokevirtual 278, 3) := by decide +kernel
theorem dX12_turnOf_20 : decode cX12_turnOf 20 = .ok (.return_, 1) := by decide +kernel
theorem dX12_turn_0 : decode cX12_turn 0 = .ok (.aload_n 0, 1) := by decide +kernel
theorem dX12_turn_1 : decode cX12_turn 1 = .ok (.iload_n 1, 1) := by decide +kernel
theorem dX12_turn_2 : decode cX12_turn 2 = .ok (.invokevirtual 282, 3) := by decide +kernel
theorem dX12_turn_5 : decode cX12_turn 5 = .ok (.ifCond .eq 19, 3) := by decide +kernel
theorem dX12_turn_8 : decode cX12_turn 8 = .ok (.iload_n 2, 1) := by decide +kernel
theorem dX12_turn_9 : decode cX12_turn 9 = .ok (.invokestatic 285, 3) := by decide +kernel
theorem dX12_turn_12 : decode cX12_turn 12 = .ok (.ifCond .eq 12, 3) := by decide +kernel
theorem dX12_turn_15 : decode cX12_turn 15 = .ok (.iload_n 3, 1) := by decide +kernel
theorem dX12_turn_16 : decode cX12_turn 16 = .ok (.iconst 0, 1) := by decide +kernel
theorem dX12_turn_17 : decode cX12_turn 17 = .ok (.iconst 3, 1) := by decide +kernel
theorem dX12_turn_18 : decode cX12_turn 18 = .ok (.invokestatic 128, 3) := by decide +kernel
theorem dX12_turn_21 : decode cX12_turn 21 = .ok (.ifCond .ne 5, 3) := by decide +kernel
theorem dX12_turn_24 : decode cX12_turn 24 = .ok (.iconst (-1), 1) := by decide +kernel
theorem dX12_turn_25 : decode cX12_turn 25 = .ok (.ireturn, 1) := by decide +kernel
theorem dX12_turn_26 : decode cX12_turn 26 = .ok (.aload_n 0, 1) := by decide +kernel
theorem dX12_turn_27 : decode cX12_turn 27 = .ok (.iload_n 1, 1) := by decide +kernel
theorem dX12_turn_28 : decode cX12_turn 28 = .ok (.iload_n 2, 1) := by decide +kernel
theorem dX12_turn_29 : decode cX12_turn 29 = .ok (.invokevirtual 288, 3) := by decide +kernel
theorem dX12_turn_32 : decode cX12_turn 32 = .ok (.iload_n 3, 1) := by decide +kernel
theorem dX12_turn_33 : decode cX12_turn 33 = .ok (.tableswitch 42 0 2 #[27, 32, 37], 27) := by decide +kernel
theorem dX12_turn_60 : decode cX12_turn 60 = .ok (.aload_n 0, 1) := by decide +kernel
theorem dX12_turn_61 : decode cX12_turn 61 = .ok (.getfield 254, 3) := by decide +kernel
theorem dX12_turn_64 : decode cX12_turn 64 = .ok (.ireturn, 1) := by decide +kernel
theorem dX12_turn_65 : decode cX12_turn 65 = .ok (.aload_n 0, 1) := by decide +kernel
theorem dX12_turn_66 : decode cX12_turn 66 = .ok (.getfield 260, 3) := by decide +kernel
theorem dX12_turn_69 : decode cX12_turn 69 = .ok (.ireturn, 1) := by decide +kernel
theorem dX12_turn_70 : decode cX12_turn 70 = .ok (.aload_n 0, 1) := by decide +kernel
theorem dX12_turn_71 : decode cX12_turn 71 = .ok (.getfield 251, 3) := by decide +kernel
theorem dX12_turn_74 : decode cX12_turn 74 = .ok (.ireturn, 1) := by decide +kernel
theorem dX12_turn_75 : decode cX12_turn 75 = .ok (.aload_n 0, 1) := by decide +kernel
theorem dX12_turn_76 : decode cX12_turn 76 = .ok (.iload_n 1, 1) := by decide +kernel
theorem dX12_turn_77 : decode cX12_turn 77 = .ok (.bipush 10, 2) := by decide +kernel
theorem dX12_turn_79 : decode cX12_turn 79 = .ok (.idiv, 1) := by decide +kernel
theorem dX12_turn_80 : decode cX12_turn 80 = .ok (.bipush 10, 2) := by decide +kernel
theorem dX12_turn_82 : decode cX12_turn 82 = .ok (.irem, 1) := by decide +kernel
theorem dX12_turn_83 : decode cX12_turn 83 = .ok (.iload_n 1, 1) := by decide +kernel
theorem dX12_turn_84 : decode cX12_turn 84 = .ok (.bipush 10, 2) := by decide +kernel
theorem dX12_turn_86 : decode cX12_turn 86 = .ok (.irem, 1) := by decide +kernel
theorem dX12_turn_87 : decode cX12_turn 87 = .ok (.invokevirtual 269, 3) := by decide +kernel
theorem dX12_turn_90 : decode cX12_turn 90 = .ok (.aload_n 0, 1) := by decide +kernel
theorem dX12_turn_91 : decode cX12_turn 91 = .ok (.getfield 254, 3) := by decide +kernel
theorem dX12_turn_94 : decode cX12_turn 94 = .ok (.invokestatic 263, 3) := by decide +kernel
theorem dX12_turn_97 : decode cX12_turn 97 = .ok (.ireturn, 1) := by decide +kernel
theorem dX12_longest_0 : decode cX12_longest 0 = .ok (.aload_n 0, 1) := by decide +kernel
theorem dX12_longest_1 : decode cX12_longest 1 = .ok (.iload_n 1, 1) := by decide +kernel
theorem dX12_longest_2 : decode cX12_longest 2 = .ok (.invokevirtual 282, 3) := by decide +kernel
theorem dX12_longest_5 : decode cX12_longest 5 = .ok (.ifCond .eq 10, 3) := by decide +kernel
theorem dX12_longest_8 : decode cX12_longest 8 = .ok (.iload_n 2, 1) := by decide +kernel
theorem dX12_longest_9 : decode cX12_longest 9 = .ok (.invokestatic 285, 3) := by decide +kernel
theorem dX12_longest_12 : decode cX12_longest 12 = .ok (.ifCond .ne 5, 3) := by decide +kernel
theorem dX12_longest_15 : decode cX12_longest 15 = .ok (.iconst (-1), 1) := by decide +kernel
theorem dX12_longest_16 : decode cX12_longest 16 = .ok (.ireturn, 1) := by decide +kernel
theorem dX12_longest_17 : decode cX12_longest 17 = .ok (.iload_n 1, 1) := by decide +kernel
theorem dX12_longest_18 : decode cX12_longest 18 = .ok (.bipush 10, 2) := by decide +kernel
theorem dX12_longest_20 : decode cX12_longest 20 = .ok (.idiv, 1) := by decide +kernel
theorem dX12_longest_21 : decode cX12_longest 21 = .ok (.bipush 10, 2) := by decide +kernel
theorem dX12_longest_23 : decode cX12_longest 23 = .ok (.irem, 1) := by decide +kernel
theorem dX12_longest_24 : decode cX12_longest 24 = .ok (.istore_n 3, 1) := by decide +kernel
theorem dX12_longest_25 : decode cX12_longest 25 = .ok (.aload_n 0, 1) := by decide +kernel
theorem dX12_longest_26 : decode cX12_longest 26 = .ok (.getfield 19, 3) := by decide +kernel
theorem dX12_longest_29 : decode cX12_longest 29 = .ok (.iload_n 3, 1) := by decide +kernel
theorem dX12_longest_30 : decode cX12_longest 30 = .ok (.iaload, 1) := by decide +kernel
theorem dX12_longest_31 : decode cX12_longest 31 = .ok (.istore 4, 2) := by decide +kernel
theorem dX12_longest_33 : decode cX12_longest 33 = .ok (.iconst 0, 1) := by decide +kernel
theorem dX12_longest_34 : decode cX12_longest 34 = .ok (.istore 5, 2) := by decide +kernel
theorem dX12_longest_36 : decode cX12_longest 36 = .ok (.iconst (-1), 1) := by decide +kernel
theorem dX12_longest_37 : decode cX12_longest 37 = .ok (.istore 6, 2) := by decide +kernel
theorem dX12_longest_39 : decode cX12_longest 39 = .ok (.iconst 0, 1) := by decide +kernel
theorem dX12_longest_40 : decode cX12_longest 40 = .ok (.istore 7, 2) := by decide +kernel
theorem dX12_longest_42 : decode cX12_longest 42 = .ok (.iload 7, 2) := by decide +kernel
theorem dX12_longest_44 : decode cX12_longest 44 = .ok (.bipush 9, 2) := by decide +kernel
theorem dX12_longest_46 : decode cX12_longest 46 = .ok (.if_icmp .gt 45, 3) := by decide +kernel
theorem dX12_longest_49 : decode cX12_longest 49 = .ok (.aload_n 0, 1) := by decide +kernel
theorem dX12_longest_50 : decode cX12_longest 50 = .ok (.getfield 19, 3) := by decide +kernel
theorem dX12_longest_53 : decode cX12_longest 53 = .ok (.iload_n 3, 1) := by decide +kernel
theorem dX12_longest_54 : decode cX12_longest 54 = .ok (.iload 7, 2) := by decide +kernel
theorem dX12_longest_56 : decode cX12_longest 56 = .ok (.iastore, 1) := by decide +kernel
theorem dX12_longest_57 : decode cX12_longest 57 = .ok (.aload_n 0, 1) := by decide +kernel
theorem dX12_longest_58 : decode cX12_longest 58 = .ok (.iload_n 1, 1) := by decide +kernel
theorem dX12_longest_59 : decode cX12_longest 59 = .ok (.iload_n 2, 1) := by decide +kernel
theorem dX12_longest_60 : decode cX12_longest 60 = .ok (.invokevirtual 288, 3) := by decide +kernel
theorem dX12_longest_63 : decode cX12_longest 63 = .ok (.aload_n 0, 1) := by decide +kernel
theorem dX12_longest_64 : decode cX12_longest 64 = .ok (.getfield 260, 3) := by decide +kernel
theorem dX12_longest_67 : decode cX12_longest 67 = .ok (.iload 6, 2) := by decide +kernel
theorem dX12_longest_69 : decode cX12_longest 69 = .ok (.if_icmp .gt 6, 3) := by decide +kernel
theorem dX12_longest_72 : decode cX12_longest 72 = .ok (.goto 13, 3) := by decide +kernel
theorem dX12_longest_75 : decode cX12_longest 75 = .ok (.aload_n 0, 1) := by decide +kernel
theorem dX12_longest_76 : decode cX12_longest 76 = .ok (.getfield 260, 3) := by decide +kernel
theorem dX12_longest_79 : decode cX12_longest 79 = .ok (.istore 6, 2) := by decide +kernel
theorem dX12_longest_81 : decode cX12_longest 81 = .ok (.iload 7, 2) := by decide +kernel
theorem dX12_longest_83 : decode cX12_longest 83 = .ok (.istore 5, 2) := by decide +kernel
theorem dX12_longest_85 : decode cX12_longest 85 = .ok (.iinc 7 1, 3) := by decide +kernel
theorem dX12_longest_88 : decode cX12_longest 88 = .ok (.goto (-46), 3) := by decide +kernel
theorem dX12_longest_91 : decode cX12_longest 91 = .ok (.aload_n 0, 1) := by decide +kernel
theorem dX12_longest_92 : decode cX12_longest 92 = .ok (.getfield 19, 3) := by decide +kernel
theorem dX12_longest_95 : decode cX12_longest 95 = .ok (.iload_n 3, 1) := by decide +kernel
theorem dX12_longest_96 : decode cX12_longest 96 = .ok (.iload 4, 2) := by decide +kernel
theorem dX12_longest_98 : decode cX12_longest 98 = .ok (.iastore, 1) := by decide +kernel
theorem dX12_longest_99 : decode cX12_longest 99 = .ok (.iload 5, 2) := by decide +kernel
theorem dX12_longest_101 : decode cX12_longest 101 = .ok (.ireturn, 1) := by decide +kernel
theorem dX12_counter_0 : decode cX12_counter 0 = .ok (.aload_n 0, 1) := by decide +kernel
theorem dX12_counter_1 : decode cX12_counter 1 = .ok (.iload_n 1, 1) := by decide +kernel
theorem dX12_counter_2 : decode cX12_counter 2 = .ok (.invokevirtual 282, 3) := by decide +kernel
theorem dX12_counter_5 : decode cX12_counter 5 = .ok (.ifCond .eq 10, 3) := by decide +kernel
theorem dX12_counter_8 : decode cX12_counter 8 = .ok (.iload_n 2, 1) := by decide +kernel
theorem dX12_counter_9 : decode cX12_counter 9 = .ok (.invokestatic 285, 3) := by decide +kernel
theorem dX12_counter_12 : decode cX12_counter 12 = .ok (.ifCond .ne 5, 3) := by decide +kernel
theorem dX12_counter_15 : decode cX12_counter 15 = .ok (.iconst (-1), 1) := by decide +kernel
theorem dX12_counter_16 : decode cX12_counter 16 = .ok (.ireturn, 1) := by decide +kernel
theorem dX12_counter_17 : decode cX12_counter 17 = .ok (.iconst (-1), 1) := by decide +kernel
theorem dX12_counter_18 : decode cX12_counter 18 = .ok (.istore_n 3, 1) := by decide +kernel
theorem dX12_counter_19 : decode cX12_counter 19 = .ok (.iconst (-1), 1) := by decide +kernel
theorem dX12_counter_20 : decode cX12_counter 20 = .ok (.istore 4, 2) := by decide +kernel
theorem dX12_counter_22 : decode cX12_counter 22 = .ok (.iconst 0, 1) := by decide +kernel
theorem dX12_counter_23 : decode cX12_counter 23 = .ok (.istore 5, 2) := by decide +kernel
theorem dX12_counter_25 : decode cX12_counter 25 = .ok (.iload 5, 2) := by decide +kernel
theorem dX12_counter_27 : decode cX12_counter 27 = .ok (.bipush 9, 2) := by decide +kernel
theorem dX12_counter_29 : decode cX12_counter 29 = .ok (.if_icmp .gt 79, 3) := by decide +kernel
theorem dX12_counter_32 : decode cX12_counter 32 = .ok (.iload 5, 2) := by decide +kernel
theorem dX12_counter_34 : decode cX12_counter 34 = .ok (.bipush 9, 2) := by decide +kernel
theorem dX12_counter_36 : decode cX12_counter 36 = .ok (.if_icmp .eq 12, 3) := by decide +kernel
theorem dX12_counter_39 : decode cX12_counter 39 = .ok (.aload_n 0, 1) := by decide +kernel
theorem dX12_counter_40 : decode cX12_counter 40 = .ok (.iload 5, 2) := by decide +kernel
theorem dX12_counter_42 : decode cX12_counter 42 = .ok (.invokevirtual 162, 3) := by decide +kernel
theorem dX12_counter_45 : decode cX12_counter 45 = .ok (.ifCond .eq 57, 3) := by decide +kernel
theorem dX12_counter_48 : decode cX12_counter 48 = .ok (.iload 5, 2) := by decide +kernel
theorem dX12_counter_50 : decode cX12_counter 50 = .ok (.iload_n 1, 1) := by decide +kernel
theorem dX12_counter_51 : decode cX12_counter 51 = .ok (.bipush 10, 2) := by decide +kernel
theorem dX12_counter_53 : decode cX12_counter 53 = .ok (.idiv, 1) := by decide +kernel
theorem dX12_counter_54 : decode cX12_counter 54 = .ok (.bipush 10, 2) := by decide +kernel
theorem dX12_counter_56 : decode cX12_counter 56 = .ok (.irem, 1) := by decide +kernel
theorem dX12_counter_57 : decode cX12_counter 57 = .ok (.if_icmp .ne 6, 3) := by decide +kernel
theorem dX12_counter_60 : decode cX12_counter 60 = .ok (.goto 42, 3) := by decide +kernel
theorem dX12_counter_63 : decode cX12_counter 63 = .ok (.aload_n 0, 1) := by decide +kernel
theorem dX12_counter_64 : decode cX12_counter 64 = .ok (.iload_n 1, 1) := by decide +kernel
theorem dX12_counter_65 : decode cX12_counter 65 = .ok (.bipush 100, 2) := by decide +kernel
theorem dX12_counter_67 : decode cX12_counter 67 = .ok (.idiv, 1) := by decide +kernel
theorem dX12_counter_68 : decode cX12_counter 68 = .ok (.iload_n 1, 1) := by decide +kernel
theorem dX12_counter_69 : decode cX12_counter 69 = .ok (.bipush 10, 2) := by decide +kernel
theorem dX12_counter_71 : decode cX12_counter 71 = .ok (.idiv, 1) := by decide +kernel
theorem dX12_counter_72 : decode cX12_counter 72 = .ok (.bipush 10, 2) := by decide +kernel
theorem dX12_counter_74 : decode cX12_counter 74 = .ok (.irem, 1) := by decide +kernel
theorem dX12_counter_75 : decode cX12_counter 75 = .ok (.iload 5, 2) := by decide +kernel
theorem dX12_counter_77 : decode cX12_counter 77 = .ok (.iload_n 2, 1) := by decide +kernel
theorem dX12_counter_78 : decode cX12_counter 78 = .ok (.invokevirtual 278, 3) := by decide +kernel
theorem dX12_counter_81 : decode cX12_counter 81 = .ok (.aload_n 0, 1) := by decide +kernel
theorem dX12_counter_82 : decode cX12_counter 82 = .ok (.getfield 260, 3) := by decide +kernel
theorem dX12_counter_85 : decode cX12_counter 85 = .ok (.iload 4, 2) := by decide +kernel
theorem dX12_counter_87 : decode cX12_counter 87 = .ok (.if_icmp .gt 6, 3) := by decide +kernel
theorem dX12_counter_90 : decode cX12_counter 90 = .ok (.goto 12, 3) := by decide +kernel
theorem dX12_counter_93 : decode cX12_counter 93 = .ok (.aload_n 0, 1) := by decide +kernel
theorem dX12_counter_94 : decode cX12_counter 94 = .ok (.getfield 260, 3) := by decide +kernel
theorem dX12_counter_97 : decode cX12_counter 97 = .ok (.istore 4, 2) := by decide +kernel
theorem dX12_counter_99 : decode cX12_counter 99 = .ok (.iload 5, 2) := by decide +kernel
theorem dX12_counter_101 : decode cX12_counter 101 = .ok (.istore_n 3, 1) := by decide +kernel
theorem dX12_counter_102 : decode cX12_counter 102 = .ok (.iinc 5 1, 3) := by decide +kernel
theorem dX12_counter_105 : decode cX12_counter 105 = .ok (.goto (-80), 3) := by decide +kernel
theorem dX12_counter_108 : decode cX12_counter 108 = .ok (.iload_n 3, 1) := by decide +kernel
theorem dX12_counter_109 : decode cX12_counter 109 = .ok (.ireturn, 1) := by decide +kernel
theorem dX12_unfair_0 : decode cX12_unfair 0 = .ok (.aload_n 0, 1) := by decide +kernel
theorem dX12_unfair_1 : decode cX12_unfair 1 = .ok (.iload_n 1, 1) := by decide +kernel
theorem dX12_unfair_2 : decode cX12_unfair 2 = .ok (.invokevirtual 282, 3) := by decide +kernel
theorem dX12_unfair_5 : decode cX12_unfair 5 = .ok (.ifCond .eq 10, 3) := by decide +kernel
theorem dX12_unfair_8 : decode cX12_unfair 8 = .ok (.iload_n 2, 1) := by decide +kernel
theorem dX12_unfair_9 : decode cX12_unfair 9 = .ok (.invokestatic 285, 3) := by decide +kernel
theorem dX12_unfair_12 : decode cX12_unfair 12 = .ok (.ifCond .ne 7, 3) := by decide +kernel
theorem dX12_unfair_15 : decode cX12_unfair 15 = .ok (.ldc_w 291, 3) := by decide +kernel
theorem dX12_unfair_18 : decode cX12_unfair 18 = .ok (.ireturn, 1) := by decide +kernel
theorem dX12_unfair_19 : decode cX12_unfair 19 = .ok (.aload_n 0, 1) := by decide +kernel
theorem dX12_unfair_20 : decode cX12_unfair 20 = .ok (.iload_n 1, 1) := by decide +kernel
theorem dX12_unfair_21 : decode cX12_unfair 21 = .ok (.iload_n 2, 1) := by decide +kernel
theorem dX12_unfair_22 : decode cX12_unfair 22 = .ok (.invokevirtual 288, 3) := by decide +kernel
theorem dX12_unfair_25 : decode cX12_unfair 25 = .ok (.aload_n 0, 1) := by decide +kernel
theorem dX12_unfair_26 : decode cX12_unfair 26 = .ok (.getfield 254, 3) := by decide +kernel
theorem dX12_unfair_29 : decode cX12_unfair 29 = .ok (.aload_n 0, 1) := by decide +kernel
theorem dX12_unfair_30 : decode cX12_unfair 30 = .ok (.getfield 35, 3) := by decide +kernel
theorem dX12_unfair_33 : decode cX12_unfair 33 = .ok (.isub, 1) := by decide +kernel
theorem dX12_unfair_34 : decode cX12_unfair 34 = .ok (.ireturn, 1) := by decide +kernel
theorem dX12_layLine_0 : decode cX12_layLine 0 = .ok (.aload_n 0, 1) := by decide +kernel
theorem dX12_layLine_1 : decode cX12_layLine 1 = .ok (.iconst 0, 1) := by decide +kernel
theorem dX12_layLine_2 : decode cX12_layLine 2 = .ok (.putfield 292, 3) := by decide +kernel
theorem dX12_layLine_5 : decode cX12_layLine 5 = .ok (.iconst 0, 1) := by decide +kernel
theorem dX12_layLine_6 : decode cX12_layLine 6 = .ok (.istore_n 2, 1) := by decide +kernel
theorem dX12_layLine_7 : decode cX12_layLine 7 = .ok (.iload_n 2, 1) := by decide +kernel
theorem dX12_layLine_8 : decode cX12_layLine 8 = .ok (.aload_n 0, 1) := by decide +kernel
theorem dX12_layLine_9 : decode cX12_layLine 9 = .ok (.getfield 125, 3) := by decide +kernel
theorem dX12_layLine_12 : decode cX12_layLine 12 = .ok (.if_icmp .ge 42, 3) := by decide +kernel
theorem dX12_layLine_15 : decode cX12_layLine 15 = .ok (.aload_n 0, 1) := by decide +kernel
theorem dX12_layLine_16 : decode cX12_layLine 16 = .ok (.getfield 28, 3) := by decide +kernel
theorem dX12_layLine_19 : decode cX12_layLine 19 = .ok (.iload_n 2, 1) := by decide +kernel
theorem dX12_layLine_20 : decode cX12_layLine 20 = .ok (.iaload, 1) := by decide +kernel
theorem dX12_layLine_21 : decode cX12_layLine 21 = .ok (.iload_n 1, 1) := by decide +kernel
theorem dX12_layLine_22 : decode cX12_layLine 22 = .ok (.if_icmp .eq 6, 3) := by decide +kernel
theorem dX12_layLine_25 : decode cX12_layLine 25 = .ok (.goto 23, 3) := by decide +kernel
theorem dX12_layLine_28 : decode cX12_layLine 28 = .ok (.aload_n 0, 1) := by decide +kernel
theorem dX12_layLine_29 : decode cX12_layLine 29 = .ok (.getfield 88, 3) := by decide +kernel
theorem dX12_layLine_32 : decode cX12_layLine 32 = .ok (.aload_n 0, 1) := by decide +kernel
theorem dX12_layLine_33 : decode cX12_layLine 33 = .ok (.getfield 292, 3) := by decide +kernel
theorem dX12_layLine_36 : decode cX12_layLine 36 = .ok (.iload_n 2, 1) := by decide +kernel
theorem dX12_layLine_37 : decode cX12_layLine 37 = .ok (.iastore, 1) := by decide +kernel
theorem dX12_layLine_38 : decode cX12_layLine 38 = .ok (.aload_n 0, 1) := by decide +kernel
theorem dX12_layLine_39 : decode cX12_layLine 39 = .ok (.dup, 1) := by decide +kernel
theorem dX12_layLine_40 : decode cX12_layLine 40 = .ok (.getfield 292, 3) := by decide +kernel
theorem dX12_layLine_43 : decode cX12_layLine 43 = .ok (.iconst 1, 1) := by decide +kernel
theorem dX12_layLine_44 : decode cX12_layLine 44 = .ok (.iadd, 1) := by decide +kernel
theorem dX12_layLine_45 : decode cX12_layLine 45 = .ok (.putfield 292, 3) := by decide +kernel
theorem dX12_layLine_48 : decode cX12_layLine 48 = .ok (.iinc 2 1, 3) := by decide +kernel
theorem dX12_layLine_51 : decode cX12_layLine 51 = .ok (.goto (-44), 3) := by decide +kernel
theorem dX12_layLine_54 : decode cX12_layLine 54 = .ok (.return_, 1) := by decide +kernel
theorem dX12_beginAfternoon_0 : decode cX12_beginAfternoon 0 = .ok (.iconst 0, 1) := by decide +kernel
theorem dX12_beginAfternoon_1 : decode cX12_beginAfternoon 1 = .ok (.istore_n 1, 1) := by decide +kernel
theorem dX12_beginAfternoon_2 : decode cX12_beginAfternoon 2 = .ok (.iload_n 1, 1) := by decide +kernel
theorem dX12_beginAfternoon_3 : decode cX12_beginAfternoon 3 = .ok (.bipush 9, 2) := by decide +kernel
theorem dX12_beginAfternoon_5 : decode cX12_beginAfternoon 5 = .ok (.if_icmp .ge 31, 3) := by decide +kernel
theorem dX12_beginAfternoon_8 : decode cX12_beginAfternoon 8 = .ok (.aload_n 0, 1) := by decide +kernel
theorem dX12_beginAfternoon_9 : decode cX12_beginAfternoon 9 = .ok (.getfield 76, 3) := by decide +kernel
theorem dX12_beginAfternoon_12 : decode cX12_beginAfternoon 12 = .ok (.iload_n 1, 1) := by decide +kernel
theorem dX12_beginAfternoon_13 : decode cX12_beginAfternoon 13 = .ok (.iconst 0, 1) := by decide +kernel
theorem dX12_beginAfternoon_14 : decode cX12_beginAfternoon 14 = .ok (.iastore, 1) := by decide +kernel
theorem dX12_beginAfternoon_15 : decode cX12_beginAfternoon 15 = .ok (.aload_n 0, 1) := by decide +kernel
theorem dX12_beginAfternoon_16 : decode cX12_beginAfternoon 16 = .ok (.getfield 79, 3) := by decide +kernel
theorem dX12_beginAfternoon_19 : decode cX12_beginAfternoon 19 = .ok (.iload_n 1, 1) := by decide +kernel
theorem dX12_beginAfternoon_20 : decode cX12_beginAfternoon 20 = .ok (.bipush (-2), 2) := by decide +kernel
theorem dX12_beginAfternoon_22 : decode cX12_beginAfternoon 22 = .ok (.iastore, 1) := by decide +kernel
theorem dX12_beginAfternoon_23 : decode cX12_beginAfternoon 23 = .ok (.aload_n 0, 1) := by decide +kernel
theorem dX12_beginAfternoon_24 : decode cX12_beginAfternoon 24 = .ok (.getfield 82, 3) := by decide +kernel
theorem dX12_beginAfternoon_27 : decode cX12_beginAfternoon 27 = .ok (.iload_n 1, 1) := by decide +kernel
theorem dX12_beginAfternoon_28 : decode cX12_beginAfternoon 28 = .ok (.iconst 0, 1) := by decide +kernel
theorem dX12_beginAfternoon_29 : decode cX12_beginAfternoon 29 = .ok (.iastore, 1) := by decide +kernel
theorem dX12_beginAfternoon_30 : decode cX12_beginAfternoon 30 = .ok (.iinc 1 1, 3) := by decide +kernel
theorem dX12_beginAfternoon_33 : decode cX12_beginAfternoon 33 = .ok (.goto (-31), 3) := by decide +kernel
theorem dX12_beginAfternoon_36 : decode cX12_beginAfternoon 36 = .ok (.iconst 0, 1) := by decide +kernel
theorem dX12_beginAfternoon_37 : decode cX12_beginAfternoon 37 = .ok (.istore_n 1, 1) := by decide +kernel
theorem dX12_beginAfternoon_38 : decode cX12_beginAfternoon 38 = .ok (.iload_n 1, 1) := by decide +kernel
theorem dX12_beginAfternoon_39 : decode cX12_beginAfternoon 39 = .ok (.iconst 3, 1) := by decide +kernel
theorem dX12_beginAfternoon_40 : decode cX12_beginAfternoon 40 = .ok (.if_icmp .ge 16, 3) := by decide +kernel
theorem dX12_beginAfternoon_43 : decode cX12_beginAfternoon 43 = .ok (.aload_n 0, 1) := by decide +kernel
theorem dX12_beginAfternoon_44 : decode cX12_beginAfternoon 44 = .ok (.getfield 85, 3) := by decide +kernel
theorem dX12_beginAfternoon_47 : decode cX12_beginAfternoon 47 = .ok (.iload_n 1, 1) := by decide +kernel
theorem dX12_beginAfternoon_48 : decode cX12_beginAfternoon 48 = .ok (.iconst 0, 1) := by decide +kernel
theorem dX12_beginAfternoon_49 : decode cX12_beginAfternoon 49 = .ok (.iastore, 1) := by decide +kernel
theorem dX12_beginAfternoon_50 : decode cX12_beginAfternoon 50 = .ok (.iinc 1 1, 3) := by decide +kernel
theorem dX12_beginAfternoon_53 : decode cX12_beginAfternoon 53 = .ok (.goto (-15), 3) := by decide +kernel
theorem dX12_beginAfternoon_56 : decode cX12_beginAfternoon 56 = .ok (.return_, 1) := by decide +kernel
theorem dX12_toEnd_0 : decode cX12_toEnd 0 = .ok (.aload_n 0, 1) := by decide +kernel
theorem dX12_toEnd_1 : decode cX12_toEnd 1 = .ok (.getfield 88, 3) := by decide +kernel
theorem dX12_toEnd_4 : decode cX12_toEnd 4 = .ok (.iload_n 1, 1) := by decide +kernel
theorem dX12_toEnd_5 : decode cX12_toEnd 5 = .ok (.iaload, 1) := by decide +kernel
theorem dX12_toEnd_6 : decode cX12_toEnd 6 = .ok (.istore_n 2, 1) := by decide +kernel
theorem dX12_toEnd_7 : decode cX12_toEnd 7 = .ok (.iload_n 1, 1) := by decide +kernel
theorem dX12_toEnd_8 : decode cX12_toEnd 8 = .ok (.istore_n 3, 1) := by decide +kernel
theorem dX12_toEnd_9 : decode cX12_toEnd 9 = .ok (.iload_n 3, 1) := by decide +kernel
theorem dX12_toEnd_10 : decode cX12_toEnd 10 = .ok (.iconst 1, 1) := by decide +kernel
theorem dX12_toEnd_11 : decode cX12_toEnd 11 = .ok (.iadd, 1) := by decide +kernel
theorem dX12_toEnd_12 : decode cX12_toEnd 12 = .ok (.aload_n 0, 1) := by decide +kernel
theorem dX12_toEnd_13 : decode cX12_toEnd 13 = .ok (.getfield 292, 3) := by decide +kernel
theorem dX12_toEnd_16 : decode cX12_toEnd 16 = .ok (.if_icmp .ge 23, 3) := by decide +kernel
theorem dX12_toEnd_19 : decode cX12_toEnd 19 = .ok (.aload_n 0, 1) := by decide +kernel
theorem dX12_toEnd_20 : decode cX12_toEnd 20 = .ok (.getfield 88, 3) := by decide +kernel
theorem dX12_toEnd_23 : decode cX12_toEnd 23 = .ok (.iload_n 3, 1) := by decide +kernel
theorem dX12_toEnd_24 : decode cX12_toEnd 24 = .ok (.aload_n 0, 1) := by decide +kernel
theorem dX12_toEnd_25 : decode cX12_toEnd 25 = .ok (.getfield 88, 3) := by decide +kernel
theorem dX12_toEnd_28 : decode cX12_toEnd 28 = .ok (.iload_n 3, 1) := by decide +kernel
theorem dX12_toEnd_29 : decode cX12_toEnd 29 = .ok (.iconst 1, 1) := by decide +kernel
theorem dX12_toEnd_30 : decode cX12_toEnd 30 = .ok (.iadd, 1) := by decide +kernel
theorem dX12_toEnd_31 : decode cX12_toEnd 31 = .ok (.iaload, 1) := by decide +kernel
theorem dX12_toEnd_32 : decode cX12_toEnd 32 = .ok (.iastore, 1) := by decide +kernel
theorem dX12_toEnd_33 : decode cX12_toEnd 33 = .ok (.iinc 3 1, 3) := by decide +kernel
theorem dX12_toEnd_36 : decode cX12_toEnd 36 = .ok (.goto (-27), 3) := by decide +kernel
theorem dX12_toEnd_39 : decode cX12_toEnd 39 = .ok (.aload_n 0, 1) := by decide +kernel
theorem dX12_toEnd_40 : decode cX12_toEnd 40 = .ok (.getfield 88, 3) := by decide +kernel
theorem dX12_toEnd_43 : decode cX12_toEnd 43 = .ok (.aload_n 0, 1) := by decide +kernel
theorem dX12_toEnd_44 : decode cX12_toEnd 44 = .ok (.getfield 292, 3) := by decide +kernel
theorem dX12_toEnd_47 : decode cX12_toEnd 47 = .ok (.iconst 1, 1) := by decide +kernel
theorem dX12_toEnd_48 : decode cX12_toEnd 48 = .ok (.isub, 1) := by decide +kernel
theorem dX12_toEnd_49 : decode cX12_toEnd 49 = .ok (.iload_n 2, 1) := by decide +kernel
theorem dX12_toEnd_50 : decode cX12_toEnd 50 = .ok (.iastore, 1) := by decide +kernel
theorem dX12_toEnd_51 : decode cX12_toEnd 51 = .ok (.return_, 1) := by decide +kernel
theorem dX12_goHead_0 : decode cX12_goHead 0 = .ok (.aload_n 0, 1) := by decide +kernel
theorem dX12_goHead_1 : decode cX12_goHead 1 = .ok (.getfield 88, 3) := by decide +kernel
theorem dX12_goHead_4 : decode cX12_goHead 4 = .ok (.iconst 0, 1) := by decide +kernel
theorem dX12_goHead_5 : decode cX12_goHead 5 = .ok (.iaload, 1) := by decide +kernel
theorem dX12_goHead_6 : decode cX12_goHead 6 = .ok (.istore_n 3, 1) := by decide +kernel
theorem dX12_goHead_7 : decode cX12_goHead 7 = .ok (.aload_n 0, 1) := by decide +kernel
theorem dX12_goHead_8 : decode cX12_goHead 8 = .ok (.iload_n 1, 1) := by decide +kernel
theorem dX12_goHead_9 : decode cX12_goHead 9 = .ok (.iload_n 3, 1) := by decide +kernel
theorem dX12_goHead_10 : decode cX12_goHead 10 = .ok (.aload_n 0, 1) := by decide +kernel
theorem dX12_goHead_11 : decode cX12_goHead 11 = .ok (.getfield 292, 3) := by decide +kernel
theorem dX12_goHead_14 : decode cX12_goHead 14 = .ok (.iconst 1, 1) := by decide +kernel
theorem dX12_goHead_15 : decode cX12_goHead 15 = .ok (.if_icmp .le 12, 3) := by decide +kernel
theorem dX12_goHead_18 : decode cX12_goHead 18 = .ok (.aload_n 0, 1) := by decide +kernel
theorem dX12_goHead_19 : decode cX12_goHead 19 = .ok (.getfield 88, 3) := by decide +kernel
theorem dX12_goHead_22 : decode cX12_goHead 22 = .ok (.iconst 1, 1) := by decide +kernel
theorem dX12_goHead_23 : decode cX12_goHead 23 = .ok (.iaload, 1) := by decide +kernel
theorem dX12_goHead_24 : decode cX12_goHead 24 = .ok (.goto 5, 3) := by decide +kernel
theorem dX12_goHead_27 : decode cX12_goHead 27 = .ok (.bipush 9, 2) := by decide +kernel
theorem dX12_goHead_29 : decode cX12_goHead 29 = .ok (.aload_n 0, 1) := by decide +kernel
theorem dX12_goHead_30 : decode cX12_goHead 30 = .ok (.getfield 292, 3) := by decide +kernel
theorem dX12_goHead_33 : decode cX12_goHead 33 = .ok (.iconst 1, 1) := by decide +kernel
theorem dX12_goHead_34 : decode cX12_goHead 34 = .ok (.isub, 1) := by decide +kernel
theorem dX12_goHead_35 : decode cX12_goHead 35 = .ok (.invokevirtual 278, 3) := by decide +kernel
theorem dX12_goHead_38 : decode cX12_goHead 38 = .ok (.aload_n 0, 1) := by decide +kernel
theorem dX12_goHead_39 : decode cX12_goHead 39 = .ok (.getfield 85, 3) := by decide +kernel
theorem dX12_goHead_42 : decode cX12_goHead 42 = .ok (.iload_n 1, 1) := by decide +kernel
theorem dX12_goHead_43 : decode cX12_goHead 43 = .ok (.iaload, 1) := by decide +kernel
theorem dX12_goHead_44 : decode cX12_goHead 44 = .ok (.aload_n 0, 1) := by decide +kernel
theorem dX12_goHead_45 : decode cX12_goHead 45 = .ok (.getfield 260, 3) := by decide +kernel
theorem dX12_goHead_48 : decode cX12_goHead 48 = .ok (.iadd, 1) := by decide +kernel
theorem dX12_goHead_49 : decode cX12_goHead 49 = .ok (.iload_n 2, 1) := by decide +kernel
theorem dX12_goHead_50 : decode cX12_goHead 50 = .ok (.if_icmp .le 5, 3) := by decide +kernel
theorem dX12_goHead_53 : decode cX12_goHead 53 = .ok (.iconst 0, 1) := by decide +kernel
theorem dX12_goHead_54 : decode cX12_goHead 54 = .ok (.ireturn, 1) := by decide +kernel
theorem dX12_goHead_55 : decode cX12_goHead 55 = .ok (.aload_n 0, 1) := by decide +kernel
theorem dX12_goHead_56 : decode cX12_goHead 56 = .ok (.getfield 76, 3) := by decide +kernel
theorem dX12_goHead_59 : decode cX12_goHead 59 = .ok (.iload_n 3, 1) := by decide +kernel
theorem dX12_goHead_60 : decode cX12_goHead 60 = .ok (.iaload, 1) := by decide +kernel
theorem dX12_goHead_61 : decode cX12_goHead 61 = .ok (.ifCond .ne 15, 3) := by decide +kernel
theorem dX12_goHead_64 : decode cX12_goHead 64 = .ok (.aload_n 0, 1) := by decide +kernel
theorem dX12_goHead_65 : decode cX12_goHead 65 = .ok (.getfield 79, 3) := by decide +kernel
theorem dX12_goHead_68 : decode cX12_goHead 68 = .ok (.iload_n 3, 1) := by decide +kernel
theorem dX12_goHead_69 : decode cX12_goHead 69 = .ok (.aload_n 0, 1) := by decide +kernel
theorem dX12_goHead_70 : decode cX12_goHead 70 = .ok (.getfield 85, 3) := by decide +kernel
theorem dX12_goHead_73 : decode cX12_goHead 73 = .ok (.iload_n 1, 1) := by decide +kernel
theorem dX12_goHead_74 : decode cX12_goHead 74 = .ok (.iaload, 1) := by decide +kernel
theorem dX12_goHead_75 : decode cX12_goHead 75 = .ok (.iastore, 1) := by decide +kernel
theorem dX12_goHead_76 : decode cX12_goHead 76 = .ok (.aload_n 0, 1) := by decide +kernel
theorem dX12_goHead_77 : decode cX12_goHead 77 = .ok (.getfield 76, 3) := by decide +kernel
theorem dX12_goHead_80 : decode cX12_goHead 80 = .ok (.iload_n 3, 1) := by decide +kernel
theorem dX12_goHead_81 : decode cX12_goHead 81 = .ok (.dup2, 1) := by decide +kernel
theorem dX12_goHead_82 : decode cX12_goHead 82 = .ok (.iaload, 1) := by decide +kernel
theorem dX12_goHead_83 : decode cX12_goHead 83 = .ok (.iconst 1, 1) := by decide +kernel
theorem dX12_goHead_84 : decode cX12_goHead 84 = .ok (.iadd, 1) := by decide +kernel
theorem dX12_goHead_85 : decode cX12_goHead 85 = .ok (.iastore, 1) := by decide +kernel
theorem dX12_goHead_86 : decode cX12_goHead 86 = .ok (.aload_n 0, 1) := by decide +kernel
theorem dX12_goHead_87 : decode cX12_goHead 87 = .ok (.getfield 82, 3) := by decide +kernel
theorem dX12_goHead_90 : decode cX12_goHead 90 = .ok (.iload_n 3, 1) := by decide +kernel
theorem dX12_goHead_91 : decode cX12_goHead 91 = .ok (.dup2, 1) := by decide +kernel
theorem dX12_goHead_92 : decode cX12_goHead 92 = .ok (.iaload, 1) := by decide +kernel
theorem dX12_goHead_93 : decode cX12_goHead 93 = .ok (.aload_n 0, 1) := by decide +kernel
theorem dX12_goHead_94 : decode cX12_goHead 94 = .ok (.getfield 254, 3) := by decide +kernel
theorem dX12_goHead_97 : decode cX12_goHead 97 = .ok (.iadd, 1) := by decide +kernel
theorem dX12_goHead_98 : decode cX12_goHead 98 = .ok (.iastore, 1) := by decide +kernel
theorem dX12_goHead_99 : decode cX12_goHead 99 = .ok (.aload_n 0, 1) := by decide +kernel
theorem dX12_goHead_100 : decode cX12_goHead 100 = .ok (.getfield 85, 3) := by decide +kernel
theorem dX12_goHead_103 : decode cX12_goHead 103 = .ok (.iload_n 1, 1) := by decide +kernel
theorem dX12_goHead_104 : decode cX12_goHead 104 = .ok (.dup2, 1) := by decide +kernel
theorem dX12_goHead_105 : decode cX12_goHead 105 = .ok (.iaload, 1) := by decide +kernel
theorem dX12_goHead_106 : decode cX12_goHead 106 = .ok (.aload_n 0, 1) := by decide +kernel
theorem dX12_goHead_107 : decode cX12_goHead 107 = .ok (.getfield 260, 3) := by decide +kernel
theorem dX12_goHead_110 : decode cX12_goHead 110 = .ok (.iadd, 1) := by decide +kernel
theorem dX12_goHead_111 : decode cX12_goHead 111 = .ok (.iastore, 1) := by decide +kernel
theorem dX12_goHead_112 : decode cX12_goHead 112 = .ok (.aload_n 0, 1) := by decide +kernel
theorem dX12_goHead_113 : decode cX12_goHead 113 = .ok (.iconst 0, 1) := by decide +kernel
theorem dX12_goHead_114 : decode cX12_goHead 114 = .ok (.invokevirtual 295, 3) := by decide +kernel
theorem dX12_goHead_117 : decode cX12_goHead 117 = .ok (.iconst 1, 1) := by decide +kernel
theorem dX12_goHead_118 : decode cX12_goHead 118 = .ok (.ireturn, 1) := by decide +kernel
theorem dX12_goSwing_0 : decode cX12_goSwing 0 = .ok (.aload_n 0, 1) := by decide +kernel
theorem dX12_goSwing_1 : decode cX12_goSwing 1 = .ok (.getfield 292, 3) := by decide +kernel
theorem dX12_goSwing_4 : decode cX12_goSwing 4 = .ok (.ifCond .le 7, 3) := by decide +kernel
theorem dX12_goSwing_7 : decode cX12_goSwing 7 = .ok (.iconst 1, 1) := by decide +kernel
theorem dX12_goSwing_8 : decode cX12_goSwing 8 = .ok (.goto 4, 3) := by decide +kernel
theorem dX12_goSwing_11 : decode cX12_goSwing 11 = .ok (.iconst 0, 1) := by decide +kernel
theorem dX12_goSwing_12 : decode cX12_goSwing 12 = .ok (.istore_n 3, 1) := by decide +kernel
theorem dX12_goSwing_13 : decode cX12_goSwing 13 = .ok (.iload_n 3, 1) := by decide +kernel
theorem dX12_goSwing_14 : decode cX12_goSwing 14 = .ok (.ifCond .eq 13, 3) := by decide +kernel
theorem dX12_goSwing_17 : decode cX12_goSwing 17 = .ok (.aload_n 0, 1) := by decide +kernel
theorem dX12_goSwing_18 : decode cX12_goSwing 18 = .ok (.iload_n 1, 1) := by decide +kernel
theorem dX12_goSwing_19 : decode cX12_goSwing 19 = .ok (.iload_n 2, 1) := by decide +kernel
theorem dX12_goSwing_20 : decode cX12_goSwing 20 = .ok (.invokevirtual 299, 3) := by decide +kernel
theorem dX12_goSwing_23 : decode cX12_goSwing 23 = .ok (.istore_n 3, 1) := by decide +kernel
theorem dX12_goSwing_24 : decode cX12_goSwing 24 = .ok (.goto (-11), 3) := by decide +kernel
theorem dX12_goSwing_27 : decode cX12_goSwing 27 = .ok (.return_, 1) := by decide +kernel
theorem dX12_goAfternoon_0 : decode cX12_goAfternoon 0 = .ok (.aload_n 0, 1) := by decide +kernel
theorem dX12_goAfternoon_1 : decode cX12_goAfternoon 1 = .ok (.invokevirtual 302, 3) := by decide +kernel
theorem dX12_goAfternoon_4 : decode cX12_goAfternoon 4 = .ok (.iconst 0, 1) := by decide +kernel
theorem dX12_goAfternoon_5 : decode cX12_goAfternoon 5 = .ok (.istore_n 2, 1) := by decide +kernel
theorem dX12_goAfternoon_6 : decode cX12_goAfternoon 6 = .ok (.iload_n 2, 1) := by decide +kernel
theorem dX12_goAfternoon_7 : decode cX12_goAfternoon 7 = .ok (.iconst 3, 1) := by decide +kernel
theorem dX12_goAfternoon_8 : decode cX12_goAfternoon 8 = .ok (.if_icmp .ge 20, 3) := by decide +kernel
theorem dX12_goAfternoon_11 : decode cX12_goAfternoon 11 = .ok (.aload_n 0, 1) := by decide +kernel
theorem dX12_goAfternoon_12 : decode cX12_goAfternoon 12 = .ok (.iload_n 2, 1) := by decide +kernel
theorem dX12_goAfternoon_13 : decode cX12_goAfternoon 13 = .ok (.invokevirtual 305, 3) := by decide +kernel
theorem dX12_goAfternoon_16 : decode cX12_goAfternoon 16 = .ok (.aload_n 0, 1) := by decide +kernel
theorem dX12_goAfternoon_17 : decode cX12_goAfternoon 17 = .ok (.iload_n 2, 1) := by decide +kernel
theorem dX12_goAfternoon_18 : decode cX12_goAfternoon 18 = .ok (.iload_n 1, 1) := by decide +kernel
theorem dX12_goAfternoon_19 : decode cX12_goAfternoon 19 = .ok (.invokevirtual 308, 3) := by decide +kernel
theorem dX12_goAfternoon_22 : decode cX12_goAfternoon 22 = .ok (.iinc 2 1, 3) := by decide +kernel
theorem dX12_goAfternoon_25 : decode cX12_goAfternoon 25 = .ok (.goto (-19), 3) := by decide +kernel
theorem dX12_goAfternoon_28 : decode cX12_goAfternoon 28 = .ok (.return_, 1) := by decide +kernel
theorem dX12_isBell_0 : decode cX12_isBell 0 = .ok (.iload_n 0, 1) := by decide +kernel
theorem dX12_isBell_1 : decode cX12_isBell 1 = .ok (.iconst 1, 1) := by decide +kernel
theorem dX12_isBell_2 : decode cX12_isBell 2 = .ok (.sipush 3600, 3) := by decide +kernel
theorem dX12_isBell_5 : decode cX12_isBell 5 = .ok (.invokestatic 128, 3) := by decide +kernel
theorem dX12_isBell_8 : decode cX12_isBell 8 = .ok (.ireturn, 1) := by decide +kernel
theorem dX12_afternoon_0 : decode cX12_afternoon 0 = .ok (.iload_n 1, 1) := by decide +kernel
theorem dX12_afternoon_1 : decode cX12_afternoon 1 = .ok (.invokestatic 311, 3) := by decide +kernel
theorem dX12_afternoon_4 : decode cX12_afternoon 4 = .ok (.ifCond .eq 20, 3) := by decide +kernel
theorem dX12_afternoon_7 : decode cX12_afternoon 7 = .ok (.aload_n 0, 1) := by decide +kernel
theorem dX12_afternoon_8 : decode cX12_afternoon 8 = .ok (.iload_n 2, 1) := by decide +kernel
theorem dX12_afternoon_9 : decode cX12_afternoon 9 = .ok (.invokevirtual 162, 3) := by decide +kernel
theorem dX12_afternoon_12 : decode cX12_afternoon 12 = .ok (.ifCond .eq 12, 3) := by decide +kernel
theorem dX12_afternoon_15 : decode cX12_afternoon 15 = .ok (.iload_n 3, 1) := by decide +kernel
theorem dX12_afternoon_16 : decode cX12_afternoon 16 = .ok (.iconst 0, 1) := by decide +kernel
theorem dX12_afternoon_17 : decode cX12_afternoon 17 = .ok (.iconst 2, 1) := by decide +kernel
theorem dX12_afternoon_18 : decode cX12_afternoon 18 = .ok (.invokestatic 128, 3) := by decide +kernel
theorem dX12_afternoon_21 : decode cX12_afternoon 21 = .ok (.ifCond .ne 5, 3) := by decide +kernel
theorem dX12_afternoon_24 : decode cX12_afternoon 24 = .ok (.iconst (-1), 1) := by decide +kernel
theorem dX12_afternoon_25 : decode cX12_afternoon 25 = .ok (.ireturn, 1) := by decide +kernel
theorem dX12_afternoon_26 : decode cX12_afternoon 26 = .ok (.aload_n 0, 1) := by decide +kernel
theorem dX12_afternoon_27 : decode cX12_afternoon 27 = .ok (.iload_n 1, 1) := by decide +kernel
theorem dX12_afternoon_28 : decode cX12_afternoon 28 = .ok (.invokevirtual 314, 3) := by decide +kernel
theorem dX12_afternoon_31 : decode cX12_afternoon 31 = .ok (.iload_n 3, 1) := by decide +kernel
theorem dX12_afternoon_32 : decode cX12_afternoon 32 = .ok (.ifCond .ne 12, 3) := by decide +kernel
theorem dX12_afternoon_35 : decode cX12_afternoon 35 = .ok (.aload_n 0, 1) := by decide +kernel
theorem dX12_afternoon_36 : decode cX12_afternoon 36 = .ok (.getfield 76, 3) := by decide +kernel
theorem dX12_afternoon_39 : decode cX12_afternoon 39 = .ok (.iload_n 2, 1) := by decide +kernel
theorem dX12_afternoon_40 : decode cX12_afternoon 40 = .ok (.iaload, 1) := by decide +kernel
theorem dX12_afternoon_41 : decode cX12_afternoon 41 = .ok (.goto 23, 3) := by decide +kernel
theorem dX12_afternoon_44 : decode cX12_afternoon 44 = .ok (.iload_n 3, 1) := by decide +kernel
theorem dX12_afternoon_45 : decode cX12_afternoon 45 = .ok (.iconst 1, 1) := by decide +kernel
theorem dX12_afternoon_46 : decode cX12_afternoon 46 = .ok (.if_icmp .ne 12, 3) := by decide +kernel
theorem dX12_afternoon_49 : decode cX12_afternoon 49 = .ok (.aload_n 0, 1) := by decide +kernel
theorem dX12_afternoon_50 : decode cX12_afternoon 50 = .ok (.getfield 79, 3) := by decide +kernel
theorem dX12_afternoon_53 : decode cX12_afternoon 53 = .ok (.iload_n 2, 1) := by decide +kernel
theorem dX12_afternoon_54 : decode cX12_afternoon 54 = .ok (.iaload, 1) := by decide +kernel
theorem dX12_afternoon_55 : decode cX12_afternoon 55 = .ok (.goto 9, 3) := by decide +kernel
theorem dX12_afternoon_58 : decode cX12_afternoon 58 = .ok (.aload_n 0, 1) := by decide +kernel
theorem dX12_afternoon_59 : decode cX12_afternoon 59 = .ok (.getfield 82, 3) := by decide +kernel
theorem dX12_afternoon_62 : decode cX12_afternoon 62 = .ok (.iload_n 2, 1) := by decide +kernel
theorem dX12_afternoon_63 : decode cX12_afternoon 63 = .ok (.iaload, 1) := by decide +kernel
theorem dX12_afternoon_64 : decode cX12_afternoon 64 = .ok (.ireturn, 1) := by decide +kernel
theorem dX12_been_0 : decode cX12_been 0 = .ok (.iload_n 1, 1) := by decide +kernel
theorem dX12_been_1 : decode cX12_been 1 = .ok (.invokestatic 311, 3) := by decide +kernel
theorem dX12_been_4 : decode cX12_been 4 = .ok (.ifCond .eq 15, 3) := by decide +kernel
theorem dX12_been_7 : decode cX12_been 7 = .ok (.iload_n 2, 1) := by decide +kernel
theorem dX12_been_8 : decode cX12_been 8 = .ok (.iconst (-1), 1) := by decide +kernel
theorem dX12_been_9 : decode cX12_been 9 = .ok (.if_icmp .eq 12, 3) := by decide +kernel
theorem dX12_been_12 : decode cX12_been 12 = .ok (.iload_n 2, 1) := by decide +kernel
theorem dX12_been_13 : decode cX12_been 13 = .ok (.invokestatic 165, 3) := by decide +kernel
theorem dX12_been_16 : decode cX12_been 16 = .ok (.ifCond .ne 5, 3) := by decide +kernel
theorem dX12_been_19 : decode cX12_been 19 = .ok (.iconst (-1), 1) := by decide +kernel
theorem dX12_been_20 : decode cX12_been 20 = .ok (.ireturn, 1) := by decide +kernel
theorem dX12_been_21 : decode cX12_been 21 = .ok (.aload_n 0, 1) := by decide +kernel
theorem dX12_been_22 : decode cX12_been 22 = .ok (.iload_n 1, 1) := by decide +kernel
theorem dX12_been_23 : decode cX12_been 23 = .ok (.invokevirtual 314, 3) := by decide +kernel
theorem dX12_been_26 : decode cX12_been 26 = .ok (.iload_n 2, 1) := by decide +kernel
theorem dX12_been_27 : decode cX12_been 27 = .ok (.ifCond .lt 10, 3) := by decide +kernel
theorem dX12_been_30 : decode cX12_been 30 = .ok (.aload_n 0, 1) := by decide +kernel
theorem dX12_been_31 : decode cX12_been 31 = .ok (.getfield 85, 3) := by decide +kernel
theorem dX12_been_34 : decode cX12_been 34 = .ok (.iload_n 2, 1) := by decide +kernel
theorem dX12_been_35 : decode cX12_been 35 = .ok (.iaload, 1) := by decide +kernel
theorem dX12_been_36 : decode cX12_been 36 = .ok (.ireturn, 1) := by decide +kernel
theorem dX12_been_37 : decode cX12_been 37 = .ok (.iconst 0, 1) := by decide +kernel
theorem dX12_been_38 : decode cX12_been 38 = .ok (.istore_n 3, 1) := by decide +kernel
theorem dX12_been_39 : decode cX12_been 39 = .ok (.iconst 0, 1) := by decide +kernel
theorem dX12_been_40 : decode cX12_been 40 = .ok (.istore 4, 2) := by decide +kernel
theorem dX12_been_42 : decode cX12_been 42 = .ok (.iload 4, 2) := by decide +kernel
theorem dX12_been_44 : decode cX12_been 44 = .ok (.aload_n 0, 1) := by decide +kernel
theorem dX12_been_45 : decode cX12_been 45 = .ok (.getfield 125, 3) := by decide +kernel
theorem dX12_been_48 : decode cX12_been 48 = .ok (.if_icmp .ge 26, 3) := by decide +kernel
theorem dX12_been_51 : decode cX12_been 51 = .ok (.aload_n 0, 1) := by decide +kernel
theorem dX12_been_52 : decode cX12_been 52 = .ok (.getfield 76, 3) := by decide +kernel
theorem dX12_been_55 : decode cX12_been 55 = .ok (.iload 4, 2) := by decide +kernel
theorem dX12_been_57 : decode cX12_been 57 = .ok (.iaload, 1) := by decide +kernel
theorem dX12_been_58 : decode cX12_been 58 = .ok (.ifCond .ne 10, 3) := by decide +kernel
theorem dX12_been_61 : decode cX12_been 61 = .ok (.iload_n 3, 1) := by decide +kernel
theorem dX12_been_62 : decode cX12_been 62 = .ok (.iconst 1, 1) := by decide +kernel
theorem dX12_been_63 : decode cX12_been 63 = .ok (.iload 4, 2) := by decide +kernel
theorem dX12_been_65 : decode cX12_been 65 = .ok (.ishl, 1) := by decide +kernel
theorem dX12_been_66 : decode cX12_been 66 = .ok (.ior, 1) := by decide +kernel
theorem dX12_been_67 : decode cX12_been 67 = .ok (.istore_n 3, 1) := by decide +kernel
theorem dX12_been_68 : decode cX12_been 68 = .ok (.iinc 4 1, 3) := by decide +kernel
theorem dX12_been_71 : decode cX12_been 71 = .ok (.goto (-29), 3) := by decide +kernel
theorem dX12_been_74 : decode cX12_been 74 = .ok (.iload_n 3, 1) := by decide +kernel
theorem dX12_been_75 : decode cX12_been 75 = .ok (.ireturn, 1) := by decide +kernel
theorem dX12_join_0 : decode cX12_join 0 = .ok (.iload_n 1, 1) := by decide +kernel
theorem dX12_join_1 : decode cX12_join 1 = .ok (.invokestatic 311, 3) := by decide +kernel
theorem dX12_join_4 : decode cX12_join 4 = .ok (.ifCond .eq 20, 3) := by decide +kernel
theorem dX12_join_7 : decode cX12_join 7 = .ok (.aload_n 0, 1) := by decide +kernel
theorem dX12_join_8 : decode cX12_join 8 = .ok (.iload_n 2, 1) := by decide +kernel
theorem dX12_join_9 : decode cX12_join 9 = .ok (.invokevirtual 162, 3) := by decide +kernel
theorem dX12_join_12 : decode cX12_join 12 = .ok (.ifCond .eq 12, 3) := by decide +kernel
theorem dX12_join_15 : decode cX12_join 15 = .ok (.iload_n 3, 1) := by decide +kernel
theorem dX12_join_16 : decode cX12_join 16 = .ok (.iconst 0, 1) := by decide +kernel
theorem dX12_join_17 : decode cX12_join 17 = .ok (.iconst 1, 1) := by decide +kernel
theorem dX12_join_18 : decode cX12_join 18 = .ok (.invokestatic 128, 3) := by decide +kernel
theorem dX12_join_21 : decode cX12_join 21 = .ok (.ifCond .ne 5, 3) := by decide +kernel
theorem dX12_join_24 : decode cX12_join 24 = .ok (.iconst (-1), 1) := by decide +kernel
theorem dX12_join_25 : decode cX12_join 25 = .ok (.ireturn, 1) := by decide +kernel
theorem dX12_join_26 : decode cX12_join 26 = .ok (.aload_n 0, 1) := by decide +kernel
theorem dX12_join_27 : decode cX12_join 27 = .ok (.getfield 28, 3) := by decide +kernel
theorem dX12_join_30 : decode cX12_join 30 = .ok (.iload_n 2, 1) := by decide +kernel
theorem dX12_join_31 : decode cX12_join 31 = .ok (.iaload, 1) := by decide +kernel
theorem dX12_join_32 : decode cX12_join 32 = .ok (.istore 4, 2) := by decide +kernel
theorem dX12_join_34 : decode cX12_join 34 = .ok (.bipush (-2), 2) := by decide +kernel
theorem dX12_join_36 : decode cX12_join 36 = .ok (.istore 5, 2) := by decide +kernel
theorem dX12_join_38 : decode cX12_join 38 = .ok (.bipush (-2), 2) := by decide +kernel
theorem dX12_join_40 : decode cX12_join 40 = .ok (.istore 6, 2) := by decide +kernel
theorem dX12_join_42 : decode cX12_join 42 = .ok (.iconst 0, 1) := by decide +kernel
theorem dX12_join_43 : decode cX12_join 43 = .ok (.istore 7, 2) := by decide +kernel
theorem dX12_join_45 : decode cX12_join 45 = .ok (.iload 7, 2) := by decide +kernel
theorem dX12_join_47 : decode cX12_join 47 = .ok (.iconst 3, 1) := by decide +kernel
theorem dX12_join_48 : decode cX12_join 48 = .ok (.if_icmp .ge 62, 3) := by decide +kernel
theorem dX12_join_51 : decode cX12_join 51 = .ok (.aload_n 0, 1) := by decide +kernel
theorem dX12_join_52 : decode cX12_join 52 = .ok (.getfield 28, 3) := by decide +kernel
theorem dX12_join_55 : decode cX12_join 55 = .ok (.iload_n 2, 1) := by decide +kernel
theorem dX12_join_56 : decode cX12_join 56 = .ok (.iload 7, 2) := by decide +kernel
theorem dX12_join_58 : decode cX12_join 58 = .ok (.iastore, 1) := by decide +kernel
theorem dX12_join_59 : decode cX12_join 59 = .ok (.aload_n 0, 1) := by decide +kernel
theorem dX12_join_60 : decode cX12_join 60 = .ok (.iload_n 1, 1) := by decide +kernel
theorem dX12_join_61 : decode cX12_join 61 = .ok (.invokevirtual 314, 3) := by decide +kernel
theorem dX12_join_64 : decode cX12_join 64 = .ok (.aload_n 0, 1) := by decide +kernel
theorem dX12_join_65 : decode cX12_join 65 = .ok (.getfield 79, 3) := by decide +kernel
theorem dX12_join_68 : decode cX12_join 68 = .ok (.iload_n 2, 1) := by decide +kernel
theorem dX12_join_69 : decode cX12_join 69 = .ok (.iaload, 1) := by decide +kernel
theorem dX12_join_70 : decode cX12_join 70 = .ok (.ifCond .lt 34, 3) := by decide +kernel
theorem dX12_join_73 : decode cX12_join 73 = .ok (.iload 5, 2) := by decide +kernel
theorem dX12_join_75 : decode cX12_join 75 = .ok (.ifCond .lt 17, 3) := by decide +kernel
theorem dX12_join_78 : decode cX12_join 78 = .ok (.aload_n 0, 1) := by decide +kernel
theorem dX12_join_79 : decode cX12_join 79 = .ok (.getfield 79, 3) := by decide +kernel
theorem dX12_join_82 : decode cX12_join 82 = .ok (.iload_n 2, 1) := by decide +kernel
theorem dX12_join_83 : decode cX12_join 83 = .ok (.iaload, 1) := by decide +kernel
theorem dX12_join_84 : decode cX12_join 84 = .ok (.iload 6, 2) := by decide +kernel
theorem dX12_join_86 : decode cX12_join 86 = .ok (.if_icmp .lt 6, 3) := by decide +kernel
theorem dX12_join_89 : decode cX12_join 89 = .ok (.goto 15, 3) := by decide +kernel
theorem dX12_join_92 : decode cX12_join 92 = .ok (.iload 7, 2) := by decide +kernel
theorem dX12_join_94 : decode cX12_join 94 = .ok (.istore 5, 2) := by decide +kernel
theorem dX12_join_96 : decode cX12_join 96 = .ok (.aload_n 0, 1) := by decide +kernel
theorem dX12_join_97 : decode cX12_join 97 = .ok (.getfield 79, 3) := by decide +kernel
theorem dX12_join_100 : decode cX12_join 100 = .ok (.iload_n 2, 1) := by decide +kernel
theorem dX12_join_101 : decode cX12_join 101 = .ok (.iaload, 1) := by decide +kernel
theorem dX12_join_102 : decode cX12_join 102 = .ok (.istore 6, 2) := by decide +kernel
theorem dX12_join_104 : decode cX12_join 104 = .ok (.iinc 7 1, 3) := by decide +kernel
theorem dX12_join_107 : decode cX12_join 107 = .ok (.goto (-62), 3) := by decide +kernel
theorem dX12_join_110 : decode cX12_join 110 = .ok (.aload_n 0, 1) := by decide +kernel
theorem dX12_join_111 : decode cX12_join 111 = .ok (.getfield 28, 3) := by decide +kernel
theorem dX12_join_114 : decode cX12_join 114 = .ok (.iload_n 2, 1) := by decide +kernel
theorem dX12_join_115 : decode cX12_join 115 = .ok (.iload 4, 2) := by decide +kernel
theorem dX12_join_117 : decode cX12_join 117 = .ok (.iastore, 1) := by decide +kernel
theorem dX12_join_118 : decode cX12_join 118 = .ok (.iload_n 3, 1) := by decide +kernel
theorem dX12_join_119 : decode cX12_join 119 = .ok (.ifCond .ne 8, 3) := by decide +kernel
theorem dX12_join_122 : decode cX12_join 122 = .ok (.iload 5, 2) := by decide +kernel
theorem dX12_join_124 : decode cX12_join 124 = .ok (.goto 5, 3) := by decide +kernel
theorem dX12_join_127 : decode cX12_join 127 = .ok (.iload 6, 2) := by decide +kernel
theorem dX12_join_129 : decode cX12_join 129 = .ok (.ireturn, 1) := by decide +kernel
theorem dX12_haveAll_0 : decode cX12_haveAll 0 = .ok (.aload_n 0, 1) := by decide +kernel
theorem dX12_haveAll_1 : decode cX12_haveAll 1 = .ok (.iload_n 1, 1) := by decide +kernel
theorem dX12_haveAll_2 : decode cX12_haveAll 2 = .ok (.invokevirtual 314, 3) := by decide +kernel
theorem dX12_haveAll_5 : decode cX12_haveAll 5 = .ok (.iconst 0, 1) := by decide +kernel
theorem dX12_haveAll_6 : decode cX12_haveAll 6 = .ok (.istore_n 2, 1) := by decide +kernel
theorem dX12_haveAll_7 : decode cX12_haveAll 7 = .ok (.iload_n 2, 1) := by decide +kernel
theorem dX12_haveAll_8 : decode cX12_haveAll 8 = .ok (.aload_n 0, 1) := by decide +kernel
theorem dX12_haveAll_9 : decode cX12_haveAll 9 = .ok (.getfield 125, 3) := by decide +kernel
theorem dX12_haveAll_12 : decode cX12_haveAll 12 = .ok (.if_icmp .ge 30, 3) := by decide +kernel
theorem dX12_haveAll_15 : decode cX12_haveAll 15 = .ok (.aload_n 0, 1) := by decide +kernel
theorem dX12_haveAll_16 : decode cX12_haveAll 16 = .ok (.getfield 28, 3) := by decide +kernel
theorem dX12_haveAll_19 : decode cX12_haveAll 19 = .ok (.iload_n 2, 1) := by decide +kernel
theorem dX12_haveAll_20 : decode cX12_haveAll 20 = .ok (.iaload, 1) := by decide +kernel
theorem dX12_haveAll_21 : decode cX12_haveAll 21 = .ok (.iconst 3, 1) := by decide +kernel
theorem dX12_haveAll_22 : decode cX12_haveAll 22 = .ok (.if_icmp .ge 14, 3) := by decide +kernel
theorem dX12_haveAll_25 : decode cX12_haveAll 25 = .ok (.aload_n 0, 1) := by decide +kernel
theorem dX12_haveAll_26 : decode cX12_haveAll 26 = .ok (.getfield 76, 3) := by decide +kernel
theorem dX12_haveAll_29 : decode cX12_haveAll 29 = .ok (.iload_n 2, 1) := by decide +kernel
theorem dX12_haveAll_30 : decode cX12_haveAll 30 = .ok (.iaload, 1) := by decide +kernel
theorem dX12_haveAll_31 : decode cX12_haveAll 31 = .ok (.ifCond .ne 5, 3) := by decide +kernel
theorem dX12_haveAll_34 : decode cX12_haveAll 34 = .ok (.iconst 0, 1) := by decide +kernel
theorem dX12_haveAll_35 : decode cX12_haveAll 35 = .ok (.ireturn, 1) := by decide +kernel
theorem dX12_haveAll_36 : decode cX12_haveAll 36 = .ok (.iinc 2 1, 3) := by decide +kernel
theorem dX12_haveAll_39 : decode cX12_haveAll 39 = .ok (.goto (-32), 3) := by decide +kernel
theorem dX12_haveAll_42 : decode cX12_haveAll 42 = .ok (.iconst 1, 1) := by decide +kernel
theorem dX12_haveAll_43 : decode cX12_haveAll 43 = .ok (.ireturn, 1) := by decide +kernel
theorem dX12_each_0 : decode cX12_each 0 = .ok (.iload_n 1, 1) := by decide +kernel
theorem dX12_each_1 : decode cX12_each 1 = .ok (.invokestatic 311, 3) := by decide +kernel
theorem dX12_each_4 : decode cX12_each 4 = .ok (.ifCond .ne 5, 3) := by decide +kernel
theorem dX12_each_7 : decode cX12_each 7 = .ok (.iconst (-1), 1) := by decide +kernel
theorem dX12_each_8 : decode cX12_each 8 = .ok (.ireturn, 1) := by decide +kernel
theorem dX12_each_9 : decode cX12_each 9 = .ok (.aload_n 0, 1) := by decide +kernel
theorem dX12_each_10 : decode cX12_each 10 = .ok (.getfield 35, 3) := by decide +kernel
theorem dX12_each_13 : decode cX12_each 13 = .ok (.istore_n 2, 1) := by decide +kernel
theorem dX12_each_14 : decode cX12_each 14 = .ok (.bipush (-2), 2) := by decide +kernel
theorem dX12_each_16 : decode cX12_each 16 = .ok (.istore_n 3, 1) := by decide +kernel
theorem dX12_each_17 : decode cX12_each 17 = .ok (.aload_n 0, 1) := by decide +kernel
theorem dX12_each_18 : decode cX12_each 18 = .ok (.bipush 30, 2) := by decide +kernel
theorem dX12_each_20 : decode cX12_each 20 = .ok (.putfield 35, 3) := by decide +kernel
theorem dX12_each_23 : decode cX12_each 23 = .ok (.aload_n 0, 1) := by decide +kernel
theorem dX12_each_24 : decode cX12_each 24 = .ok (.getfield 35, 3) := by decide +kernel
theorem dX12_each_27 : decode cX12_each 27 = .ok (.iconst 1, 1) := by decide +kernel
theorem dX12_each_28 : decode cX12_each 28 = .ok (.if_icmp .lt 33, 3) := by decide +kernel
theorem dX12_each_31 : decode cX12_each 31 = .ok (.iload_n 3, 1) := by decide +kernel
theorem dX12_each_32 : decode cX12_each 32 = .ok (.ifCond .ge 29, 3) := by decide +kernel
theorem dX12_each_35 : decode cX12_each 35 = .ok (.aload_n 0, 1) := by decide +kernel
theorem dX12_each_36 : decode cX12_each 36 = .ok (.iload_n 1, 1) := by decide +kernel
theorem dX12_each_37 : decode cX12_each 37 = .ok (.invokevirtual 317, 3) := by decide +kernel
theorem dX12_each_40 : decode cX12_each 40 = .ok (.ifCond .eq 8, 3) := by decide +kernel
theorem dX12_each_43 : decode cX12_each 43 = .ok (.aload_n 0, 1) := by decide +kernel
theorem dX12_each_44 : decode cX12_each 44 = .ok (.getfield 35, 3) := by decide +kernel
theorem dX12_each_47 : decode cX12_each 47 = .ok (.istore_n 3, 1) := by decide +kernel
theorem dX12_each_48 : decode cX12_each 48 = .ok (.aload_n 0, 1) := by decide +kernel
theorem dX12_each_49 : decode cX12_each 49 = .ok (.dup, 1) := by decide +kernel
theorem dX12_each_50 : decode cX12_each 50 = .ok (.getfield 35, 3) := by decide +kernel
theorem dX12_each_53 : decode cX12_each 53 = .ok (.iconst 1, 1) := by decide +kernel
theorem dX12_each_54 : decode cX12_each 54 = .ok (.isub, 1) := by decide +kernel
theorem dX12_each_55 : decode cX12_each 55 = .ok (.putfield 35, 3) := by decide +kernel
theorem dX12_each_58 : decode cX12_each 58 = .ok (.goto (-35), 3) := by decide +kernel
theorem dX12_each_61 : decode cX12_each 61 = .ok (.aload_n 0, 1) := by decide +kernel
theorem dX12_each_62 : decode cX12_each 62 = .ok (.iload_n 2, 1) := by decide +kernel
theorem dX12_each_63 : decode cX12_each 63 = .ok (.putfield 35, 3) := by decide +kernel
theorem dX12_each_66 : decode cX12_each 66 = .ok (.iload_n 3, 1) := by decide +kernel
theorem dX12_each_67 : decode cX12_each 67 = .ok (.ireturn, 1) := by decide +kernel
theorem dX12_waitsOf_0 : decode cX12_waitsOf 0 = .ok (.iconst 0, 1) := by decide +kernel
theorem dX12_waitsOf_1 : decode cX12_waitsOf 1 = .ok (.istore_n 2, 1) := by decide +kernel
theorem dX12_waitsOf_2 : decode cX12_waitsOf 2 = .ok (.iconst 0, 1) := by decide +kernel
theorem dX12_waitsOf_3 : decode cX12_waitsOf 3 = .ok (.istore_n 3, 1) := by decide +kernel
theorem dX12_waitsOf_4 : decode cX12_waitsOf 4 = .ok (.iconst 0, 1) := by decide +kernel
theorem dX12_waitsOf_5 : decode cX12_waitsOf 5 = .ok (.istore 4, 2) := by decide +kernel
theorem dX12_waitsOf_7 : decode cX12_waitsOf 7 = .ok (.iload 4, 2) := by decide +kernel
theorem dX12_waitsOf_9 : decode cX12_waitsOf 9 = .ok (.aload_n 0, 1) := by decide +kernel
theorem dX12_waitsOf_10 : decode cX12_waitsOf 10 = .ok (.getfield 292, 3) := by decide +kernel
theorem dX12_waitsOf_13 : decode cX12_waitsOf 13 = .ok (.if_icmp .ge 65, 3) := by decide +kernel
theorem dX12_waitsOf_16 : decode cX12_waitsOf 16 = .ok (.iload_n 3, 1) := by decide +kernel
theorem dX12_waitsOf_17 : decode cX12_waitsOf 17 = .ok (.iload_n 2, 1) := by decide +kernel
theorem dX12_waitsOf_18 : decode cX12_waitsOf 18 = .ok (.iadd, 1) := by decide +kernel
theorem dX12_waitsOf_19 : decode cX12_waitsOf 19 = .ok (.istore_n 3, 1) := by decide +kernel
theorem dX12_waitsOf_20 : decode cX12_waitsOf 20 = .ok (.aload_n 0, 1) := by decide +kernel
theorem dX12_waitsOf_21 : decode cX12_waitsOf 21 = .ok (.iload_n 1, 1) := by decide +kernel
theorem dX12_waitsOf_22 : decode cX12_waitsOf 22 = .ok (.aload_n 0, 1) := by decide +kernel
theorem dX12_waitsOf_23 : decode cX12_waitsOf 23 = .ok (.getfield 88, 3) := by decide +kernel
theorem dX12_waitsOf_26 : decode cX12_waitsOf 26 = .ok (.iload 4, 2) := by decide +kernel
theorem dX12_waitsOf_28 : decode cX12_waitsOf 28 = .ok (.iaload, 1) := by decide +kernel
theorem dX12_waitsOf_29 : decode cX12_waitsOf 29 = .ok (.aload_n 0, 1) := by decide +kernel
theorem dX12_waitsOf_30 : decode cX12_waitsOf 30 = .ok (.getfield 292, 3) := by decide +kernel
theorem dX12_waitsOf_33 : decode cX12_waitsOf 33 = .ok (.iconst 1, 1) := by decide +kernel
theorem dX12_waitsOf_34 : decode cX12_waitsOf 34 = .ok (.if_icmp .ne 8, 3) := by decide +kernel
theorem dX12_waitsOf_37 : decode cX12_waitsOf 37 = .ok (.bipush 9, 2) := by decide +kernel
theorem dX12_waitsOf_39 : decode cX12_waitsOf 39 = .ok (.goto 17, 3) := by decide +kernel
theorem dX12_waitsOf_42 : decode cX12_waitsOf 42 = .ok (.aload_n 0, 1) := by decide +kernel
theorem dX12_waitsOf_43 : decode cX12_waitsOf 43 = .ok (.getfield 88, 3) := by decide +kernel
theorem dX12_waitsOf_46 : decode cX12_waitsOf 46 = .ok (.iload 4, 2) := by decide +kernel
theorem dX12_waitsOf_48 : decode cX12_waitsOf 48 = .ok (.iconst 1, 1) := by decide +kernel
theorem dX12_waitsOf_49 : decode cX12_waitsOf 49 = .ok (.iadd, 1) := by decide +kernel
theorem dX12_waitsOf_50 : decode cX12_waitsOf 50 = .ok (.aload_n 0, 1) := by decide +kernel
theorem dX12_waitsOf_51 : decode cX12_waitsOf 51 = .ok (.getfield 292, 3) := by decide +kernel
theorem dX12_waitsOf_54 : decode cX12_waitsOf 54 = .ok (.irem, 1) := by decide +kernel
theorem dX12_waitsOf_55 : decode cX12_waitsOf 55 = .ok (.iaload, 1) := by decide +kernel
theorem dX12_waitsOf_56 : decode cX12_waitsOf 56 = .ok (.aload_n 0, 1) := by decide +kernel
theorem dX12_waitsOf_57 : decode cX12_waitsOf 57 = .ok (.getfield 292, 3) := by decide +kernel
theorem dX12_waitsOf_60 : decode cX12_waitsOf 60 = .ok (.iconst 1, 1) := by decide +kernel
theorem dX12_waitsOf_61 : decode cX12_waitsOf 61 = .ok (.isub, 1) := by decide +kernel
theorem dX12_waitsOf_62 : decode cX12_waitsOf 62 = .ok (.invokevirtual 278, 3) := by decide +kernel
theorem dX12_waitsOf_65 : decode cX12_waitsOf 65 = .ok (.iload_n 2, 1) := by decide +kernel
theorem dX12_waitsOf_66 : decode cX12_waitsOf 66 = .ok (.aload_n 0, 1) := by decide +kernel
theorem dX12_waitsOf_67 : decode cX12_waitsOf 67 = .ok (.getfield 260, 3) := by decide +kernel
theorem dX12_waitsOf_70 : decode cX12_waitsOf 70 = .ok (.iadd, 1) := by decide +kernel
theorem dX12_waitsOf_71 : decode cX12_waitsOf 71 = .ok (.istore_n 2, 1) := by decide +kernel
theorem dX12_waitsOf_72 : decode cX12_waitsOf 72 = .ok (.iinc 4 1, 3) := by decide +kernel
theorem dX12_waitsOf_75 : decode cX12_waitsOf 75 = .ok (.goto (-68), 3) := by decide +kernel
theorem dX12_waitsOf_78 : decode cX12_waitsOf 78 = .ok (.iload_n 3, 1) := by decide +kernel
theorem dX12_waitsOf_79 : decode cX12_waitsOf 79 = .ok (.ireturn, 1) := by decide +kernel
theorem dX12_goOrders_0 : decode cX12_goOrders 0 = .ok (.iload_n 2, 1) := by decide +kernel
theorem dX12_goOrders_1 : decode cX12_goOrders 1 = .ok (.aload_n 0, 1) := by decide +kernel
theorem dX12_goOrders_2 : decode cX12_goOrders 2 = .ok (.getfield 292, 3) := by decide +kernel
theorem dX12_goOrders_5 : decode cX12_goOrders 5 = .ok (.if_icmp .ne 66, 3) := by decide +kernel
theorem dX12_goOrders_8 : decode cX12_goOrders 8 = .ok (.aload_n 0, 1) := by decide +kernel
theorem dX12_goOrders_9 : decode cX12_goOrders 9 = .ok (.iload_n 1, 1) := by decide +kernel
theorem dX12_goOrders_10 : decode cX12_goOrders 10 = .ok (.invokevirtual 320, 3) := by decide +kernel
theorem dX12_goOrders_13 : decode cX12_goOrders 13 = .ok (.istore 4, 2) := by decide +kernel
theorem dX12_goOrders_15 : decode cX12_goOrders 15 = .ok (.aload_n 0, 1) := by decide +kernel
theorem dX12_goOrders_16 : decode cX12_goOrders 16 = .ok (.getfield 323, 3) := by decide +kernel
theorem dX12_goOrders_19 : decode cX12_goOrders 19 = .ok (.ifCond .lt 13, 3) := by decide +kernel
theorem dX12_goOrders_22 : decode cX12_goOrders 22 = .ok (.iload 4, 2) := by decide +kernel
theorem dX12_goOrders_24 : decode cX12_goOrders 24 = .ok (.aload_n 0, 1) := by decide +kernel
theorem dX12_goOrders_25 : decode cX12_goOrders 25 = .ok (.getfield 323, 3) := by decide +kernel
theorem dX12_goOrders_28 : decode cX12_goOrders 28 = .ok (.if_icmp .lt 4, 3) := by decide +kernel
theorem dX12_goOrders_31 : decode cX12_goOrders 31 = .ok (.return_, 1) := by decide +kernel
theorem dX12_goOrders_32 : decode cX12_goOrders 32 = .ok (.aload_n 0, 1) := by decide +kernel
theorem dX12_goOrders_33 : decode cX12_goOrders 33 = .ok (.iload 4, 2) := by decide +kernel
theorem dX12_goOrders_35 : decode cX12_goOrders 35 = .ok (.putfield 323, 3) := by decide +kernel
theorem dX12_goOrders_38 : decode cX12_goOrders 38 = .ok (.iconst 0, 1) := by decide +kernel
theorem dX12_goOrders_39 : decode cX12_goOrders 39 = .ok (.istore 5, 2) := by decide +kernel
theorem dX12_goOrders_41 : decode cX12_goOrders 41 = .ok (.iload 5, 2) := by decide +kernel
theorem dX12_goOrders_43 : decode cX12_goOrders 43 = .ok (.aload_n 0, 1) := by decide +kernel
theorem dX12_goOrders_44 : decode cX12_goOrders 44 = .ok (.getfield 292, 3) := by decide +kernel
theorem dX12_goOrders_47 : decode cX12_goOrders 47 = .ok (.if_icmp .ge 23, 3) := by decide +kernel
theorem dX12_goOrders_50 : decode cX12_goOrders 50 = .ok (.aload_n 0, 1) := by decide +kernel
theorem dX12_goOrders_51 : decode cX12_goOrders 51 = .ok (.getfield 94, 3) := by decide +kernel
theorem dX12_goOrders_54 : decode cX12_goOrders 54 = .ok (.iload 5, 2) := by decide +kernel
theorem dX12_goOrders_56 : decode cX12_goOrders 56 = .ok (.aload_n 0, 1) := by decide +kernel
theorem dX12_goOrders_57 : decode cX12_goOrders 57 = .ok (.getfield 88, 3) := by decide +kernel
theorem dX12_goOrders_60 : decode cX12_goOrders 60 = .ok (.iload 5, 2) := by decide +kernel
theorem dX12_goOrders_62 : decode cX12_goOrders 62 = .ok (.iaload, 1) := by decide +kernel
theorem dX12_goOrders_63 : decode cX12_goOrders 63 = .ok (.iastore, 1) := by decide +kernel
theorem dX12_goOrders_64 : decode cX12_goOrders 64 = .ok (.iinc 5 1, 3) := by decide +kernel
theorem dX12_goOrders_67 : decode cX12_goOrders 67 = .ok (.goto (-26), 3) := by decide +kernel
theorem dX12_goOrders_70 : decode cX12_goOrders 70 = .ok (.return_, 1) := by decide +kernel
theorem dX12_goOrders_71 : decode cX12_goOrders 71 = .ok (.iconst 0, 1) := by decide +kernel
theorem dX12_goOrders_72 : decode cX12_goOrders 72 = .ok (.istore 4, 2) := by decide +kernel
theorem dX12_goOrders_74 : decode cX12_goOrders 74 = .ok (.iload 4, 2) := by decide +kernel
theorem dX12_goOrders_76 : decode cX12_goOrders 76 = .ok (.aload_n 0, 1) := by decide +kernel
theorem dX12_goOrders_77 : decode cX12_goOrders 77 = .ok (.getfield 292, 3) := by decide +kernel
theorem dX12_goOrders_80 : decode cX12_goOrders 80 = .ok (.if_icmp .ge 49, 3) := by decide +kernel
theorem dX12_goOrders_83 : decode cX12_goOrders 83 = .ok (.iload_n 3, 1) := by decide +kernel
theorem dX12_goOrders_84 : decode cX12_goOrders 84 = .ok (.iload 4, 2) := by decide +kernel
theorem dX12_goOrders_86 : decode cX12_goOrders 86 = .ok (.ishr, 1) := by decide +kernel
theorem dX12_goOrders_87 : decode cX12_goOrders 87 = .ok (.iconst 1, 1) := by decide +kernel
theorem dX12_goOrders_88 : decode cX12_goOrders 88 = .ok (.iand, 1) := by decide +kernel
theorem dX12_goOrders_89 : decode cX12_goOrders 89 = .ok (.iconst 1, 1) := by decide +kernel
theorem dX12_goOrders_90 : decode cX12_goOrders 90 = .ok (.if_icmp .ne 6, 3) := by decide +kernel
theorem dX12_goOrders_93 : decode cX12_goOrders 93 = .ok (.goto 30, 3) := by decide +kernel
theorem dX12_goOrders_96 : decode cX12_goOrders 96 = .ok (.aload_n 0, 1) := by decide +kernel
theorem dX12_goOrders_97 : decode cX12_goOrders 97 = .ok (.getfield 88, 3) := by decide +kernel
theorem dX12_goOrders_100 : decode cX12_goOrders 100 = .ok (.iload_n 2, 1) := by decide +kernel
theorem dX12_goOrders_101 : decode cX12_goOrders 101 = .ok (.aload_n 0, 1) := by decide +kernel
theorem dX12_goOrders_102 : decode cX12_goOrders 102 = .ok (.getfield 91, 3) := by decide +kernel
theorem dX12_goOrders_105 : decode cX12_goOrders 105 = .ok (.iload 4, 2) := by decide +kernel
theorem dX12_goOrders_107 : decode cX12_goOrders 107 = .ok (.iaload, 1) := by decide +kernel
theorem dX12_goOrders_108 : decode cX12_goOrders 108 = .ok (.iastore, 1) := by decide +kernel
theorem dX12_goOrders_109 : decode cX12_goOrders 109 = .ok (.aload_n 0, 1) := by decide +kernel
theorem dX12_goOrders_110 : decode cX12_goOrders 110 = .ok (.iload_n 1, 1) := by decide +kernel
theorem dX12_goOrders_111 : decode cX12_goOrders 111 = .ok (.iload_n 2, 1) := by decide +kernel
theorem dX12_goOrders_112 : decode cX12_goOrders 112 = .ok (.iconst 1, 1) := by decide +kernel
theorem dX12_goOrders_113 : decode cX12_goOrders 113 = .ok (.iadd, 1) := by decide +kernel
theorem dX12_goOrders_114 : decode cX12_goOrders 114 = .ok (.iload_n 3, 1) := by decide +kernel
theorem dX12_goOrders_115 : decode cX12_goOrders 115 = .ok (.iconst 1, 1) := by decide +kernel
theorem dX12_goOrders_116 : decode cX12_goOrders 116 = .ok (.iload 4, 2) := by decide +kernel
theorem dX12_goOrders_118 : decode cX12_goOrders 118 = .ok (.ishl, 1) := by decide +kernel
theorem dX12_goOrders_119 : decode cX12_goOrders 119 = .ok (.ior, 1) := by decide +kernel
theorem dX12_goOrders_120 : decode cX12_goOrders 120 = .ok (.invokevirtual 326, 3) := by decide +kernel
theorem dX12_goOrders_123 : decode cX12_goOrders 123 = .ok (.iinc 4 1, 3) := by decide +kernel
theorem dX12_goOrders_126 : decode cX12_goOrders 126 = .ok (.goto (-52), 3) := by decide +kernel
theorem dX12_goOrders_129 : decode cX12_goOrders 129 = .ok (.return_, 1) := by decide +kernel
theorem dX12_order_0 : decode cX12_order 0 = .ok (.iload_n 1, 1) := by decide +kernel
theorem dX12_order_1 : decode cX12_order 1 = .ok (.invokestatic 165, 3) := by decide +kernel
theorem dX12_order_4 : decode cX12_order 4 = .ok (.ifCond .ne 5, 3) := by decide +kernel
theorem dX12_order_7 : decode cX12_order 7 = .ok (.iconst (-1), 1) := by decide +kernel
theorem dX12_order_8 : decode cX12_order 8 = .ok (.ireturn, 1) := by decide +kernel
theorem dX12_order_9 : decode cX12_order 9 = .ok (.aload_n 0, 1) := by decide +kernel
theorem dX12_order_10 : decode cX12_order 10 = .ok (.iload_n 1, 1) := by decide +kernel
theorem dX12_order_11 : decode cX12_order 11 = .ok (.invokevirtual 305, 3) := by decide +kernel
theorem dX12_order_14 : decode cX12_order 14 = .ok (.iload_n 2, 1) := by decide +kernel
theorem dX12_order_15 : decode cX12_order 15 = .ok (.iconst (-1), 1) := by decide +kernel
theorem dX12_order_16 : decode cX12_order 16 = .ok (.aload_n 0, 1) := by decide +kernel
theorem dX12_order_17 : decode cX12_order 17 = .ok (.getfield 292, 3) := by decide +kernel
theorem dX12_order_20 : decode cX12_order 20 = .ok (.iconst 1, 1) := by decide +kernel
theorem dX12_order_21 : decode cX12_order 21 = .ok (.isub, 1) := by decide +kernel
theorem dX12_order_22 : decode cX12_order 22 = .ok (.invokestatic 128, 3) := by decide +kernel
theorem dX12_order_25 : decode cX12_order 25 = .ok (.ifCond .ne 5, 3) := by decide +kernel
theorem dX12_order_28 : decode cX12_order 28 = .ok (.iconst (-1), 1) := by decide +kernel
theorem dX12_order_29 : decode cX12_order 29 = .ok (.ireturn, 1) := by decide +kernel
theorem dX12_order_30 : decode cX12_order 30 = .ok (.aload_n 0, 1) := by decide +kernel
theorem dX12_order_31 : decode cX12_order 31 = .ok (.getfield 292, 3) := by decide +kernel
theorem dX12_order_34 : decode cX12_order 34 = .ok (.iconst 5, 1) := by decide +kernel
theorem dX12_order_35 : decode cX12_order 35 = .ok (.if_icmp .le 6, 3) := by decide +kernel
theorem dX12_order_38 : decode cX12_order 38 = .ok (.bipush (-5), 2) := by decide +kernel
theorem dX12_order_40 : decode cX12_order 40 = .ok (.ireturn, 1) := by decide +kernel
theorem dX12_order_41 : decode cX12_order 41 = .ok (.iconst 0, 1) := by decide +kernel
theorem dX12_order_42 : decode cX12_order 42 = .ok (.istore_n 3, 1) := by decide +kernel
theorem dX12_order_43 : decode cX12_order 43 = .ok (.iload_n 3, 1) := by decide +kernel
theorem dX12_order_44 : decode cX12_order 44 = .ok (.aload_n 0, 1) := by decide +kernel
theorem dX12_order_45 : decode cX12_order 45 = .ok (.getfield 292, 3) := by decide +kernel
theorem dX12_order_48 : decode cX12_order 48 = .ok (.if_icmp .ge 21, 3) := by decide +kernel
theorem dX12_order_51 : decode cX12_order 51 = .ok (.aload_n 0, 1) := by decide +kernel
theorem dX12_order_52 : decode cX12_order 52 = .ok (.getfield 91, 3) := by decide +kernel
theorem dX12_order_55 : decode cX12_order 55 = .ok (.iload_n 3, 1) := by decide +kernel
theorem dX12_order_56 : decode cX12_order 56 = .ok (.aload_n 0, 1) := by decide +kernel
theorem dX12_order_57 : decode cX12_order 57 = .ok (.getfield 88, 3) := by decide +kernel
theorem dX12_order_60 : decode cX12_order 60 = .ok (.iload_n 3, 1) := by decide +kernel
theorem dX12_order_61 : decode cX12_order 61 = .ok (.iaload, 1) := by decide +kernel
theorem dX12_order_62 : decode cX12_order 62 = .ok (.iastore, 1) := by decide +kernel
theorem dX12_order_63 : decode cX12_order 63 = .ok (.iinc 3 1, 3) := by decide +kernel
theorem dX12_order_66 : decode cX12_order 66 = .ok (.goto (-23), 3) := by decide +kernel
theorem dX12_order_69 : decode cX12_order 69 = .ok (.aload_n 0, 1) := by decide +kernel
theorem dX12_order_70 : decode cX12_order 70 = .ok (.iconst (-1), 1) := by decide +kernel
theorem dX12_order_71 : decode cX12_order 71 = .ok (.putfield 323, 3) := by decide +kernel
theorem dX12_order_74 : decode cX12_order 74 = .ok (.aload_n 0, 1) := by decide +kernel
theorem dX12_order_75 : decode cX12_order 75 = .ok (.iload_n 1, 1) := by decide +kernel
theorem dX12_order_76 : decode cX12_order 76 = .ok (.iconst 0, 1) := by decide +kernel
theorem dX12_order_77 : decode cX12_order 77 = .ok (.iconst 0, 1) := by decide +kernel
theorem dX12_order_78 : decode cX12_order 78 = .ok (.invokevirtual 326, 3) := by decide +kernel
theorem dX12_order_81 : decode cX12_order 81 = .ok (.iload_n 2, 1) := by decide +kernel
theorem dX12_order_82 : decode cX12_order 82 = .ok (.ifCond .ge 10, 3) := by decide +kernel
theorem dX12_order_85 : decode cX12_order 85 = .ok (.aload_n 0, 1) := by decide +kernel
theorem dX12_order_86 : decode cX12_order 86 = .ok (.getfield 323, 3) := by decide +kernel
theorem dX12_order_89 : decode cX12_order 89 = .ok (.goto 9, 3) := by decide +kernel
theorem dX12_order_92 : decode cX12_order 92 = .ok (.aload_n 0, 1) := by decide +kernel
theorem dX12_order_93 : decode cX12_order 93 = .ok (.getfield 94, 3) := by decide +kernel
theorem dX12_order_96 : decode cX12_order 96 = .ok (.iload_n 2, 1) := by decide +kernel
theorem dX12_order_97 : decode cX12_order 97 = .ok (.iaload, 1) := by decide +kernel
theorem dX12_order_98 : decode cX12_order 98 = .ok (.ireturn, 1) := by decide +kernel
theorem dX12_thereFrom_0 : decode cX12_thereFrom 0 = .ok (.iload_n 1, 1) := by decide +kernel
theorem dX12_thereFrom_1 : decode cX12_thereFrom 1 = .ok (.istore_n 3, 1) := by decide +kernel
theorem dX12_thereFrom_2 : decode cX12_thereFrom 2 = .ok (.iload_n 3, 1) := by decide +kernel
theorem dX12_thereFrom_3 : decode cX12_thereFrom 3 = .ok (.aload_n 0, 1) := by decide +kernel
theorem dX12_thereFrom_4 : decode cX12_thereFrom 4 = .ok (.getfield 292, 3) := by decide +kernel
theorem dX12_thereFrom_7 : decode cX12_thereFrom 7 = .ok (.if_icmp .ge 21, 3) := by decide +kernel
theorem dX12_thereFrom_10 : decode cX12_thereFrom 10 = .ok (.aload_n 0, 1) := by decide +kernel
theorem dX12_thereFrom_11 : decode cX12_thereFrom 11 = .ok (.getfield 88, 3) := by decide +kernel
theorem dX12_thereFrom_14 : decode cX12_thereFrom 14 = .ok (.iload_n 3, 1) := by decide +kernel
theorem dX12_thereFrom_15 : decode cX12_thereFrom 15 = .ok (.iaload, 1) := by decide +kernel
theorem dX12_thereFrom_16 : decode cX12_thereFrom 16 = .ok (.iload_n 2, 1) := by decide +kernel
theorem dX12_thereFrom_17 : decode cX12_thereFrom 17 = .ok (.if_icmp .eq 5, 3) := by decide +kernel
theorem dX12_thereFrom_20 : decode cX12_thereFrom 20 = .ok (.iload_n 3, 1) := by decide +kernel
theorem dX12_thereFrom_21 : decode cX12_thereFrom 21 = .ok (.ireturn, 1) := by decide +kernel
theorem dX12_thereFrom_22 : decode cX12_thereFrom 22 = .ok (.iinc 3 1, 3) := by decide +kernel
theorem dX12_thereFrom_25 : decode cX12_thereFrom 25 = .ok (.goto (-23), 3) := by decide +kernel
theorem dX12_thereFrom_28 : decode cX12_thereFrom 28 = .ok (.iconst (-1), 1) := by decide +kernel
theorem dX12_thereFrom_29 : decode cX12_thereFrom 29 = .ok (.ireturn, 1) := by decide +kernel
theorem dX12_held_0 : decode cX12_held 0 = .ok (.iload_n 1, 1) := by decide +kernel
theorem dX12_held_1 : decode cX12_held 1 = .ok (.invokestatic 311, 3) := by decide +kernel
theorem dX12_held_4 : decode cX12_held 4 = .ok (.ifCond .eq 18, 3) := by decide +kernel
theorem dX12_held_7 : decode cX12_held 7 = .ok (.iload_n 2, 1) := by decide +kernel
theorem dX12_held_8 : decode cX12_held 8 = .ok (.ifCond .lt 14, 3) := by decide +kernel
theorem dX12_held_11 : decode cX12_held 11 = .ok (.aload_n 0, 1) := by decide +kernel
theorem dX12_held_12 : decode cX12_held 12 = .ok (.iload_n 2, 1) := by decide +kernel
theorem dX12_held_13 : decode cX12_held 13 = .ok (.bipush 10, 2) := by decide +kernel
theorem dX12_held_15 : decode cX12_held 15 = .ok (.idiv, 1) := by decide +kernel
theorem dX12_held_16 : decode cX12_held 16 = .ok (.invokevirtual 162, 3) := by decide +kernel
theorem dX12_held_19 : decode cX12_held 19 = .ok (.ifCond .ne 5, 3) := by decide +kernel
theorem dX12_held_22 : decode cX12_held 22 = .ok (.iconst (-1), 1) := by decide +kernel
theorem dX12_held_23 : decode cX12_held 23 = .ok (.ireturn, 1) := by decide +kernel
theorem dX12_held_24 : decode cX12_held 24 = .ok (.iload_n 2, 1) := by decide +kernel
theorem dX12_held_25 : decode cX12_held 25 = .ok (.bipush 10, 2) := by decide +kernel
theorem dX12_held_27 : decode cX12_held 27 = .ok (.idiv, 1) := by decide +kernel
theorem dX12_held_28 : decode cX12_held 28 = .ok (.istore_n 3, 1) := by decide +kernel
theorem dX12_held_29 : decode cX12_held 29 = .ok (.aload_n 0, 1) := by decide +kernel
theorem dX12_held_30 : decode cX12_held 30 = .ok (.getfield 28, 3) := by decide +kernel
theorem dX12_held_33 : decode cX12_held 33 = .ok (.iload_n 3, 1) := by decide +kernel
theorem dX12_held_34 : decode cX12_held 34 = .ok (.iaload, 1) := by decide +kernel
theorem dX12_held_35 : decode cX12_held 35 = .ok (.istore 4, 2) := by decide +kernel
theorem dX12_held_37 : decode cX12_held 37 = .ok (.iload 4, 2) := by decide +kernel
theorem dX12_held_39 : decode cX12_held 39 = .ok (.iconst 3, 1) := by decide +kernel
theorem dX12_held_40 : decode cX12_held 40 = .ok (.if_icmp .ne 6, 3) := by decide +kernel
theorem dX12_held_43 : decode cX12_held 43 = .ok (.bipush (-5), 2) := by decide +kernel
theorem dX12_held_45 : decode cX12_held 45 = .ok (.ireturn, 1) := by decide +kernel
theorem dX12_held_46 : decode cX12_held 46 = .ok (.aload_n 0, 1) := by decide +kernel
theorem dX12_held_47 : decode cX12_held 47 = .ok (.iload 4, 2) := by decide +kernel
theorem dX12_held_49 : decode cX12_held 49 = .ok (.invokevirtual 305, 3) := by decide +kernel
theorem dX12_held_52 : decode cX12_held 52 = .ok (.iconst 0, 1) := by decide +kernel
theorem dX12_held_53 : decode cX12_held 53 = .ok (.istore 5, 2) := by decide +kernel
theorem dX12_held_55 : decode cX12_held 55 = .ok (.iconst 0, 1) := by decide +kernel
theorem dX12_held_56 : decode cX12_held 56 = .ok (.istore 6, 2) := by decide +kernel
theorem dX12_held_58 : decode cX12_held 58 = .ok (.iconst 0, 1) := by decide +kernel
theorem dX12_held_59 : decode cX12_held 59 = .ok (.istore 7, 2) := by decide +kernel
theorem dX12_held_61 : decode cX12_held 61 = .ok (.iload 6, 2) := by decide +kernel
theorem dX12_held_63 : decode cX12_held 63 = .ok (.iconst 1, 1) := by decide +kernel
theorem dX12_held_64 : decode cX12_held 64 = .ok (.if_icmp .ne 16, 3) := by decide +kernel
theorem dX12_held_67 : decode cX12_held 67 = .ok (.iload 7, 2) := by decide +kernel
theorem dX12_held_69 : decode cX12_held 69 = .ok (.iload_n 2, 1) := by decide +kernel
theorem dX12_held_70 : decode cX12_held 70 = .ok (.bipush 10, 2) := by decide +kernel
theorem dX12_held_72 : decode cX12_held 72 = .ok (.irem, 1) := by decide +kernel
theorem dX12_held_73 : decode cX12_held 73 = .ok (.if_icmp .ge 7, 3) := by decide +kernel
theorem dX12_held_76 : decode cX12_held 76 = .ok (.iload_n 3, 1) := by decide +kernel
theorem dX12_held_77 : decode cX12_held 77 = .ok (.goto 4, 3) := by decide +kernel
theorem dX12_held_80 : decode cX12_held 80 = .ok (.iconst (-1), 1) := by decide +kernel
theorem dX12_held_81 : decode cX12_held 81 = .ok (.istore 8, 2) := by decide +kernel
theorem dX12_held_83 : decode cX12_held 83 = .ok (.aload_n 0, 1) := by decide +kernel
theorem dX12_held_84 : decode cX12_held 84 = .ok (.iconst 0, 1) := by decide +kernel
theorem dX12_held_85 : decode cX12_held 85 = .ok (.iload 8, 2) := by decide +kernel
theorem dX12_held_87 : decode cX12_held 87 = .ok (.invokevirtual 329, 3) := by decide +kernel
theorem dX12_held_90 : decode cX12_held 90 = .ok (.istore 9, 2) := by decide +kernel
theorem dX12_held_92 : decode cX12_held 92 = .ok (.iload 9, 2) := by decide +kernel
theorem dX12_held_94 : decode cX12_held 94 = .ok (.ifCond .ge 6, 3) := by decide +kernel
theorem dX12_held_97 : decode cX12_held 97 = .ok (.iload 6, 2) := by decide +kernel
theorem dX12_held_99 : decode cX12_held 99 = .ok (.ireturn, 1) := by decide +kernel
theorem dX12_held_100 : decode cX12_held 100 = .ok (.iload 8, 2) := by decide +kernel
theorem dX12_held_102 : decode cX12_held 102 = .ok (.ifCond .ge 10, 3) := by decide +kernel
theorem dX12_held_105 : decode cX12_held 105 = .ok (.aload_n 0, 1) := by decide +kernel
theorem dX12_held_106 : decode cX12_held 106 = .ok (.getfield 292, 3) := by decide +kernel
theorem dX12_held_109 : decode cX12_held 109 = .ok (.goto 9, 3) := by decide +kernel
theorem dX12_held_112 : decode cX12_held 112 = .ok (.aload_n 0, 1) := by decide +kernel
theorem dX12_held_113 : decode cX12_held 113 = .ok (.getfield 292, 3) := by decide +kernel
theorem dX12_held_116 : decode cX12_held 116 = .ok (.iconst 1, 1) := by decide +kernel
theorem dX12_held_117 : decode cX12_held 117 = .ok (.isub, 1) := by decide +kernel
theorem dX12_held_118 : decode cX12_held 118 = .ok (.istore 10, 2) := by decide +kernel
theorem dX12_held_120 : decode cX12_held 120 = .ok (.aload_n 0, 1) := by decide +kernel
theorem dX12_held_121 : decode cX12_held 121 = .ok (.iload 9, 2) := by decide +kernel
theorem dX12_held_123 : decode cX12_held 123 = .ok (.iconst 1, 1) := by decide +kernel
theorem dX12_held_124 : decode cX12_held 124 = .ok (.iadd, 1) := by decide +kernel
theorem dX12_held_125 : decode cX12_held 125 = .ok (.iload 8, 2) := by decide +kernel
theorem dX12_held_127 : decode cX12_held 127 = .ok (.invokevirtual 329, 3) := by decide +kernel
theorem dX12_held_130 : decode cX12_held 130 = .ok (.istore 11, 2) := by decide +kernel
theorem dX12_held_132 : decode cX12_held 132 = .ok (.aload_n 0, 1) := by decide +kernel
theorem dX12_held_133 : decode cX12_held 133 = .ok (.getfield 88, 3) := by decide +kernel
theorem dX12_held_136 : decode cX12_held 136 = .ok (.iload 9, 2) := by decide +kernel
theorem dX12_held_138 : decode cX12_held 138 = .ok (.iaload, 1) := by decide +kernel
theorem dX12_held_139 : decode cX12_held 139 = .ok (.istore 12, 2) := by decide +kernel
theorem dX12_held_141 : decode cX12_held 141 = .ok (.aload_n 0, 1) := by decide +kernel
theorem dX12_held_142 : decode cX12_held 142 = .ok (.iload 4, 2) := by decide +kernel
theorem dX12_held_144 : decode cX12_held 144 = .ok (.iload 12, 2) := by decide +kernel
theorem dX12_held_146 : decode cX12_held 146 = .ok (.iload 11, 2) := by decide +kernel
theorem dX12_held_148 : decode cX12_held 148 = .ok (.ifCond .ge 29, 3) := by decide +kernel
theorem dX12_held_151 : decode cX12_held 151 = .ok (.iload 10, 2) := by decide +kernel
theorem dX12_held_153 : decode cX12_held 153 = .ok (.iconst 1, 1) := by decide +kernel
theorem dX12_held_154 : decode cX12_held 154 = .ok (.if_icmp .le 18, 3) := by decide +kernel
theorem dX12_held_157 : decode cX12_held 157 = .ok (.aload_n 0, 1) := by decide +kernel
theorem dX12_held_158 : decode cX12_held 158 = .ok (.getfield 88, 3) := by decide +kernel
theorem dX12_held_161 : decode cX12_held 161 = .ok (.aload_n 0, 1) := by decide +kernel
theorem dX12_held_162 : decode cX12_held 162 = .ok (.iconst 0, 1) := by decide +kernel
theorem dX12_held_163 : decode cX12_held 163 = .ok (.iload 8, 2) := by decide +kernel
theorem dX12_held_165 : decode cX12_held 165 = .ok (.invokevirtual 329, 3) := by decide +kernel
theorem dX12_held_168 : decode cX12_held 168 = .ok (.iaload, 1) := by decide +kernel
theorem dX12_held_169 : decode cX12_held 169 = .ok (.goto 15, 3) := by decide +kernel
theorem dX12_held_172 : decode cX12_held 172 = .ok (.bipush 9, 2) := by decide +kernel
theorem dX12_held_174 : decode cX12_held 174 = .ok (.goto 10, 3) := by decide +kernel
theorem dX12_held_177 : decode cX12_held 177 = .ok (.aload_n 0, 1) := by decide +kernel
theorem dX12_held_178 : decode cX12_held 178 = .ok (.getfield 88, 3) := by decide +kernel
theorem dX12_held_181 : decode cX12_held 181 = .ok (.iload 11, 2) := by decide +kernel
theorem dX12_held_183 : decode cX12_held 183 = .ok (.iaload, 1) := by decide +kernel
theorem dX12_held_184 : decode cX12_held 184 = .ok (.iload 10, 2) := by decide +kernel
theorem dX12_held_186 : decode cX12_held 186 = .ok (.iconst 1, 1) := by decide +kernel
theorem dX12_held_187 : decode cX12_held 187 = .ok (.isub, 1) := by decide +kernel
theorem dX12_held_188 : decode cX12_held 188 = .ok (.invokevirtual 278, 3) := by decide +kernel
theorem dX12_held_191 : decode cX12_held 191 = .ok (.iload 5, 2) := by decide +kernel
theorem dX12_held_193 : decode cX12_held 193 = .ok (.aload_n 0, 1) := by decide +kernel
theorem dX12_held_194 : decode cX12_held 194 = .ok (.getfield 260, 3) := by decide +kernel
theorem dX12_held_197 : decode cX12_held 197 = .ok (.iadd, 1) := by decide +kernel
theorem dX12_held_198 : decode cX12_held 198 = .ok (.istore 5, 2) := by decide +kernel
theorem dX12_held_200 : decode cX12_held 200 = .ok (.iload 5, 2) := by decide +kernel
theorem dX12_held_202 : decode cX12_held 202 = .ok (.iload_n 1, 1) := by decide +kernel
theorem dX12_held_203 : decode cX12_held 203 = .ok (.if_icmp .le 6, 3) := by decide +kernel
theorem dX12_held_206 : decode cX12_held 206 = .ok (.iload 6, 2) := by decide +kernel
theorem dX12_held_208 : decode cX12_held 208 = .ok (.ireturn, 1) := by decide +kernel
theorem dX12_held_209 : decode cX12_held 209 = .ok (.iload 12, 2) := by decide +kernel
theorem dX12_held_211 : decode cX12_held 211 = .ok (.iload_n 3, 1) := by decide +kernel
theorem dX12_held_212 : decode cX12_held 212 = .ok (.if_icmp .ne 9, 3) := by decide +kernel
theorem dX12_held_215 : decode cX12_held 215 = .ok (.iinc 6 1, 3) := by decide +kernel
theorem dX12_held_218 : decode cX12_held 218 = .ok (.goto 12, 3) := by decide +kernel
theorem dX12_held_221 : decode cX12_held 221 = .ok (.iload 6, 2) := by decide +kernel
theorem dX12_held_223 : decode cX12_held 223 = .ok (.iconst 1, 1) := by decide +kernel
theorem dX12_held_224 : decode cX12_held 224 = .ok (.if_icmp .ne 6, 3) := by decide +kernel
theorem dX12_held_227 : decode cX12_held 227 = .ok (.iinc 7 1, 3) := by decide +kernel
theorem dX12_held_230 : decode cX12_held 230 = .ok (.aload_n 0, 1) := by decide +kernel
theorem dX12_held_231 : decode cX12_held 231 = .ok (.iload 9, 2) := by decide +kernel
theorem dX12_held_233 : decode cX12_held 233 = .ok (.invokevirtual 295, 3) := by decide +kernel
theorem dX12_held_236 : decode cX12_held 236 = .ok (.goto (-175), 3) := by decide +kernel
theorem dX12_trade_0 : decode cX12_trade 0 = .ok (.iload_n 1, 1) := by decide +kernel
theorem dX12_trade_1 : decode cX12_trade 1 = .ok (.invokestatic 311, 3) := by decide +kernel
theorem dX12_trade_4 : decode cX12_trade 4 = .ok (.ifCond .eq 40, 3) := by decide +kernel
theorem dX12_trade_7 : decode cX12_trade 7 = .ok (.iload_n 2, 1) := by decide +kernel
theorem dX12_trade_8 : decode cX12_trade 8 = .ok (.ifCond .lt 36, 3) := by decide +kernel
theorem dX12_trade_11 : decode cX12_trade 11 = .ok (.aload_n 0, 1) := by decide +kernel
theorem dX12_trade_12 : decode cX12_trade 12 = .ok (.iload_n 2, 1) := by decide +kernel
theorem dX12_trade_13 : decode cX12_trade 13 = .ok (.bipush 10, 2) := by decide +kernel
theorem dX12_trade_15 : decode cX12_trade 15 = .ok (.idiv, 1) := by decide +kernel
theorem dX12_trade_16 : decode cX12_trade 16 = .ok (.invokevirtual 162, 3) := by decide +kernel
theorem dX12_trade_19 : decode cX12_trade 19 = .ok (.ifCond .eq 25, 3) := by decide +kernel
theorem dX12_trade_22 : decode cX12_trade 22 = .ok (.aload_n 0, 1) := by decide +kernel
theorem dX12_trade_23 : decode cX12_trade 23 = .ok (.iload_n 2, 1) := by decide +kernel
theorem dX12_trade_24 : decode cX12_trade 24 = .ok (.bipush 10, 2) := by decide +kernel
theorem dX12_trade_26 : decode cX12_trade 26 = .ok (.irem, 1) := by decide +kernel
theorem dX12_trade_27 : decode cX12_trade 27 = .ok (.invokevirtual 162, 3) := by decide +kernel
theorem dX12_trade_30 : decode cX12_trade 30 = .ok (.ifCond .eq 14, 3) := by decide +kernel
theorem dX12_trade_33 : decode cX12_trade 33 = .ok (.iload_n 2, 1) := by decide +kernel
theorem dX12_trade_34 : decode cX12_trade 34 = .ok (.bipush 10, 2) := by decide +kernel
theorem dX12_trade_36 : decode cX12_trade 36 = .ok (.idiv, 1) := by decide +kernel
theorem dX12_trade_37 : decode cX12_trade 37 = .ok (.iload_n 2, 1) := by decide +kernel
theorem dX12_trade_38 : decode cX12_trade 38 = .ok (.bipush 10, 2) := by decide +kernel
theorem dX12_trade_40 : decode cX12_trade 40 = .ok (.irem, 1) := by decide +kernel
theorem dX12_trade_41 : decode cX12_trade 41 = .ok (.if_icmp .ne 7, 3) := by decide +kernel
theorem dX12_trade_44 : decode cX12_trade 44 = .ok (.ldc_w 291, 3) := by decide +kernel
theorem dX12_trade_47 : decode cX12_trade 47 = .ok (.ireturn, 1) := by decide +kernel
theorem dX12_trade_48 : decode cX12_trade 48 = .ok (.iload_n 2, 1) := by decide +kernel
theorem dX12_trade_49 : decode cX12_trade 49 = .ok (.bipush 10, 2) := by decide +kernel
theorem dX12_trade_51 : decode cX12_trade 51 = .ok (.idiv, 1) := by decide +kernel
theorem dX12_trade_52 : decode cX12_trade 52 = .ok (.istore_n 3, 1) := by decide +kernel
theorem dX12_trade_53 : decode cX12_trade 53 = .ok (.iload_n 2, 1) := by decide +kernel
theorem dX12_trade_54 : decode cX12_trade 54 = .ok (.bipush 10, 2) := by decide +kernel
theorem dX12_trade_56 : decode cX12_trade 56 = .ok (.irem, 1) := by decide +kernel
theorem dX12_trade_57 : decode cX12_trade 57 = .ok (.istore 4, 2) := by decide +kernel
theorem dX12_trade_59 : decode cX12_trade 59 = .ok (.aload_n 0, 1) := by decide +kernel
theorem dX12_trade_60 : decode cX12_trade 60 = .ok (.getfield 28, 3) := by decide +kernel
theorem dX12_trade_63 : decode cX12_trade 63 = .ok (.iload_n 3, 1) := by decide +kernel
theorem dX12_trade_64 : decode cX12_trade 64 = .ok (.iaload, 1) := by decide +kernel
theorem dX12_trade_65 : decode cX12_trade 65 = .ok (.istore 5, 2) := by decide +kernel
theorem dX12_trade_67 : decode cX12_trade 67 = .ok (.iload 5, 2) := by decide +kernel
theorem dX12_trade_69 : decode cX12_trade 69 = .ok (.iconst 3, 1) := by decide +kernel
theorem dX12_trade_70 : decode cX12_trade 70 = .ok (.if_icmp .eq 15, 3) := by decide +kernel
theorem dX12_trade_73 : decode cX12_trade 73 = .ok (.aload_n 0, 1) := by decide +kernel
theorem dX12_trade_74 : decode cX12_trade 74 = .ok (.getfield 28, 3) := by decide +kernel
theorem dX12_trade_77 : decode cX12_trade 77 = .ok (.iload 4, 2) := by decide +kernel
theorem dX12_trade_79 : decode cX12_trade 79 = .ok (.iaload, 1) := by decide +kernel
theorem dX12_trade_80 : decode cX12_trade 80 = .ok (.iload 5, 2) := by decide +kernel
theorem dX12_trade_82 : decode cX12_trade 82 = .ok (.if_icmp .eq 6, 3) := by decide +kernel
theorem dX12_trade_85 : decode cX12_trade 85 = .ok (.bipush (-5), 2) := by decide +kernel
theorem dX12_trade_87 : decode cX12_trade 87 = .ok (.ireturn, 1) := by decide +kernel
theorem dX12_trade_88 : decode cX12_trade 88 = .ok (.aload_n 0, 1) := by decide +kernel
theorem dX12_trade_89 : decode cX12_trade 89 = .ok (.iload_n 1, 1) := by decide +kernel
theorem dX12_trade_90 : decode cX12_trade 90 = .ok (.invokevirtual 314, 3) := by decide +kernel
theorem dX12_trade_93 : decode cX12_trade 93 = .ok (.aload_n 0, 1) := by decide +kernel
theorem dX12_trade_94 : decode cX12_trade 94 = .ok (.getfield 79, 3) := by decide +kernel
theorem dX12_trade_97 : decode cX12_trade 97 = .ok (.iload_n 3, 1) := by decide +kernel
theorem dX12_trade_98 : decode cX12_trade 98 = .ok (.iaload, 1) := by decide +kernel
theorem dX12_trade_99 : decode cX12_trade 99 = .ok (.istore 6, 2) := by decide +kernel
theorem dX12_trade_101 : decode cX12_trade 101 = .ok (.aload_n 0, 1) := by decide +kernel
theorem dX12_trade_102 : decode cX12_trade 102 = .ok (.invokevirtual 302, 3) := by decide +kernel
theorem dX12_trade_105 : decode cX12_trade 105 = .ok (.aload_n 0, 1) := by decide +kernel
theorem dX12_trade_106 : decode cX12_trade 106 = .ok (.iload 5, 2) := by decide +kernel
theorem dX12_trade_108 : decode cX12_trade 108 = .ok (.invokevirtual 305, 3) := by decide +kernel
theorem dX12_trade_111 : decode cX12_trade 111 = .ok (.iconst 0, 1) := by decide +kernel
theorem dX12_trade_112 : decode cX12_trade 112 = .ok (.istore 7, 2) := by decide +kernel
theorem dX12_trade_114 : decode cX12_trade 114 = .ok (.iload 7, 2) := by decide +kernel
theorem dX12_trade_116 : decode cX12_trade 116 = .ok (.aload_n 0, 1) := by decide +kernel
theorem dX12_trade_117 : decode cX12_trade 117 = .ok (.getfield 292, 3) := by decide +kernel
theorem dX12_trade_120 : decode cX12_trade 120 = .ok (.if_icmp .ge 55, 3) := by decide +kernel
theorem dX12_trade_123 : decode cX12_trade 123 = .ok (.aload_n 0, 1) := by decide +kernel
theorem dX12_trade_124 : decode cX12_trade 124 = .ok (.getfield 88, 3) := by decide +kernel
theorem dX12_trade_127 : decode cX12_trade 127 = .ok (.iload 7, 2) := by decide +kernel
theorem dX12_trade_129 : decode cX12_trade 129 = .ok (.aload_n 0, 1) := by decide +kernel
theorem dX12_trade_130 : decode cX12_trade 130 = .ok (.getfield 88, 3) := by decide +kernel
theorem dX12_trade_133 : decode cX12_trade 133 = .ok (.iload 7, 2) := by decide +kernel
theorem dX12_trade_135 : decode cX12_trade 135 = .ok (.iaload, 1) := by decide +kernel
theorem dX12_trade_136 : decode cX12_trade 136 = .ok (.iload_n 3, 1) := by decide +kernel
theorem dX12_trade_137 : decode cX12_trade 137 = .ok (.if_icmp .ne 8, 3) := by decide +kernel
theorem dX12_trade_140 : decode cX12_trade 140 = .ok (.iload 4, 2) := by decide +kernel
theorem dX12_trade_142 : decode cX12_trade 142 = .ok (.goto 26, 3) := by decide +kernel
theorem dX12_trade_145 : decode cX12_trade 145 = .ok (.aload_n 0, 1) := by decide +kernel
theorem dX12_trade_146 : decode cX12_trade 146 = .ok (.getfield 88, 3) := by decide +kernel
theorem dX12_trade_149 : decode cX12_trade 149 = .ok (.iload 7, 2) := by decide +kernel
theorem dX12_trade_151 : decode cX12_trade 151 = .ok (.iaload, 1) := by decide +kernel
theorem dX12_trade_152 : decode cX12_trade 152 = .ok (.iload 4, 2) := by decide +kernel
theorem dX12_trade_154 : decode cX12_trade 154 = .ok (.if_icmp .ne 7, 3) := by decide +kernel
theorem dX12_trade_157 : decode cX12_trade 157 = .ok (.iload_n 3, 1) := by decide +kernel
theorem dX12_trade_158 : decode cX12_trade 158 = .ok (.goto 10, 3) := by decide +kernel
theorem dX12_trade_161 : decode cX12_trade 161 = .ok (.aload_n 0, 1) := by decide +kernel
theorem dX12_trade_162 : decode cX12_trade 162 = .ok (.getfield 88, 3) := by decide +kernel
theorem dX12_trade_165 : decode cX12_trade 165 = .ok (.iload 7, 2) := by decide +kernel
theorem dX12_trade_167 : decode cX12_trade 167 = .ok (.iaload, 1) := by decide +kernel
theorem dX12_trade_168 : decode cX12_trade 168 = .ok (.iastore, 1) := by decide +kernel
theorem dX12_trade_169 : decode cX12_trade 169 = .ok (.iinc 7 1, 3) := by decide +kernel
theorem dX12_trade_172 : decode cX12_trade 172 = .ok (.goto (-58), 3) := by decide +kernel
theorem dX12_trade_175 : decode cX12_trade 175 = .ok (.aload_n 0, 1) := by decide +kernel
theorem dX12_trade_176 : decode cX12_trade 176 = .ok (.iload 5, 2) := by decide +kernel
theorem dX12_trade_178 : decode cX12_trade 178 = .ok (.iload_n 1, 1) := by decide +kernel
theorem dX12_trade_179 : decode cX12_trade 179 = .ok (.invokevirtual 308, 3) := by decide +kernel
theorem dX12_trade_182 : decode cX12_trade 182 = .ok (.iload 6, 2) := by decide +kernel
theorem dX12_trade_184 : decode cX12_trade 184 = .ok (.ifCond .lt 12, 3) := by decide +kernel
theorem dX12_trade_187 : decode cX12_trade 187 = .ok (.aload_n 0, 1) := by decide +kernel
theorem dX12_trade_188 : decode cX12_trade 188 = .ok (.getfield 79, 3) := by decide +kernel
theorem dX12_trade_191 : decode cX12_trade 191 = .ok (.iload_n 3, 1) := by decide +kernel
theorem dX12_trade_192 : decode cX12_trade 192 = .ok (.iaload, 1) := by decide +kernel
theorem dX12_trade_193 : decode cX12_trade 193 = .ok (.ifCond .ge 8, 3) := by decide +kernel
theorem dX12_trade_196 : decode cX12_trade 196 = .ok (.bipush (-2), 2) := by decide +kernel
theorem dX12_trade_198 : decode cX12_trade 198 = .ok (.goto 12, 3) := by decide +kernel
theorem dX12_trade_201 : decode cX12_trade 201 = .ok (.iload 6, 2) := by decide +kernel
theorem dX12_trade_203 : decode cX12_trade 203 = .ok (.aload_n 0, 1) := by decide +kernel
theorem dX12_trade_204 : decode cX12_trade 204 = .ok (.getfield 79, 3) := by decide +kernel
theorem dX12_trade_207 : decode cX12_trade 207 = .ok (.iload_n 3, 1) := by decide +kernel
theorem dX12_trade_208 : decode cX12_trade 208 = .ok (.iaload, 1) := by decide +kernel
theorem dX12_trade_209 : decode cX12_trade 209 = .ok (.isub, 1) := by decide +kernel
theorem dX12_trade_210 : decode cX12_trade 210 = .ok (.ireturn, 1) := by decide +kernel
theorem dX12_drawn_0 : decode cX12_drawn 0 = .ok (.iload_n 2, 1) := by decide +kernel
theorem dX12_drawn_1 : decode cX12_drawn 1 = .ok (.iconst 1, 1) := by decide +kernel
theorem dX12_drawn_2 : decode cX12_drawn 2 = .ok (.bipush 10, 2) := by decide +kernel
theorem dX12_drawn_4 : decode cX12_drawn 4 = .ok (.invokestatic 128, 3) := by decide +kernel
theorem dX12_drawn_7 : decode cX12_drawn 7 = .ok (.ifCond .eq 25, 3) := by decide +kernel
theorem dX12_drawn_10 : decode cX12_drawn 10 = .ok (.iload_n 3, 1) := by decide +kernel
theorem dX12_drawn_11 : decode cX12_drawn 11 = .ok (.invokestatic 311, 3) := by decide +kernel
theorem dX12_drawn_14 : decode cX12_drawn 14 = .ok (.ifCond .eq 18, 3) := by decide +kernel
theorem dX12_drawn_17 : decode cX12_drawn 17 = .ok (.iload 4, 2) := by decide +kernel
theorem dX12_drawn_19 : decode cX12_drawn 19 = .ok (.iconst (-1), 1) := by decide +kernel
theorem dX12_drawn_20 : decode cX12_drawn 20 = .ok (.if_icmp .eq 14, 3) := by decide +kernel
theorem dX12_drawn_23 : decode cX12_drawn 23 = .ok (.aload_n 0, 1) := by decide +kernel
theorem dX12_drawn_24 : decode cX12_drawn 24 = .ok (.iload 4, 2) := by decide +kernel
theorem dX12_drawn_26 : decode cX12_drawn 26 = .ok (.invokevirtual 162, 3) := by decide +kernel
theorem dX12_drawn_29 : decode cX12_drawn 29 = .ok (.ifCond .ne 5, 3) := by decide +kernel
theorem dX12_drawn_32 : decode cX12_drawn 32 = .ok (.iconst (-1), 1) := by decide +kernel
theorem dX12_drawn_33 : decode cX12_drawn 33 = .ok (.ireturn, 1) := by decide +kernel
theorem dX12_drawn_34 : decode cX12_drawn 34 = .ok (.iload_n 1, 1) := by decide +kernel
theorem dX12_drawn_35 : decode cX12_drawn 35 = .ok (.istore 5, 2) := by decide +kernel
theorem dX12_drawn_37 : decode cX12_drawn 37 = .ok (.iconst 0, 1) := by decide +kernel
theorem dX12_drawn_38 : decode cX12_drawn 38 = .ok (.istore 6, 2) := by decide +kernel
theorem dX12_drawn_40 : decode cX12_drawn 40 = .ok (.iconst 0, 1) := by decide +kernel
theorem dX12_drawn_41 : decode cX12_drawn 41 = .ok (.istore 7, 2) := by decide +kernel
theorem dX12_drawn_43 : decode cX12_drawn 43 = .ok (.iload 7, 2) := by decide +kernel
theorem dX12_drawn_45 : decode cX12_drawn 45 = .ok (.iload_n 2, 1) := by decide +kernel
theorem dX12_drawn_46 : decode cX12_drawn 46 = .ok (.if_icmp .ge 164, 3) := by decide +kernel
theorem dX12_drawn_49 : decode cX12_drawn 49 = .ok (.aload_n 0, 1) := by decide +kernel
theorem dX12_drawn_50 : decode cX12_drawn 50 = .ok (.invokevirtual 302, 3) := by decide +kernel
theorem dX12_drawn_53 : decode cX12_drawn 53 = .ok (.iconst 0, 1) := by decide +kernel
theorem dX12_drawn_54 : decode cX12_drawn 54 = .ok (.istore 8, 2) := by decide +kernel
theorem dX12_drawn_56 : decode cX12_drawn 56 = .ok (.iload 8, 2) := by decide +kernel
theorem dX12_drawn_58 : decode cX12_drawn 58 = .ok (.iconst 3, 1) := by decide +kernel
theorem dX12_drawn_59 : decode cX12_drawn 59 = .ok (.if_icmp .ge 103, 3) := by decide +kernel
theorem dX12_drawn_62 : decode cX12_drawn 62 = .ok (.aload_n 0, 1) := by decide +kernel
theorem dX12_drawn_63 : decode cX12_drawn 63 = .ok (.iload 8, 2) := by decide +kernel
theorem dX12_drawn_65 : decode cX12_drawn 65 = .ok (.invokevirtual 305, 3) := by decide +kernel
theorem dX12_drawn_68 : decode cX12_drawn 68 = .ok (.aload_n 0, 1) := by decide +kernel
theorem dX12_drawn_69 : decode cX12_drawn 69 = .ok (.getfield 292, 3) := by decide +kernel
theorem dX12_drawn_72 : decode cX12_drawn 72 = .ok (.ifCond .le 7, 3) := by decide +kernel
theorem dX12_drawn_75 : decode cX12_drawn 75 = .ok (.iconst 1, 1) := by decide +kernel
theorem dX12_drawn_76 : decode cX12_drawn 76 = .ok (.goto 4, 3) := by decide +kernel
theorem dX12_drawn_79 : decode cX12_drawn 79 = .ok (.iconst 0, 1) := by decide +kernel
theorem dX12_drawn_80 : decode cX12_drawn 80 = .ok (.istore 9, 2) := by decide +kernel
theorem dX12_drawn_82 : decode cX12_drawn 82 = .ok (.iconst 0, 1) := by decide +kernel
theorem dX12_drawn_83 : decode cX12_drawn 83 = .ok (.istore 10, 2) := by decide +kernel
theorem dX12_drawn_85 : decode cX12_drawn 85 = .ok (.iload 10, 2) := by decide +kernel
theorem dX12_drawn_87 : decode cX12_drawn 87 = .ok (.sipush 3600, 3) := by decide +kernel
theorem dX12_drawn_90 : decode cX12_drawn 90 = .ok (.if_icmp .ge 66, 3) := by decide +kernel
theorem dX12_drawn_93 : decode cX12_drawn 93 = .ok (.iload 9, 2) := by decide +kernel
theorem dX12_drawn_95 : decode cX12_drawn 95 = .ok (.ifCond .eq 61, 3) := by decide +kernel
theorem dX12_drawn_98 : decode cX12_drawn 98 = .ok (.iload 5, 2) := by decide +kernel
theorem dX12_drawn_100 : decode cX12_drawn 100 = .ok (.ldc_w 332, 3) := by decide +kernel
theorem dX12_drawn_103 : decode cX12_drawn 103 = .ok (.imul, 1) := by decide +kernel
theorem dX12_drawn_104 : decode cX12_drawn 104 = .ok (.sipush 12345, 3) := by decide +kernel
theorem dX12_drawn_107 : decode cX12_drawn 107 = .ok (.iadd, 1) := by decide +kernel
theorem dX12_drawn_108 : decode cX12_drawn 108 = .ok (.istore 5, 2) := by decide +kernel
theorem dX12_drawn_110 : decode cX12_drawn 110 = .ok (.iload 5, 2) := by decide +kernel
theorem dX12_drawn_112 : decode cX12_drawn 112 = .ok (.bipush 8, 2) := by decide +kernel
theorem dX12_drawn_114 : decode cX12_drawn 114 = .ok (.iushr, 1) := by decide +kernel
theorem dX12_drawn_115 : decode cX12_drawn 115 = .ok (.bipush 12, 2) := by decide +kernel
theorem dX12_drawn_117 : decode cX12_drawn 117 = .ok (.irem, 1) := by decide +kernel
theorem dX12_drawn_118 : decode cX12_drawn 118 = .ok (.aload_n 0, 1) := by decide +kernel
theorem dX12_drawn_119 : decode cX12_drawn 119 = .ok (.getfield 145, 3) := by decide +kernel
theorem dX12_drawn_122 : decode cX12_drawn 122 = .ok (.if_icmp .ge 19, 3) := by decide +kernel
theorem dX12_drawn_125 : decode cX12_drawn 125 = .ok (.aload_n 0, 1) := by decide +kernel
theorem dX12_drawn_126 : decode cX12_drawn 126 = .ok (.getfield 292, 3) := by decide +kernel
theorem dX12_drawn_129 : decode cX12_drawn 129 = .ok (.iconst 1, 1) := by decide +kernel
theorem dX12_drawn_130 : decode cX12_drawn 130 = .ok (.if_icmp .le 11, 3) := by decide +kernel
theorem dX12_drawn_133 : decode cX12_drawn 133 = .ok (.aload_n 0, 1) := by decide +kernel
theorem dX12_drawn_134 : decode cX12_drawn 134 = .ok (.iconst 0, 1) := by decide +kernel
theorem dX12_drawn_135 : decode cX12_drawn 135 = .ok (.invokevirtual 295, 3) := by decide +kernel
theorem dX12_drawn_138 : decode cX12_drawn 138 = .ok (.goto 12, 3) := by decide +kernel
theorem dX12_drawn_141 : decode cX12_drawn 141 = .ok (.aload_n 0, 1) := by decide +kernel
theorem dX12_drawn_142 : decode cX12_drawn 142 = .ok (.iload 8, 2) := by decide +kernel
theorem dX12_drawn_144 : decode cX12_drawn 144 = .ok (.iload_n 3, 1) := by decide +kernel
theorem dX12_drawn_145 : decode cX12_drawn 145 = .ok (.invokevirtual 299, 3) := by decide +kernel
theorem dX12_drawn_148 : decode cX12_drawn 148 = .ok (.istore 9, 2) := by decide +kernel
theorem dX12_drawn_150 : decode cX12_drawn 150 = .ok (.iinc 10 1, 3) := by decide +kernel
theorem dX12_drawn_153 : decode cX12_drawn 153 = .ok (.goto (-68), 3) := by decide +kernel
theorem dX12_drawn_156 : decode cX12_drawn 156 = .ok (.iinc 8 1, 3) := by decide +kernel
theorem dX12_drawn_159 : decode cX12_drawn 159 = .ok (.goto (-103), 3) := by decide +kernel
theorem dX12_drawn_162 : decode cX12_drawn 162 = .ok (.iconst 0, 1) := by decide +kernel
theorem dX12_drawn_163 : decode cX12_drawn 163 = .ok (.istore 8, 2) := by decide +kernel
theorem dX12_drawn_165 : decode cX12_drawn 165 = .ok (.iload 8, 2) := by decide +kernel
theorem dX12_drawn_167 : decode cX12_drawn 167 = .ok (.aload_n 0, 1) := by decide +kernel
theorem dX12_drawn_168 : decode cX12_drawn 168 = .ok (.getfield 125, 3) := by decide +kernel
theorem dX12_drawn_171 : decode cX12_drawn 171 = .ok (.if_icmp .ge 33, 3) := by decide +kernel
theorem dX12_drawn_174 : decode cX12_drawn 174 = .ok (.iload 4, 2) := by decide +kernel
theorem dX12_drawn_176 : decode cX12_drawn 176 = .ok (.ifCond .lt 10, 3) := by decide +kernel
theorem dX12_drawn_179 : decode cX12_drawn 179 = .ok (.iload 8, 2) := by decide +kernel
theorem dX12_drawn_181 : decode cX12_drawn 181 = .ok (.iload 4, 2) := by decide +kernel
theorem dX12_drawn_183 : decode cX12_drawn 183 = .ok (.if_icmp .ne 15, 3) := by decide +kernel
theorem dX12_drawn_186 : decode cX12_drawn 186 = .ok (.iload 6, 2) := by decide +kernel
theorem dX12_drawn_188 : decode cX12_drawn 188 = .ok (.aload_n 0, 1) := by decide +kernel
theorem dX12_drawn_189 : decode cX12_drawn 189 = .ok (.getfield 76, 3) := by decide +kernel
theorem dX12_drawn_192 : decode cX12_drawn 192 = .ok (.iload 8, 2) := by decide +kernel
theorem dX12_drawn_194 : decode cX12_drawn 194 = .ok (.iaload, 1) := by decide +kernel
theorem dX12_drawn_195 : decode cX12_drawn 195 = .ok (.iadd, 1) := by decide +kernel
theorem dX12_drawn_196 : decode cX12_drawn 196 = .ok (.istore 6, 2) := by decide +kernel
theorem dX12_drawn_198 : decode cX12_drawn 198 = .ok (.iinc 8 1, 3) := by decide +kernel
theorem dX12_drawn_201 : decode cX12_drawn 201 = .ok (.goto (-36), 3) := by decide +kernel
theorem dX12_drawn_204 : decode cX12_drawn 204 = .ok (.iinc 7 1, 3) := by decide +kernel
theorem dX12_drawn_207 : decode cX12_drawn 207 = .ok (.goto (-164), 3) := by decide +kernel
theorem dX12_drawn_210 : decode cX12_drawn 210 = .ok (.iload 6, 2) := by decide +kernel
theorem dX12_drawn_212 : decode cX12_drawn 212 = .ok (.ireturn, 1) := by decide +kernel
theorem dX12_rowFault_0 : decode cX12_rowFault 0 = .ok (.aload_n 0, 1) := by decide +kernel
theorem dX12_rowFault_1 : decode cX12_rowFault 1 = .ok (.getfield 109, 3) := by decide +kernel
theorem dX12_rowFault_4 : decode cX12_rowFault 4 = .ok (.iload_n 1, 1) := by decide +kernel
theorem dX12_rowFault_5 : decode cX12_rowFault 5 = .ok (.iaload, 1) := by decide +kernel
theorem dX12_rowFault_6 : decode cX12_rowFault 6 = .ok (.iconst (-1), 1) := by decide +kernel
theorem dX12_rowFault_7 : decode cX12_rowFault 7 = .ok (.if_icmp .ne 8, 3) := by decide +kernel
theorem dX12_rowFault_10 : decode cX12_rowFault 10 = .ok (.bipush (-11), 2) := by decide +kernel
theorem dX12_rowFault_12 : decode cX12_rowFault 12 = .ok (.goto 20, 3) := by decide +kernel
theorem dX12_rowFault_15 : decode cX12_rowFault 15 = .ok (.aload_n 0, 1) := by decide +kernel
theorem dX12_rowFault_16 : decode cX12_rowFault 16 = .ok (.getfield 109, 3) := by decide +kernel
theorem dX12_rowFault_19 : decode cX12_rowFault 19 = .ok (.iload_n 1, 1) := by decide +kernel
theorem dX12_rowFault_20 : decode cX12_rowFault 20 = .ok (.iaload, 1) := by decide +kernel
theorem dX12_rowFault_21 : decode cX12_rowFault 21 = .ok (.bipush (-2), 2) := by decide +kernel
theorem dX12_rowFault_23 : decode cX12_rowFault 23 = .ok (.if_icmp .ne 7, 3) := by decide +kernel
theorem dX12_rowFault_26 : decode cX12_rowFault 26 = .ok (.iconst 0, 1) := by decide +kernel
theorem dX12_rowFault_27 : decode cX12_rowFault 27 = .ok (.goto 5, 3) := by decide +kernel
theorem dX12_rowFault_30 : decode cX12_rowFault 30 = .ok (.bipush (-12), 2) := by decide +kernel
theorem dX12_rowFault_32 : decode cX12_rowFault 32 = .ok (.ireturn, 1) := by decide +kernel
theorem dX12_wrongIn_0 : decode cX12_wrongIn 0 = .ok (.aload_n 0, 1) := by decide +kernel
theorem dX12_wrongIn_1 : decode cX12_wrongIn 1 = .ok (.invokevirtual 266, 3) := by decide +kernel
theorem dX12_wrongIn_4 : decode cX12_wrongIn 4 = .ok (.aload_n 0, 1) := by decide +kernel
theorem dX12_wrongIn_5 : decode cX12_wrongIn 5 = .ok (.iload_n 3, 1) := by decide +kernel
theorem dX12_wrongIn_6 : decode cX12_wrongIn 6 = .ok (.iload 4, 2) := by decide +kernel
theorem dX12_wrongIn_8 : decode cX12_wrongIn 8 = .ok (.invokevirtual 269, 3) := by decide +kernel
theorem dX12_wrongIn_11 : decode cX12_wrongIn 11 = .ok (.istore 6, 2) := by decide +kernel
theorem dX12_wrongIn_13 : decode cX12_wrongIn 13 = .ok (.iconst 0, 1) := by decide +kernel
theorem dX12_wrongIn_14 : decode cX12_wrongIn 14 = .ok (.istore 7, 2) := by decide +kernel
theorem dX12_wrongIn_16 : decode cX12_wrongIn 16 = .ok (.iconst 0, 1) := by decide +kernel
theorem dX12_wrongIn_17 : decode cX12_wrongIn 17 = .ok (.istore 8, 2) := by decide +kernel
theorem dX12_wrongIn_19 : decode cX12_wrongIn 19 = .ok (.iload 7, 2) := by decide +kernel
theorem dX12_wrongIn_21 : decode cX12_wrongIn 21 = .ok (.ifCond .eq 14, 3) := by decide +kernel
theorem dX12_wrongIn_24 : decode cX12_wrongIn 24 = .ok (.iload 8, 2) := by decide +kernel
theorem dX12_wrongIn_26 : decode cX12_wrongIn 26 = .ok (.aload_n 0, 1) := by decide +kernel
theorem dX12_wrongIn_27 : decode cX12_wrongIn 27 = .ok (.getfield 112, 3) := by decide +kernel
theorem dX12_wrongIn_30 : decode cX12_wrongIn 30 = .ok (.iload_n 1, 1) := by decide +kernel
theorem dX12_wrongIn_31 : decode cX12_wrongIn 31 = .ok (.iaload, 1) := by decide +kernel
theorem dX12_wrongIn_32 : decode cX12_wrongIn 32 = .ok (.if_icmp .ge 61, 3) := by decide +kernel
theorem dX12_wrongIn_35 : decode cX12_wrongIn 35 = .ok (.iload 7, 2) := by decide +kernel
theorem dX12_wrongIn_37 : decode cX12_wrongIn 37 = .ok (.ifCond .ne 39, 3) := by decide +kernel
theorem dX12_wrongIn_40 : decode cX12_wrongIn 40 = .ok (.iload 8, 2) := by decide +kernel
theorem dX12_wrongIn_42 : decode cX12_wrongIn 42 = .ok (.aload_n 0, 1) := by decide +kernel
theorem dX12_wrongIn_43 : decode cX12_wrongIn 43 = .ok (.getfield 112, 3) := by decide +kernel
theorem dX12_wrongIn_46 : decode cX12_wrongIn 46 = .ok (.iload_n 1, 1) := by decide +kernel
theorem dX12_wrongIn_47 : decode cX12_wrongIn 47 = .ok (.iaload, 1) := by decide +kernel
theorem dX12_wrongIn_48 : decode cX12_wrongIn 48 = .ok (.if_icmp .ge 28, 3) := by decide +kernel
theorem dX12_wrongIn_51 : decode cX12_wrongIn 51 = .ok (.aload_n 0, 1) := by decide +kernel
theorem dX12_wrongIn_52 : decode cX12_wrongIn 52 = .ok (.iload_n 2, 1) := by decide +kernel
theorem dX12_wrongIn_53 : decode cX12_wrongIn 53 = .ok (.iload_n 3, 1) := by decide +kernel
theorem dX12_wrongIn_54 : decode cX12_wrongIn 54 = .ok (.iload 5, 2) := by decide +kernel
theorem dX12_wrongIn_56 : decode cX12_wrongIn 56 = .ok (.invokevirtual 272, 3) := by decide +kernel
theorem dX12_wrongIn_59 : decode cX12_wrongIn 59 = .ok (.i2l, 1) := by decide +kernel
theorem dX12_wrongIn_60 : decode cX12_wrongIn 60 = .ok (.aload_n 0, 1) := by decide +kernel
theorem dX12_wrongIn_61 : decode cX12_wrongIn 61 = .ok (.getfield 115, 3) := by decide +kernel
theorem dX12_wrongIn_64 : decode cX12_wrongIn 64 = .ok (.bipush 60, 2) := by decide +kernel
theorem dX12_wrongIn_66 : decode cX12_wrongIn 66 = .ok (.iload_n 1, 1) := by decide +kernel
theorem dX12_wrongIn_67 : decode cX12_wrongIn 67 = .ok (.imul, 1) := by decide +kernel
theorem dX12_wrongIn_68 : decode cX12_wrongIn 68 = .ok (.iload 8, 2) := by decide +kernel
theorem dX12_wrongIn_70 : decode cX12_wrongIn 70 = .ok (.iadd, 1) := by decide +kernel
theorem dX12_wrongIn_71 : decode cX12_wrongIn 71 = .ok (.laload, 1) := by decide +kernel
theorem dX12_wrongIn_72 : decode cX12_wrongIn 72 = .ok (.lcmp, 1) := by decide +kernel
theorem dX12_wrongIn_73 : decode cX12_wrongIn 73 = .ok (.ifCond .eq 6, 3) := by decide +kernel
theorem dX12_wrongIn_76 : decode cX12_wrongIn 76 = .ok (.iload 8, 2) := by decide +kernel
theorem dX12_wrongIn_78 : decode cX12_wrongIn 78 = .ok (.ireturn, 1) := by decide +kernel
theorem dX12_wrongIn_79 : decode cX12_wrongIn 79 = .ok (.aload_n 0, 1) := by decide +kernel
theorem dX12_wrongIn_80 : decode cX12_wrongIn 80 = .ok (.iload 6, 2) := by decide +kernel
theorem dX12_wrongIn_82 : decode cX12_wrongIn 82 = .ok (.invokevirtual 275, 3) := by decide +kernel
theorem dX12_wrongIn_85 : decode cX12_wrongIn 85 = .ok (.istore 7, 2) := by decide +kernel
theorem dX12_wrongIn_87 : decode cX12_wrongIn 87 = .ok (.iinc 8 1, 3) := by decide +kernel
theorem dX12_wrongIn_90 : decode cX12_wrongIn 90 = .ok (.goto (-71), 3) := by decide +kernel
theorem dX12_wrongIn_93 : decode cX12_wrongIn 93 = .ok (.bipush (-2), 2) := by decide +kernel
theorem dX12_wrongIn_95 : decode cX12_wrongIn 95 = .ok (.ireturn, 1) := by decide +kernel
theorem dX12_judge_0 : decode cX12_judge 0 = .ok (.iload_n 1, 1) := by decide +kernel
theorem dX12_judge_1 : decode cX12_judge 1 = .ok (.invokestatic 136, 3) := by decide +kernel
theorem dX12_judge_4 : decode cX12_judge 4 = .ok (.ifCond .eq 18, 3) := by decide +kernel
theorem dX12_judge_7 : decode cX12_judge 7 = .ok (.aload_n 0, 1) := by decide +kernel
theorem dX12_judge_8 : decode cX12_judge 8 = .ok (.iload_n 2, 1) := by decide +kernel
theorem dX12_judge_9 : decode cX12_judge 9 = .ok (.invokevirtual 282, 3) := by decide +kernel
theorem dX12_judge_12 : decode cX12_judge 12 = .ok (.ifCond .eq 10, 3) := by decide +kernel
theorem dX12_judge_15 : decode cX12_judge 15 = .ok (.iload_n 3, 1) := by decide +kernel
theorem dX12_judge_16 : decode cX12_judge 16 = .ok (.invokestatic 285, 3) := by decide +kernel
theorem dX12_judge_19 : decode cX12_judge 19 = .ok (.ifCond .ne 5, 3) := by decide +kernel
theorem dX12_judge_22 : decode cX12_judge 22 = .ok (.iconst (-1), 1) := by decide +kernel
theorem dX12_judge_23 : decode cX12_judge 23 = .ok (.ireturn, 1) := by decide +kernel
theorem dX12_judge_24 : decode cX12_judge 24 = .ok (.aload_n 0, 1) := by decide +kernel
theorem dX12_judge_25 : decode cX12_judge 25 = .ok (.iload_n 1, 1) := by decide +kernel
theorem dX12_judge_26 : decode cX12_judge 26 = .ok (.invokevirtual 333, 3) := by decide +kernel
theorem dX12_judge_29 : decode cX12_judge 29 = .ok (.ifCond .ge 11, 3) := by decide +kernel
theorem dX12_judge_32 : decode cX12_judge 32 = .ok (.aload_n 0, 1) := by decide +kernel
theorem dX12_judge_33 : decode cX12_judge 33 = .ok (.iload_n 1, 1) := by decide +kernel
theorem dX12_judge_34 : decode cX12_judge 34 = .ok (.invokevirtual 333, 3) := by decide +kernel
theorem dX12_judge_37 : decode cX12_judge 37 = .ok (.goto 24, 3) := by decide +kernel
theorem dX12_judge_40 : decode cX12_judge 40 = .ok (.aload_n 0, 1) := by decide +kernel
theorem dX12_judge_41 : decode cX12_judge 41 = .ok (.iload_n 1, 1) := by decide +kernel
theorem dX12_judge_42 : decode cX12_judge 42 = .ok (.iload_n 2, 1) := by decide +kernel
theorem dX12_judge_43 : decode cX12_judge 43 = .ok (.bipush 100, 2) := by decide +kernel
theorem dX12_judge_45 : decode cX12_judge 45 = .ok (.idiv, 1) := by decide +kernel
theorem dX12_judge_46 : decode cX12_judge 46 = .ok (.iload_n 2, 1) := by decide +kernel
theorem dX12_judge_47 : decode cX12_judge 47 = .ok (.bipush 10, 2) := by decide +kernel
theorem dX12_judge_49 : decode cX12_judge 49 = .ok (.idiv, 1) := by decide +kernel
theorem dX12_judge_50 : decode cX12_judge 50 = .ok (.bipush 10, 2) := by decide +kernel
theorem dX12_judge_52 : decode cX12_judge 52 = .ok (.irem, 1) := by decide +kernel
theorem dX12_judge_53 : decode cX12_judge 53 = .ok (.iload_n 2, 1) := by decide +kernel
theorem dX12_judge_54 : decode cX12_judge 54 = .ok (.bipush 10, 2) := by decide +kernel
theorem dX12_judge_56 : decode cX12_judge 56 = .ok (.irem, 1) := by decide +kernel
theorem dX12_judge_57 : decode cX12_judge 57 = .ok (.iload_n 3, 1) := by decide +kernel
theorem dX12_judge_58 : decode cX12_judge 58 = .ok (.invokevirtual 336, 3) := by decide +kernel
theorem dX12_judge_61 : decode cX12_judge 61 = .ok (.ireturn, 1) := by decide +kernel
theorem dX12_who_0 : decode cX12_who 0 = .ok (.iload_n 1, 1) := by decide +kernel
theorem dX12_who_1 : decode cX12_who 1 = .ok (.invokestatic 136, 3) := by decide +kernel
theorem dX12_who_4 : decode cX12_who 4 = .ok (.ifCond .eq 44, 3) := by decide +kernel
theorem dX12_who_7 : decode cX12_who 7 = .ok (.iload_n 2, 1) := by decide +kernel
theorem dX12_who_8 : decode cX12_who 8 = .ok (.ifCond .lt 40, 3) := by decide +kernel
theorem dX12_who_11 : decode cX12_who 11 = .ok (.iload_n 2, 1) := by decide +kernel
theorem dX12_who_12 : decode cX12_who 12 = .ok (.bipush 10, 2) := by decide +kernel
theorem dX12_who_14 : decode cX12_who 14 = .ok (.idiv, 1) := by decide +kernel
theorem dX12_who_15 : decode cX12_who 15 = .ok (.invokestatic 165, 3) := by decide +kernel
theorem dX12_who_18 : decode cX12_who 18 = .ok (.ifCond .eq 30, 3) := by decide +kernel
theorem dX12_who_21 : decode cX12_who 21 = .ok (.iload_n 2, 1) := by decide +kernel
theorem dX12_who_22 : decode cX12_who 22 = .ok (.bipush 10, 2) := by decide +kernel
theorem dX12_who_24 : decode cX12_who 24 = .ok (.irem, 1) := by decide +kernel
theorem dX12_who_25 : decode cX12_who 25 = .ok (.bipush 9, 2) := by decide +kernel
theorem dX12_who_27 : decode cX12_who 27 = .ok (.if_icmp .eq 14, 3) := by decide +kernel
theorem dX12_who_30 : decode cX12_who 30 = .ok (.aload_n 0, 1) := by decide +kernel
theorem dX12_who_31 : decode cX12_who 31 = .ok (.iload_n 2, 1) := by decide +kernel
