theorem bdX7_init_0 : decode cX7_init 0 = .ok (.aload_n 0, 1) ∧ decode cX7_init 1 = .ok (.invokespecial 1, 3) ∧ decode cX7_init 4 = .ok (.aload_n 0, 1) ∧ decode cX7_init 5 = .ok (.sipush 3592, 3) ∧ decode cX7_init 8 = .ok (.newarray .int, 2) ∧ decode cX7_init 10 = .ok (.putfield 7, 3) ∧ decode cX7_init 13 = .ok (.aload_n 0, 1) ∧ decode cX7_init 14 = .ok (.sipush 21552, 3) ∧ decode cX7_init 17 = .ok (.newarray .int, 2) ∧ decode cX7_init 19 = .ok (.putfield 13, 3) ∧ decode cX7_init 22 = .ok (.aload_n 0, 1) ∧ decode cX7_init 23 = .ok (.sipush 7184, 3) ∧ decode cX7_init 26 = .ok (.newarray .int, 2) ∧ decode cX7_init 28 = .ok (.putfield 16, 3) ∧ decode cX7_init 31 = .ok (.aload_n 0, 1) ∧ decode cX7_init 32 = .ok (.iconst 2, 1) := by decide +kernel
theorem dX7_init_0 : decode cX7_init 0 = .ok (.aload_n 0, 1) := bdX7_init_0.1
theorem dX7_init_1 : decode cX7_init 1 = .ok (.invokespecial 1, 3) := bdX7_init_0.2.1
theorem dX7_init_4 : decode cX7_init 4 = .ok (.aload_n 0, 1) := bdX7_init_0.2.2.1
theorem dX7_init_5 : decode cX7_init 5 = .ok (.sipush 3592, 3) := bdX7_init_0.2.2.2.1
theorem dX7_init_8 : decode cX7_init 8 = .ok (.newarray .int, 2) := bdX7_init_0.2.2.2.2.1
theorem dX7_init_10 : decode cX7_init 10 = .ok (.putfield 7, 3) := bdX7_init_0.2.2.2.2.2.1
theorem dX7_init_13 : decode cX7_init 13 = .ok (.aload_n 0, 1) := bdX7_init_0.2.2.2.2.2.2.1
theorem dX7_init_14 : decode cX7_init 14 = .ok (.sipush 21552, 3) := bdX7_init_0.2.2.2.2.2.2.2.1
theorem dX7_init_17 : decode cX7_init 17 = .ok (.newarray .int, 2) := bdX7_init_0.2.2.2.2.2.2.2.2.1
theorem dX7_init_19 : decode cX7_init 19 = .ok (.putfield 13, 3) := bdX7_init_0.2.2.2.2.2.2.2.2.2.1
theorem dX7_init_22 : decode cX7_init 22 = .ok (.aload_n 0, 1) := bdX7_init_0.2.2.2.2.2.2.2.2.2.2.1
theorem dX7_init_23 : decode cX7_init 23 = .ok (.sipush 7184, 3) := bdX7_init_0.2.2.2.2.2.2.2.2.2.2.2.1
theorem dX7_init_26 : decode cX7_init 26 = .ok (.newarray .int, 2) := bdX7_init_0.2.2.2.2.2.2.2.2.2.2.2.2.1
theorem dX7_init_28 : decode cX7_init 28 = .ok (.putfield 16, 3) := bdX7_init_0.2.2.2.2.2.2.2.2.2.2.2.2.2.1
theorem dX7_init_31 : decode cX7_init 31 = .ok (.aload_n 0, 1) := bdX7_init_0.2.2.2.2.2.2.2.2.2.2.2.2.2.2.1
theorem dX7_init_32 : decode cX7_init 32 = .ok (.iconst 2, 1) := bdX7_init_0.2.2.2.2.2.2.2.2.2.2.2.2.2.2.2
theorem bdX7_init_33 : decode cX7_init 33 = .ok (.newarray .boolean, 2) ∧ decode cX7_init 35 = .ok (.putfield 19, 3) ∧ decode cX7_init 38 = .ok (.aload_n 0, 1) ∧ decode cX7_init 39 = .ok (.sipush 3592, 3) ∧ decode cX7_init 42 = .ok (.newarray .int, 2) ∧ decode cX7_init 44 = .ok (.putfield 23, 3) ∧ decode cX7_init 47 = .ok (.aload_n 0, 1) ∧ decode cX7_init 48 = .ok (.bipush 80, 2) ∧ decode cX7_init 50 = .ok (.newarray .int, 2) ∧ decode cX7_init 52 = .ok (.putfield 26, 3) ∧ decode cX7_init 55 = .ok (.aload_n 0, 1) ∧ decode cX7_init 56 = .ok (.bipush 29, 2) ∧ decode cX7_init 58 = .ok (.newarray .int, 2) ∧ decode cX7_init 60 = .ok (.putfield 29, 3) ∧ decode cX7_init 63 = .ok (.aload_n 0, 1) ∧ decode cX7_init 64 = .ok (.bipush 116, 2) := by decide +kernel
theorem dX7_init_33 : decode cX7_init 33 = .ok (.newarray .boolean, 2) := bdX7_init_33.1
theorem dX7_init_35 : decode cX7_init 35 = .ok (.putfield 19, 3) := bdX7_init_33.2.1
theorem dX7_init_38 : decode cX7_init 38 = .ok (.aload_n 0, 1) := bdX7_init_33.2.2.1
theorem dX7_init_39 : decode cX7_init 39 = .ok (.sipush 3592, 3) := bdX7_init_33.2.2.2.1
theorem dX7_init_42 : decode cX7_init 42 = .ok (.newarray .int, 2) := bdX7_init_33.2.2.2.2.1
theorem dX7_init_44 : decode cX7_init 44 = .ok (.putfield 23, 3) := bdX7_init_33.2.2.2.2.2.1
theorem dX7_init_47 : decode cX7_init 47 = .ok (.aload_n 0, 1) := bdX7_init_33.2.2.2.2.2.2.1
theorem dX7_init_48 : decode cX7_init 48 = .ok (.bipush 80, 2) := bdX7_init_33.2.2.2.2.2.2.2.1
theorem dX7_init_50 : decode cX7_init 50 = .ok (.newarray .int, 2) := bdX7_init_33.2.2.2.2.2.2.2.2.1
theorem dX7_init_52 : decode cX7_init 52 = .ok (.putfield 26, 3) := bdX7_init_33.2.2.2.2.2.2.2.2.2.1
theorem dX7_init_55 : decode cX7_init 55 = .ok (.aload_n 0, 1) := bdX7_init_33.2.2.2.2.2.2.2.2.2.2.1
theorem dX7_init_56 : decode cX7_init 56 = .ok (.bipush 29, 2) := bdX7_init_33.2.2.2.2.2.2.2.2.2.2.2.1
theorem dX7_init_58 : decode cX7_init 58 = .ok (.newarray .int, 2) := bdX7_init_33.2.2.2.2.2.2.2.2.2.2.2.2.1
theorem dX7_init_60 : decode cX7_init 60 = .ok (.putfield 29, 3) := bdX7_init_33.2.2.2.2.2.2.2.2.2.2.2.2.2.1
theorem dX7_init_63 : decode cX7_init 63 = .ok (.aload_n 0, 1) := bdX7_init_33.2.2.2.2.2.2.2.2.2.2.2.2.2.2.1
theorem dX7_init_64 : decode cX7_init 64 = .ok (.bipush 116, 2) := bdX7_init_33.2.2.2.2.2.2.2.2.2.2.2.2.2.2.2
theorem bdX7_init_66 : decode cX7_init 66 = .ok (.newarray .int, 2) ∧ decode cX7_init 68 = .ok (.putfield 32, 3) ∧ decode cX7_init 71 = .ok (.aload_n 0, 1) ∧ decode cX7_init 72 = .ok (.getfield 7, 3) ∧ decode cX7_init 75 = .ok (.iconst 0, 1) ∧ decode cX7_init 76 = .ok (.bipush 8, 2) ∧ decode cX7_init 78 = .ok (.iastore, 1) ∧ decode cX7_init 79 = .ok (.aload_n 0, 1) ∧ decode cX7_init 80 = .ok (.getfield 7, 3) ∧ decode cX7_init 83 = .ok (.iconst 1, 1) ∧ decode cX7_init 84 = .ok (.bipush 60, 2) ∧ decode cX7_init 86 = .ok (.iastore, 1) ∧ decode cX7_init 87 = .ok (.aload_n 0, 1) ∧ decode cX7_init 88 = .ok (.getfield 7, 3) ∧ decode cX7_init 91 = .ok (.iconst 2, 1) ∧ decode cX7_init 92 = .ok (.iconst 2, 1) := by decide +kernel
theorem dX7_init_66 : decode cX7_init 66 = .ok (.newarray .int, 2) := bdX7_init_66.1
theorem dX7_init_68 : decode cX7_init 68 = .ok (.putfield 32, 3) := bdX7_init_66.2.1
theorem dX7_init_71 : decode cX7_init 71 = .ok (.aload_n 0, 1) := bdX7_init_66.2.2.1
theorem dX7_init_72 : decode cX7_init 72 = .ok (.getfield 7, 3) := bdX7_init_66.2.2.2.1
theorem dX7_init_75 : decode cX7_init 75 = .ok (.iconst 0, 1) := bdX7_init_66.2.2.2.2.1
theorem dX7_init_76 : decode cX7_init 76 = .ok (.bipush 8, 2) := bdX7_init_66.2.2.2.2.2.1
theorem dX7_init_78 : decode cX7_init 78 = .ok (.iastore, 1) := bdX7_init_66.2.2.2.2.2.2.1
theorem dX7_init_79 : decode cX7_init 79 = .ok (.aload_n 0, 1) := bdX7_init_66.2.2.2.2.2.2.2.1
theorem dX7_init_80 : decode cX7_init 80 = .ok (.getfield 7, 3) := bdX7_init_66.2.2.2.2.2.2.2.2.1
theorem dX7_init_83 : decode cX7_init 83 = .ok (.iconst 1, 1) := bdX7_init_66.2.2.2.2.2.2.2.2.2.1
theorem dX7_init_84 : decode cX7_init 84 = .ok (.bipush 60, 2) := bdX7_init_66.2.2.2.2.2.2.2.2.2.2.1
theorem dX7_init_86 : decode cX7_init 86 = .ok (.iastore, 1) := bdX7_init_66.2.2.2.2.2.2.2.2.2.2.2.1
theorem dX7_init_87 : decode cX7_init 87 = .ok (.aload_n 0, 1) := bdX7_init_66.2.2.2.2.2.2.2.2.2.2.2.2.1
theorem dX7_init_88 : decode cX7_init 88 = .ok (.getfield 7, 3) := bdX7_init_66.2.2.2.2.2.2.2.2.2.2.2.2.2.1
theorem dX7_init_91 : decode cX7_init 91 = .ok (.iconst 2, 1) := bdX7_init_66.2.2.2.2.2.2.2.2.2.2.2.2.2.2.1
theorem dX7_init_92 : decode cX7_init 92 = .ok (.iconst 2, 1) := bdX7_init_66.2.2.2.2.2.2.2.2.2.2.2.2.2.2.2
theorem bdX7_init_93 : decode cX7_init 93 = .ok (.iastore, 1) ∧ decode cX7_init 94 = .ok (.aload_n 0, 1) ∧ decode cX7_init 95 = .ok (.getfield 7, 3) ∧ decode cX7_init 98 = .ok (.iconst 3, 1) ∧ decode cX7_init 99 = .ok (.bipush 12, 2) ∧ decode cX7_init 101 = .ok (.iastore, 1) ∧ decode cX7_init 102 = .ok (.aload_n 0, 1) ∧ decode cX7_init 103 = .ok (.getfield 7, 3) ∧ decode cX7_init 106 = .ok (.iconst 4, 1) ∧ decode cX7_init 107 = .ok (.bipush 14, 2) ∧ decode cX7_init 109 = .ok (.iastore, 1) ∧ decode cX7_init 110 = .ok (.aload_n 0, 1) ∧ decode cX7_init 111 = .ok (.getfield 7, 3) ∧ decode cX7_init 114 = .ok (.iconst 5, 1) ∧ decode cX7_init 115 = .ok (.bipush 90, 2) ∧ decode cX7_init 117 = .ok (.iastore, 1) := by decide +kernel
theorem dX7_init_93 : decode cX7_init 93 = .ok (.iastore, 1) := bdX7_init_93.1
theorem dX7_init_94 : decode cX7_init 94 = .ok (.aload_n 0, 1) := bdX7_init_93.2.1
theorem dX7_init_95 : decode cX7_init 95 = .ok (.getfield 7, 3) := bdX7_init_93.2.2.1
theorem dX7_init_98 : decode cX7_init 98 = .ok (.iconst 3, 1) := bdX7_init_93.2.2.2.1
theorem dX7_init_99 : decode cX7_init 99 = .ok (.bipush 12, 2) := bdX7_init_93.2.2.2.2.1
theorem dX7_init_101 : decode cX7_init 101 = .ok (.iastore, 1) := bdX7_init_93.2.2.2.2.2.1
theorem dX7_init_102 : decode cX7_init 102 = .ok (.aload_n 0, 1) := bdX7_init_93.2.2.2.2.2.2.1
theorem dX7_init_103 : decode cX7_init 103 = .ok (.getfield 7, 3) := bdX7_init_93.2.2.2.2.2.2.2.1
theorem dX7_init_106 : decode cX7_init 106 = .ok (.iconst 4, 1) := bdX7_init_93.2.2.2.2.2.2.2.2.1
theorem dX7_init_107 : decode cX7_init 107 = .ok (.bipush 14, 2) := bdX7_init_93.2.2.2.2.2.2.2.2.2.1
theorem dX7_init_109 : decode cX7_init 109 = .ok (.iastore, 1) := bdX7_init_93.2.2.2.2.2.2.2.2.2.2.1
theorem dX7_init_110 : decode cX7_init 110 = .ok (.aload_n 0, 1) := bdX7_init_93.2.2.2.2.2.2.2.2.2.2.2.1
theorem dX7_init_111 : decode cX7_init 111 = .ok (.getfield 7, 3) := bdX7_init_93.2.2.2.2.2.2.2.2.2.2.2.2.1
theorem dX7_init_114 : decode cX7_init 114 = .ok (.iconst 5, 1) := bdX7_init_93.2.2.2.2.2.2.2.2.2.2.2.2.2.1
theorem dX7_init_115 : decode cX7_init 115 = .ok (.bipush 90, 2) := bdX7_init_93.2.2.2.2.2.2.2.2.2.2.2.2.2.2.1
theorem dX7_init_117 : decode cX7_init 117 = .ok (.iastore, 1) := bdX7_init_93.2.2.2.2.2.2.2.2.2.2.2.2.2.2.2
theorem bdX7_init_118 : decode cX7_init 118 = .ok (.aload_n 0, 1) ∧ decode cX7_init 119 = .ok (.getfield 7, 3) ∧ decode cX7_init 122 = .ok (.bipush 6, 2) ∧ decode cX7_init 124 = .ok (.sipush 500, 3) ∧ decode cX7_init 127 = .ok (.iastore, 1) ∧ decode cX7_init 128 = .ok (.aload_n 0, 1) ∧ decode cX7_init 129 = .ok (.getfield 7, 3) ∧ decode cX7_init 132 = .ok (.bipush 7, 2) ∧ decode cX7_init 134 = .ok (.iconst 2, 1) ∧ decode cX7_init 135 = .ok (.iastore, 1) ∧ decode cX7_init 136 = .ok (.aload_n 0, 1) ∧ decode cX7_init 137 = .ok (.getfield 7, 3) ∧ decode cX7_init 140 = .ok (.bipush 8, 2) ∧ decode cX7_init 142 = .ok (.bipush 11, 2) ∧ decode cX7_init 144 = .ok (.iastore, 1) ∧ decode cX7_init 145 = .ok (.aload_n 0, 1) := by decide +kernel
theorem dX7_init_118 : decode cX7_init 118 = .ok (.aload_n 0, 1) := bdX7_init_118.1
theorem dX7_init_119 : decode cX7_init 119 = .ok (.getfield 7, 3) := bdX7_init_118.2.1
theorem dX7_init_122 : decode cX7_init 122 = .ok (.bipush 6, 2) := bdX7_init_118.2.2.1
theorem dX7_init_124 : decode cX7_init 124 = .ok (.sipush 500, 3) := bdX7_init_118.2.2.2.1
theorem dX7_init_127 : decode cX7_init 127 = .ok (.iastore, 1) := bdX7_init_118.2.2.2.2.1
theorem dX7_init_128 : decode cX7_init 128 = .ok (.aload_n 0, 1) := bdX7_init_118.2.2.2.2.2.1
theorem dX7_init_129 : decode cX7_init 129 = .ok (.getfield 7, 3) := bdX7_init_118.2.2.2.2.2.2.1
theorem dX7_init_132 : decode cX7_init 132 = .ok (.bipush 7, 2) := bdX7_init_118.2.2.2.2.2.2.2.1
theorem dX7_init_134 : decode cX7_init 134 = .ok (.iconst 2, 1) := bdX7_init_118.2.2.2.2.2.2.2.2.1
theorem dX7_init_135 : decode cX7_init 135 = .ok (.iastore, 1) := bdX7_init_118.2.2.2.2.2.2.2.2.2.1
theorem dX7_init_136 : decode cX7_init 136 = .ok (.aload_n 0, 1) := bdX7_init_118.2.2.2.2.2.2.2.2.2.2.1
theorem dX7_init_137 : decode cX7_init 137 = .ok (.getfield 7, 3) := bdX7_init_118.2.2.2.2.2.2.2.2.2.2.2.1
theorem dX7_init_140 : decode cX7_init 140 = .ok (.bipush 8, 2) := bdX7_init_118.2.2.2.2.2.2.2.2.2.2.2.2.1
theorem dX7_init_142 : decode cX7_init 142 = .ok (.bipush 11, 2) := bdX7_init_118.2.2.2.2.2.2.2.2.2.2.2.2.2.1
theorem dX7_init_144 : decode cX7_init 144 = .ok (.iastore, 1) := bdX7_init_118.2.2.2.2.2.2.2.2.2.2.2.2.2.2.1
theorem dX7_init_145 : decode cX7_init 145 = .ok (.aload_n 0, 1) := bdX7_init_118.2.2.2.2.2.2.2.2.2.2.2.2.2.2.2
theorem bdX7_init_146 : decode cX7_init 146 = .ok (.getfield 7, 3) ∧ decode cX7_init 149 = .ok (.bipush 9, 2) ∧ decode cX7_init 151 = .ok (.sipush 200, 3) ∧ decode cX7_init 154 = .ok (.iastore, 1) ∧ decode cX7_init 155 = .ok (.aload_n 0, 1) ∧ decode cX7_init 156 = .ok (.getfield 7, 3) ∧ decode cX7_init 159 = .ok (.bipush 11, 2) ∧ decode cX7_init 161 = .ok (.iconst 1, 1) ∧ decode cX7_init 162 = .ok (.iastore, 1) ∧ decode cX7_init 163 = .ok (.return_, 1) := by decide +kernel
theorem dX7_init_146 : decode cX7_init 146 = .ok (.getfield 7, 3) := bdX7_init_146.1
theorem dX7_init_149 : decode cX7_init 149 = .ok (.bipush 9, 2) := bdX7_init_146.2.1
theorem dX7_init_151 : decode cX7_init 151 = .ok (.sipush 200, 3) := bdX7_init_146.2.2.1
theorem dX7_init_154 : decode cX7_init 154 = .ok (.iastore, 1) := bdX7_init_146.2.2.2.1
theorem dX7_init_155 : decode cX7_init 155 = .ok (.aload_n 0, 1) := bdX7_init_146.2.2.2.2.1
theorem dX7_init_156 : decode cX7_init 156 = .ok (.getfield 7, 3) := bdX7_init_146.2.2.2.2.2.1
theorem dX7_init_159 : decode cX7_init 159 = .ok (.bipush 11, 2) := bdX7_init_146.2.2.2.2.2.2.1
theorem dX7_init_161 : decode cX7_init 161 = .ok (.iconst 1, 1) := bdX7_init_146.2.2.2.2.2.2.2.1
theorem dX7_init_162 : decode cX7_init 162 = .ok (.iastore, 1) := bdX7_init_146.2.2.2.2.2.2.2.2.1
theorem dX7_init_163 : decode cX7_init 163 = .ok (.return_, 1) := bdX7_init_146.2.2.2.2.2.2.2.2.2
theorem bdX7_in_0 : decode cX7_in 0 = .ok (.iload_n 0, 1) ∧ decode cX7_in 1 = .ok (.iload_n 1, 1) ∧ decode cX7_in 2 = .ok (.if_icmp .lt 12, 3) ∧ decode cX7_in 5 = .ok (.iload_n 0, 1) ∧ decode cX7_in 6 = .ok (.iload_n 2, 1) ∧ decode cX7_in 7 = .ok (.if_icmp .gt 7, 3) ∧ decode cX7_in 10 = .ok (.iconst 1, 1) ∧ decode cX7_in 11 = .ok (.goto 4, 3) ∧ decode cX7_in 14 = .ok (.iconst 0, 1) ∧ decode cX7_in 15 = .ok (.ireturn, 1) := by decide +kernel
theorem dX7_in_0 : decode cX7_in 0 = .ok (.iload_n 0, 1) := bdX7_in_0.1
theorem dX7_in_1 : decode cX7_in 1 = .ok (.iload_n 1, 1) := bdX7_in_0.2.1
theorem dX7_in_2 : decode cX7_in 2 = .ok (.if_icmp .lt 12, 3) := bdX7_in_0.2.2.1
theorem dX7_in_5 : decode cX7_in 5 = .ok (.iload_n 0, 1) := bdX7_in_0.2.2.2.1
theorem dX7_in_6 : decode cX7_in 6 = .ok (.iload_n 2, 1) := bdX7_in_0.2.2.2.2.1
theorem dX7_in_7 : decode cX7_in 7 = .ok (.if_icmp .gt 7, 3) := bdX7_in_0.2.2.2.2.2.1
theorem dX7_in_10 : decode cX7_in 10 = .ok (.iconst 1, 1) := bdX7_in_0.2.2.2.2.2.2.1
theorem dX7_in_11 : decode cX7_in 11 = .ok (.goto 4, 3) := bdX7_in_0.2.2.2.2.2.2.2.1
theorem dX7_in_14 : decode cX7_in 14 = .ok (.iconst 0, 1) := bdX7_in_0.2.2.2.2.2.2.2.2.1
theorem dX7_in_15 : decode cX7_in 15 = .ok (.ireturn, 1) := bdX7_in_0.2.2.2.2.2.2.2.2.2
theorem bdX7_of_0 : decode cX7_of 0 = .ok (.aload_n 0, 1) ∧ decode cX7_of 1 = .ok (.getfield 7, 3) ∧ decode cX7_of 4 = .ok (.bipush 72, 2) ∧ decode cX7_of 6 = .ok (.bipush 20, 2) ∧ decode cX7_of 8 = .ok (.iload_n 1, 1) ∧ decode cX7_of 9 = .ok (.imul, 1) ∧ decode cX7_of 10 = .ok (.iadd, 1) ∧ decode cX7_of 11 = .ok (.iload_n 2, 1) ∧ decode cX7_of 12 = .ok (.iadd, 1) ∧ decode cX7_of 13 = .ok (.iaload, 1) ∧ decode cX7_of 14 = .ok (.ireturn, 1) := by decide +kernel
theorem dX7_of_0 : decode cX7_of 0 = .ok (.aload_n 0, 1) := bdX7_of_0.1
theorem dX7_of_1 : decode cX7_of 1 = .ok (.getfield 7, 3) := bdX7_of_0.2.1
theorem dX7_of_4 : decode cX7_of 4 = .ok (.bipush 72, 2) := bdX7_of_0.2.2.1
theorem dX7_of_6 : decode cX7_of 6 = .ok (.bipush 20, 2) := bdX7_of_0.2.2.2.1
theorem dX7_of_8 : decode cX7_of 8 = .ok (.iload_n 1, 1) := bdX7_of_0.2.2.2.2.1
theorem dX7_of_9 : decode cX7_of 9 = .ok (.imul, 1) := bdX7_of_0.2.2.2.2.2.1
theorem dX7_of_10 : decode cX7_of 10 = .ok (.iadd, 1) := bdX7_of_0.2.2.2.2.2.2.1
theorem dX7_of_11 : decode cX7_of 11 = .ok (.iload_n 2, 1) := bdX7_of_0.2.2.2.2.2.2.2.1
theorem dX7_of_12 : decode cX7_of 12 = .ok (.iadd, 1) := bdX7_of_0.2.2.2.2.2.2.2.2.1
theorem dX7_of_13 : decode cX7_of 13 = .ok (.iaload, 1) := bdX7_of_0.2.2.2.2.2.2.2.2.2.1
theorem dX7_of_14 : decode cX7_of 14 = .ok (.ireturn, 1) := bdX7_of_0.2.2.2.2.2.2.2.2.2.2
theorem bdX7_lay_0 : decode cX7_lay 0 = .ok (.aload_n 0, 1) ∧ decode cX7_lay 1 = .ok (.getfield 7, 3) ∧ decode cX7_lay 4 = .ok (.bipush 72, 2) ∧ decode cX7_lay 6 = .ok (.bipush 20, 2) ∧ decode cX7_lay 8 = .ok (.iload_n 1, 1) ∧ decode cX7_lay 9 = .ok (.imul, 1) ∧ decode cX7_lay 10 = .ok (.iadd, 1) ∧ decode cX7_lay 11 = .ok (.iload_n 2, 1) ∧ decode cX7_lay 12 = .ok (.iadd, 1) ∧ decode cX7_lay 13 = .ok (.iload_n 3, 1) ∧ decode cX7_lay 14 = .ok (.iastore, 1) ∧ decode cX7_lay 15 = .ok (.return_, 1) := by decide +kernel
theorem dX7_lay_0 : decode cX7_lay 0 = .ok (.aload_n 0, 1) := bdX7_lay_0.1
theorem dX7_lay_1 : decode cX7_lay 1 = .ok (.getfield 7, 3) := bdX7_lay_0.2.1
theorem dX7_lay_4 : decode cX7_lay 4 = .ok (.bipush 72, 2) := bdX7_lay_0.2.2.1
theorem dX7_lay_6 : decode cX7_lay 6 = .ok (.bipush 20, 2) := bdX7_lay_0.2.2.2.1
theorem dX7_lay_8 : decode cX7_lay 8 = .ok (.iload_n 1, 1) := bdX7_lay_0.2.2.2.2.1
theorem dX7_lay_9 : decode cX7_lay 9 = .ok (.imul, 1) := bdX7_lay_0.2.2.2.2.2.1
theorem dX7_lay_10 : decode cX7_lay 10 = .ok (.iadd, 1) := bdX7_lay_0.2.2.2.2.2.2.1
theorem dX7_lay_11 : decode cX7_lay 11 = .ok (.iload_n 2, 1) := bdX7_lay_0.2.2.2.2.2.2.2.1
theorem dX7_lay_12 : decode cX7_lay 12 = .ok (.iadd, 1) := bdX7_lay_0.2.2.2.2.2.2.2.2.1
theorem dX7_lay_13 : decode cX7_lay 13 = .ok (.iload_n 3, 1) := bdX7_lay_0.2.2.2.2.2.2.2.2.2.1
theorem dX7_lay_14 : decode cX7_lay 14 = .ok (.iastore, 1) := bdX7_lay_0.2.2.2.2.2.2.2.2.2.2.1
theorem dX7_lay_15 : decode cX7_lay 15 = .ok (.return_, 1) := bdX7_lay_0.2.2.2.2.2.2.2.2.2.2.2
theorem bdX7_ofP_0 : decode cX7_ofP 0 = .ok (.aload_n 0, 1) ∧ decode cX7_ofP 1 = .ok (.getfield 7, 3) ∧ decode cX7_ofP 4 = .ok (.bipush 32, 2) ∧ decode cX7_ofP 6 = .ok (.iconst 4, 1) ∧ decode cX7_ofP 7 = .ok (.iload_n 1, 1) ∧ decode cX7_ofP 8 = .ok (.imul, 1) ∧ decode cX7_ofP 9 = .ok (.iadd, 1) ∧ decode cX7_ofP 10 = .ok (.iload_n 2, 1) ∧ decode cX7_ofP 11 = .ok (.iadd, 1) ∧ decode cX7_ofP 12 = .ok (.iaload, 1) ∧ decode cX7_ofP 13 = .ok (.ireturn, 1) := by decide +kernel
theorem dX7_ofP_0 : decode cX7_ofP 0 = .ok (.aload_n 0, 1) := bdX7_ofP_0.1
theorem dX7_ofP_1 : decode cX7_ofP 1 = .ok (.getfield 7, 3) := bdX7_ofP_0.2.1
theorem dX7_ofP_4 : decode cX7_ofP 4 = .ok (.bipush 32, 2) := bdX7_ofP_0.2.2.1
theorem dX7_ofP_6 : decode cX7_ofP 6 = .ok (.iconst 4, 1) := bdX7_ofP_0.2.2.2.1
theorem dX7_ofP_7 : decode cX7_ofP 7 = .ok (.iload_n 1, 1) := bdX7_ofP_0.2.2.2.2.1
theorem dX7_ofP_8 : decode cX7_ofP 8 = .ok (.imul, 1) := bdX7_ofP_0.2.2.2.2.2.1
theorem dX7_ofP_9 : decode cX7_ofP 9 = .ok (.iadd, 1) := bdX7_ofP_0.2.2.2.2.2.2.1
theorem dX7_ofP_10 : decode cX7_ofP 10 = .ok (.iload_n 2, 1) := bdX7_ofP_0.2.2.2.2.2.2.2.1
theorem dX7_ofP_11 : decode cX7_ofP 11 = .ok (.iadd, 1) := bdX7_ofP_0.2.2.2.2.2.2.2.2.1
theorem dX7_ofP_12 : decode cX7_ofP 12 = .ok (.iaload, 1) := bdX7_ofP_0.2.2.2.2.2.2.2.2.2.1
theorem dX7_ofP_13 : decode cX7_ofP 13 = .ok (.ireturn, 1) := bdX7_ofP_0.2.2.2.2.2.2.2.2.2.2
theorem bdX7_isCart_0 : decode cX7_isCart 0 = .ok (.iload_n 1, 1) ∧ decode cX7_isCart 1 = .ok (.iconst 0, 1) ∧ decode cX7_isCart 2 = .ok (.aload_n 0, 1) ∧ decode cX7_isCart 3 = .ok (.getfield 7, 3) ∧ decode cX7_isCart 6 = .ok (.bipush 13, 2) ∧ decode cX7_isCart 8 = .ok (.iaload, 1) ∧ decode cX7_isCart 9 = .ok (.iconst 1, 1) ∧ decode cX7_isCart 10 = .ok (.isub, 1) ∧ decode cX7_isCart 11 = .ok (.invokestatic 35, 3) ∧ decode cX7_isCart 14 = .ok (.ireturn, 1) := by decide +kernel
theorem dX7_isCart_0 : decode cX7_isCart 0 = .ok (.iload_n 1, 1) := bdX7_isCart_0.1
theorem dX7_isCart_1 : decode cX7_isCart 1 = .ok (.iconst 0, 1) := bdX7_isCart_0.2.1
theorem dX7_isCart_2 : decode cX7_isCart 2 = .ok (.aload_n 0, 1) := bdX7_isCart_0.2.2.1
theorem dX7_isCart_3 : decode cX7_isCart 3 = .ok (.getfield 7, 3) := bdX7_isCart_0.2.2.2.1
theorem dX7_isCart_6 : decode cX7_isCart 6 = .ok (.bipush 13, 2) := bdX7_isCart_0.2.2.2.2.1
theorem dX7_isCart_8 : decode cX7_isCart 8 = .ok (.iaload, 1) := bdX7_isCart_0.2.2.2.2.2.1
theorem dX7_isCart_9 : decode cX7_isCart 9 = .ok (.iconst 1, 1) := bdX7_isCart_0.2.2.2.2.2.2.1
theorem dX7_isCart_10 : decode cX7_isCart 10 = .ok (.isub, 1) := bdX7_isCart_0.2.2.2.2.2.2.2.1
theorem dX7_isCart_11 : decode cX7_isCart 11 = .ok (.invokestatic 35, 3) := bdX7_isCart_0.2.2.2.2.2.2.2.2.1
theorem dX7_isCart_14 : decode cX7_isCart 14 = .ok (.ireturn, 1) := bdX7_isCart_0.2.2.2.2.2.2.2.2.2
theorem bdX7_isPitch_0 : decode cX7_isPitch 0 = .ok (.iload_n 1, 1) ∧ decode cX7_isPitch 1 = .ok (.iconst 0, 1) ∧ decode cX7_isPitch 2 = .ok (.aload_n 0, 1) ∧ decode cX7_isPitch 3 = .ok (.getfield 7, 3) ∧ decode cX7_isPitch 6 = .ok (.bipush 12, 2) ∧ decode cX7_isPitch 8 = .ok (.iaload, 1) ∧ decode cX7_isPitch 9 = .ok (.iconst 1, 1) ∧ decode cX7_isPitch 10 = .ok (.isub, 1) ∧ decode cX7_isPitch 11 = .ok (.invokestatic 35, 3) ∧ decode cX7_isPitch 14 = .ok (.ireturn, 1) := by decide +kernel
theorem dX7_isPitch_0 : decode cX7_isPitch 0 = .ok (.iload_n 1, 1) := bdX7_isPitch_0.1
theorem dX7_isPitch_1 : decode cX7_isPitch 1 = .ok (.iconst 0, 1) := bdX7_isPitch_0.2.1
theorem dX7_isPitch_2 : decode cX7_isPitch 2 = .ok (.aload_n 0, 1) := bdX7_isPitch_0.2.2.1
theorem dX7_isPitch_3 : decode cX7_isPitch 3 = .ok (.getfield 7, 3) := bdX7_isPitch_0.2.2.2.1
theorem dX7_isPitch_6 : decode cX7_isPitch 6 = .ok (.bipush 12, 2) := bdX7_isPitch_0.2.2.2.2.1
theorem dX7_isPitch_8 : decode cX7_isPitch 8 = .ok (.iaload, 1) := bdX7_isPitch_0.2.2.2.2.2.1
theorem dX7_isPitch_9 : decode cX7_isPitch 9 = .ok (.iconst 1, 1) := bdX7_isPitch_0.2.2.2.2.2.2.1
theorem dX7_isPitch_10 : decode cX7_isPitch 10 = .ok (.isub, 1) := bdX7_isPitch_0.2.2.2.2.2.2.2.1
theorem dX7_isPitch_11 : decode cX7_isPitch 11 = .ok (.invokestatic 35, 3) := bdX7_isPitch_0.2.2.2.2.2.2.2.2.1
theorem dX7_isPitch_14 : decode cX7_isPitch 14 = .ok (.ireturn, 1) := bdX7_isPitch_0.2.2.2.2.2.2.2.2.2
theorem bdX7_keep_0 : decode cX7_keep 0 = .ok (.aload_n 0, 1) ∧ decode cX7_keep 1 = .ok (.getfield 39, 3) ∧ decode cX7_keep 4 = .ok (.bipush 6, 2) ∧ decode cX7_keep 6 = .ok (.if_icmp .ne 44, 3) ∧ decode cX7_keep 9 = .ok (.iconst 0, 1) ∧ decode cX7_keep 10 = .ok (.istore_n 1, 1) ∧ decode cX7_keep 11 = .ok (.iload_n 1, 1) ∧ decode cX7_keep 12 = .ok (.sipush 17960, 3) ∧ decode cX7_keep 15 = .ok (.if_icmp .ge 25, 3) ∧ decode cX7_keep 18 = .ok (.aload_n 0, 1) ∧ decode cX7_keep 19 = .ok (.getfield 13, 3) ∧ decode cX7_keep 22 = .ok (.iload_n 1, 1) ∧ decode cX7_keep 23 = .ok (.aload_n 0, 1) ∧ decode cX7_keep 24 = .ok (.getfield 13, 3) ∧ decode cX7_keep 27 = .ok (.iload_n 1, 1) ∧ decode cX7_keep 28 = .ok (.sipush 3592, 3) := by decide +kernel
theorem dX7_keep_0 : decode cX7_keep 0 = .ok (.aload_n 0, 1) := bdX7_keep_0.1
theorem dX7_keep_1 : decode cX7_keep 1 = .ok (.getfield 39, 3) := bdX7_keep_0.2.1
theorem dX7_keep_4 : decode cX7_keep 4 = .ok (.bipush 6, 2) := bdX7_keep_0.2.2.1
theorem dX7_keep_6 : decode cX7_keep 6 = .ok (.if_icmp .ne 44, 3) := bdX7_keep_0.2.2.2.1
theorem dX7_keep_9 : decode cX7_keep 9 = .ok (.iconst 0, 1) := bdX7_keep_0.2.2.2.2.1
theorem dX7_keep_10 : decode cX7_keep 10 = .ok (.istore_n 1, 1) := bdX7_keep_0.2.2.2.2.2.1
theorem dX7_keep_11 : decode cX7_keep 11 = .ok (.iload_n 1, 1) := bdX7_keep_0.2.2.2.2.2.2.1
theorem dX7_keep_12 : decode cX7_keep 12 = .ok (.sipush 17960, 3) := bdX7_keep_0.2.2.2.2.2.2.2.1
theorem dX7_keep_15 : decode cX7_keep 15 = .ok (.if_icmp .ge 25, 3) := bdX7_keep_0.2.2.2.2.2.2.2.2.1
theorem dX7_keep_18 : decode cX7_keep 18 = .ok (.aload_n 0, 1) := bdX7_keep_0.2.2.2.2.2.2.2.2.2.1
theorem dX7_keep_19 : decode cX7_keep 19 = .ok (.getfield 13, 3) := bdX7_keep_0.2.2.2.2.2.2.2.2.2.2.1
theorem dX7_keep_22 : decode cX7_keep 22 = .ok (.iload_n 1, 1) := bdX7_keep_0.2.2.2.2.2.2.2.2.2.2.2.1
theorem dX7_keep_23 : decode cX7_keep 23 = .ok (.aload_n 0, 1) := bdX7_keep_0.2.2.2.2.2.2.2.2.2.2.2.2.1
theorem dX7_keep_24 : decode cX7_keep 24 = .ok (.getfield 13, 3) := bdX7_keep_0.2.2.2.2.2.2.2.2.2.2.2.2.2.1
theorem dX7_keep_27 : decode cX7_keep 27 = .ok (.iload_n 1, 1) := bdX7_keep_0.2.2.2.2.2.2.2.2.2.2.2.2.2.2.1
theorem dX7_keep_28 : decode cX7_keep 28 = .ok (.sipush 3592, 3) := bdX7_keep_0.2.2.2.2.2.2.2.2.2.2.2.2.2.2.2
theorem bdX7_keep_31 : decode cX7_keep 31 = .ok (.iadd, 1) ∧ decode cX7_keep 32 = .ok (.iaload, 1) ∧ decode cX7_keep 33 = .ok (.iastore, 1) ∧ decode cX7_keep 34 = .ok (.iinc 1 1, 3) ∧ decode cX7_keep 37 = .ok (.goto (-26), 3) ∧ decode cX7_keep 40 = .ok (.aload_n 0, 1) ∧ decode cX7_keep 41 = .ok (.dup, 1) ∧ decode cX7_keep 42 = .ok (.getfield 39, 3) ∧ decode cX7_keep 45 = .ok (.iconst 1, 1) ∧ decode cX7_keep 46 = .ok (.isub, 1) ∧ decode cX7_keep 47 = .ok (.putfield 39, 3) ∧ decode cX7_keep 50 = .ok (.iconst 0, 1) ∧ decode cX7_keep 51 = .ok (.istore_n 1, 1) ∧ decode cX7_keep 52 = .ok (.iload_n 1, 1) ∧ decode cX7_keep 53 = .ok (.sipush 3592, 3) ∧ decode cX7_keep 56 = .ok (.if_icmp .ge 30, 3) := by decide +kernel
theorem dX7_keep_31 : decode cX7_keep 31 = .ok (.iadd, 1) := bdX7_keep_31.1
theorem dX7_keep_32 : decode cX7_keep 32 = .ok (.iaload, 1) := bdX7_keep_31.2.1
theorem dX7_keep_33 : decode cX7_keep 33 = .ok (.iastore, 1) := bdX7_keep_31.2.2.1
theorem dX7_keep_34 : decode cX7_keep 34 = .ok (.iinc 1 1, 3) := bdX7_keep_31.2.2.2.1
theorem dX7_keep_37 : decode cX7_keep 37 = .ok (.goto (-26), 3) := bdX7_keep_31.2.2.2.2.1
theorem dX7_keep_40 : decode cX7_keep 40 = .ok (.aload_n 0, 1) := bdX7_keep_31.2.2.2.2.2.1
theorem dX7_keep_41 : decode cX7_keep 41 = .ok (.dup, 1) := bdX7_keep_31.2.2.2.2.2.2.1
theorem dX7_keep_42 : decode cX7_keep 42 = .ok (.getfield 39, 3) := bdX7_keep_31.2.2.2.2.2.2.2.1
theorem dX7_keep_45 : decode cX7_keep 45 = .ok (.iconst 1, 1) := bdX7_keep_31.2.2.2.2.2.2.2.2.1
theorem dX7_keep_46 : decode cX7_keep 46 = .ok (.isub, 1) := bdX7_keep_31.2.2.2.2.2.2.2.2.2.1
theorem dX7_keep_47 : decode cX7_keep 47 = .ok (.putfield 39, 3) := bdX7_keep_31.2.2.2.2.2.2.2.2.2.2.1
theorem dX7_keep_50 : decode cX7_keep 50 = .ok (.iconst 0, 1) := bdX7_keep_31.2.2.2.2.2.2.2.2.2.2.2.1
theorem dX7_keep_51 : decode cX7_keep 51 = .ok (.istore_n 1, 1) := bdX7_keep_31.2.2.2.2.2.2.2.2.2.2.2.2.1
theorem dX7_keep_52 : decode cX7_keep 52 = .ok (.iload_n 1, 1) := bdX7_keep_31.2.2.2.2.2.2.2.2.2.2.2.2.2.1
theorem dX7_keep_53 : decode cX7_keep 53 = .ok (.sipush 3592, 3) := bdX7_keep_31.2.2.2.2.2.2.2.2.2.2.2.2.2.2.1
theorem dX7_keep_56 : decode cX7_keep 56 = .ok (.if_icmp .ge 30, 3) := bdX7_keep_31.2.2.2.2.2.2.2.2.2.2.2.2.2.2.2
theorem bdX7_keep_59 : decode cX7_keep 59 = .ok (.aload_n 0, 1) ∧ decode cX7_keep 60 = .ok (.getfield 13, 3) ∧ decode cX7_keep 63 = .ok (.sipush 3592, 3) ∧ decode cX7_keep 66 = .ok (.aload_n 0, 1) ∧ decode cX7_keep 67 = .ok (.getfield 39, 3) ∧ decode cX7_keep 70 = .ok (.imul, 1) ∧ decode cX7_keep 71 = .ok (.iload_n 1, 1) ∧ decode cX7_keep 72 = .ok (.iadd, 1) ∧ decode cX7_keep 73 = .ok (.aload_n 0, 1) ∧ decode cX7_keep 74 = .ok (.getfield 7, 3) ∧ decode cX7_keep 77 = .ok (.iload_n 1, 1) ∧ decode cX7_keep 78 = .ok (.iaload, 1) ∧ decode cX7_keep 79 = .ok (.iastore, 1) ∧ decode cX7_keep 80 = .ok (.iinc 1 1, 3) ∧ decode cX7_keep 83 = .ok (.goto (-31), 3) ∧ decode cX7_keep 86 = .ok (.aload_n 0, 1) := by decide +kernel
theorem dX7_keep_59 : decode cX7_keep 59 = .ok (.aload_n 0, 1) := bdX7_keep_59.1
theorem dX7_keep_60 : decode cX7_keep 60 = .ok (.getfield 13, 3) := bdX7_keep_59.2.1
theorem dX7_keep_63 : decode cX7_keep 63 = .ok (.sipush 3592, 3) := bdX7_keep_59.2.2.1
theorem dX7_keep_66 : decode cX7_keep 66 = .ok (.aload_n 0, 1) := bdX7_keep_59.2.2.2.1
theorem dX7_keep_67 : decode cX7_keep 67 = .ok (.getfield 39, 3) := bdX7_keep_59.2.2.2.2.1
theorem dX7_keep_70 : decode cX7_keep 70 = .ok (.imul, 1) := bdX7_keep_59.2.2.2.2.2.1
theorem dX7_keep_71 : decode cX7_keep 71 = .ok (.iload_n 1, 1) := bdX7_keep_59.2.2.2.2.2.2.1
theorem dX7_keep_72 : decode cX7_keep 72 = .ok (.iadd, 1) := bdX7_keep_59.2.2.2.2.2.2.2.1
theorem dX7_keep_73 : decode cX7_keep 73 = .ok (.aload_n 0, 1) := bdX7_keep_59.2.2.2.2.2.2.2.2.1
theorem dX7_keep_74 : decode cX7_keep 74 = .ok (.getfield 7, 3) := bdX7_keep_59.2.2.2.2.2.2.2.2.2.1
theorem dX7_keep_77 : decode cX7_keep 77 = .ok (.iload_n 1, 1) := bdX7_keep_59.2.2.2.2.2.2.2.2.2.2.1
theorem dX7_keep_78 : decode cX7_keep 78 = .ok (.iaload, 1) := bdX7_keep_59.2.2.2.2.2.2.2.2.2.2.2.1
theorem dX7_keep_79 : decode cX7_keep 79 = .ok (.iastore, 1) := bdX7_keep_59.2.2.2.2.2.2.2.2.2.2.2.2.1
theorem dX7_keep_80 : decode cX7_keep 80 = .ok (.iinc 1 1, 3) := bdX7_keep_59.2.2.2.2.2.2.2.2.2.2.2.2.2.1
theorem dX7_keep_83 : decode cX7_keep 83 = .ok (.goto (-31), 3) := bdX7_keep_59.2.2.2.2.2.2.2.2.2.2.2.2.2.2.1
theorem dX7_keep_86 : decode cX7_keep 86 = .ok (.aload_n 0, 1) := bdX7_keep_59.2.2.2.2.2.2.2.2.2.2.2.2.2.2.2
theorem bdX7_keep_87 : decode cX7_keep 87 = .ok (.dup, 1) ∧ decode cX7_keep 88 = .ok (.getfield 39, 3) ∧ decode cX7_keep 91 = .ok (.iconst 1, 1) ∧ decode cX7_keep 92 = .ok (.iadd, 1) ∧ decode cX7_keep 93 = .ok (.putfield 39, 3) ∧ decode cX7_keep 96 = .ok (.return_, 1) := by decide +kernel
theorem dX7_keep_87 : decode cX7_keep 87 = .ok (.dup, 1) := bdX7_keep_87.1
theorem dX7_keep_88 : decode cX7_keep 88 = .ok (.getfield 39, 3) := bdX7_keep_87.2.1
theorem dX7_keep_91 : decode cX7_keep 91 = .ok (.iconst 1, 1) := bdX7_keep_87.2.2.1
theorem dX7_keep_92 : decode cX7_keep 92 = .ok (.iadd, 1) := bdX7_keep_87.2.2.2.1
theorem dX7_keep_93 : decode cX7_keep 93 = .ok (.putfield 39, 3) := bdX7_keep_87.2.2.2.2.1
theorem dX7_keep_96 : decode cX7_keep 96 = .ok (.return_, 1) := bdX7_keep_87.2.2.2.2.2
theorem bdX7_keepIf_0 : decode cX7_keepIf 0 = .ok (.iload_n 1, 1) ∧ decode cX7_keepIf 1 = .ok (.ifCond .eq 7, 3) ∧ decode cX7_keepIf 4 = .ok (.aload_n 0, 1) ∧ decode cX7_keepIf 5 = .ok (.invokevirtual 43, 3) ∧ decode cX7_keepIf 8 = .ok (.return_, 1) := by decide +kernel
theorem dX7_keepIf_0 : decode cX7_keepIf 0 = .ok (.iload_n 1, 1) := bdX7_keepIf_0.1
theorem dX7_keepIf_1 : decode cX7_keepIf 1 = .ok (.ifCond .eq 7, 3) := bdX7_keepIf_0.2.1
theorem dX7_keepIf_4 : decode cX7_keepIf 4 = .ok (.aload_n 0, 1) := bdX7_keepIf_0.2.2.1
theorem dX7_keepIf_5 : decode cX7_keepIf 5 = .ok (.invokevirtual 43, 3) := bdX7_keepIf_0.2.2.2.1
theorem dX7_keepIf_8 : decode cX7_keepIf 8 = .ok (.return_, 1) := bdX7_keepIf_0.2.2.2.2
theorem bdX7_layAside_0 : decode cX7_layAside 0 = .ok (.iconst 0, 1) ∧ decode cX7_layAside 1 = .ok (.istore_n 1, 1) ∧ decode cX7_layAside 2 = .ok (.iload_n 1, 1) ∧ decode cX7_layAside 3 = .ok (.sipush 3592, 3) ∧ decode cX7_layAside 6 = .ok (.if_icmp .ge 21, 3) ∧ decode cX7_layAside 9 = .ok (.aload_n 0, 1) ∧ decode cX7_layAside 10 = .ok (.getfield 23, 3) ∧ decode cX7_layAside 13 = .ok (.iload_n 1, 1) ∧ decode cX7_layAside 14 = .ok (.aload_n 0, 1) ∧ decode cX7_layAside 15 = .ok (.getfield 7, 3) ∧ decode cX7_layAside 18 = .ok (.iload_n 1, 1) ∧ decode cX7_layAside 19 = .ok (.iaload, 1) ∧ decode cX7_layAside 20 = .ok (.iastore, 1) ∧ decode cX7_layAside 21 = .ok (.iinc 1 1, 3) ∧ decode cX7_layAside 24 = .ok (.goto (-22), 3) ∧ decode cX7_layAside 27 = .ok (.return_, 1) := by decide +kernel
theorem dX7_layAside_0 : decode cX7_layAside 0 = .ok (.iconst 0, 1) := bdX7_layAside_0.1
theorem dX7_layAside_1 : decode cX7_layAside 1 = .ok (.istore_n 1, 1) := bdX7_layAside_0.2.1
theorem dX7_layAside_2 : decode cX7_layAside 2 = .ok (.iload_n 1, 1) := bdX7_layAside_0.2.2.1
theorem dX7_layAside_3 : decode cX7_layAside 3 = .ok (.sipush 3592, 3) := bdX7_layAside_0.2.2.2.1
theorem dX7_layAside_6 : decode cX7_layAside 6 = .ok (.if_icmp .ge 21, 3) := bdX7_layAside_0.2.2.2.2.1
theorem dX7_layAside_9 : decode cX7_layAside 9 = .ok (.aload_n 0, 1) := bdX7_layAside_0.2.2.2.2.2.1
theorem dX7_layAside_10 : decode cX7_layAside 10 = .ok (.getfield 23, 3) := bdX7_layAside_0.2.2.2.2.2.2.1
theorem dX7_layAside_13 : decode cX7_layAside 13 = .ok (.iload_n 1, 1) := bdX7_layAside_0.2.2.2.2.2.2.2.1
theorem dX7_layAside_14 : decode cX7_layAside 14 = .ok (.aload_n 0, 1) := bdX7_layAside_0.2.2.2.2.2.2.2.2.1
theorem dX7_layAside_15 : decode cX7_layAside 15 = .ok (.getfield 7, 3) := bdX7_layAside_0.2.2.2.2.2.2.2.2.2.1
theorem dX7_layAside_18 : decode cX7_layAside 18 = .ok (.iload_n 1, 1) := bdX7_layAside_0.2.2.2.2.2.2.2.2.2.2.1
theorem dX7_layAside_19 : decode cX7_layAside 19 = .ok (.iaload, 1) := bdX7_layAside_0.2.2.2.2.2.2.2.2.2.2.2.1
theorem dX7_layAside_20 : decode cX7_layAside 20 = .ok (.iastore, 1) := bdX7_layAside_0.2.2.2.2.2.2.2.2.2.2.2.2.1
theorem dX7_layAside_21 : decode cX7_layAside 21 = .ok (.iinc 1 1, 3) := bdX7_layAside_0.2.2.2.2.2.2.2.2.2.2.2.2.2.1
theorem dX7_layAside_24 : decode cX7_layAside 24 = .ok (.goto (-22), 3) := bdX7_layAside_0.2.2.2.2.2.2.2.2.2.2.2.2.2.2.1
theorem dX7_layAside_27 : decode cX7_layAside 27 = .ok (.return_, 1) := bdX7_layAside_0.2.2.2.2.2.2.2.2.2.2.2.2.2.2.2
theorem bdX7_layBack_0 : decode cX7_layBack 0 = .ok (.iconst 0, 1) ∧ decode cX7_layBack 1 = .ok (.istore_n 1, 1) ∧ decode cX7_layBack 2 = .ok (.iload_n 1, 1) ∧ decode cX7_layBack 3 = .ok (.sipush 3592, 3) ∧ decode cX7_layBack 6 = .ok (.if_icmp .ge 21, 3) ∧ decode cX7_layBack 9 = .ok (.aload_n 0, 1) ∧ decode cX7_layBack 10 = .ok (.getfield 7, 3) ∧ decode cX7_layBack 13 = .ok (.iload_n 1, 1) ∧ decode cX7_layBack 14 = .ok (.aload_n 0, 1) ∧ decode cX7_layBack 15 = .ok (.getfield 23, 3) ∧ decode cX7_layBack 18 = .ok (.iload_n 1, 1) ∧ decode cX7_layBack 19 = .ok (.iaload, 1) ∧ decode cX7_layBack 20 = .ok (.iastore, 1) ∧ decode cX7_layBack 21 = .ok (.iinc 1 1, 3) ∧ decode cX7_layBack 24 = .ok (.goto (-22), 3) ∧ decode cX7_layBack 27 = .ok (.return_, 1) := by decide +kernel
theorem dX7_layBack_0 : decode cX7_layBack 0 = .ok (.iconst 0, 1) := bdX7_layBack_0.1
theorem dX7_layBack_1 : decode cX7_layBack 1 = .ok (.istore_n 1, 1) := bdX7_layBack_0.2.1
theorem dX7_layBack_2 : decode cX7_layBack 2 = .ok (.iload_n 1, 1) := bdX7_layBack_0.2.2.1
theorem dX7_layBack_3 : decode cX7_layBack 3 = .ok (.sipush 3592, 3) := bdX7_layBack_0.2.2.2.1
theorem dX7_layBack_6 : decode cX7_layBack 6 = .ok (.if_icmp .ge 21, 3) := bdX7_layBack_0.2.2.2.2.1
theorem dX7_layBack_9 : decode cX7_layBack 9 = .ok (.aload_n 0, 1) := bdX7_layBack_0.2.2.2.2.2.1
theorem dX7_layBack_10 : decode cX7_layBack 10 = .ok (.getfield 7, 3) := bdX7_layBack_0.2.2.2.2.2.2.1
theorem dX7_layBack_13 : decode cX7_layBack 13 = .ok (.iload_n 1, 1) := bdX7_layBack_0.2.2.2.2.2.2.2.1
theorem dX7_layBack_14 : decode cX7_layBack 14 = .ok (.aload_n 0, 1) := bdX7_layBack_0.2.2.2.2.2.2.2.2.1
theorem dX7_layBack_15 : decode cX7_layBack 15 = .ok (.getfield 23, 3) := bdX7_layBack_0.2.2.2.2.2.2.2.2.2.1
theorem dX7_layBack_18 : decode cX7_layBack 18 = .ok (.iload_n 1, 1) := bdX7_layBack_0.2.2.2.2.2.2.2.2.2.2.1
theorem dX7_layBack_19 : decode cX7_layBack 19 = .ok (.iaload, 1) := bdX7_layBack_0.2.2.2.2.2.2.2.2.2.2.2.1
theorem dX7_layBack_20 : decode cX7_layBack 20 = .ok (.iastore, 1) := bdX7_layBack_0.2.2.2.2.2.2.2.2.2.2.2.2.1
theorem dX7_layBack_21 : decode cX7_layBack 21 = .ok (.iinc 1 1, 3) := bdX7_layBack_0.2.2.2.2.2.2.2.2.2.2.2.2.2.1
theorem dX7_layBack_24 : decode cX7_layBack 24 = .ok (.goto (-22), 3) := bdX7_layBack_0.2.2.2.2.2.2.2.2.2.2.2.2.2.2.1
theorem dX7_layBack_27 : decode cX7_layBack 27 = .ok (.return_, 1) := bdX7_layBack_0.2.2.2.2.2.2.2.2.2.2.2.2.2.2.2
theorem bdX7_least_0 : decode cX7_least 0 = .ok (.iload_n 0, 1) ∧ decode cX7_least 1 = .ok (.iconst 3, 1) ∧ decode cX7_least 2 = .ok (.if_icmp .ne 7, 3) ∧ decode cX7_least 5 = .ok (.iconst 3, 1) ∧ decode cX7_least 6 = .ok (.goto 37, 3) ∧ decode cX7_least 9 = .ok (.iload_n 0, 1) ∧ decode cX7_least 10 = .ok (.bipush 8, 2) ∧ decode cX7_least 12 = .ok (.if_icmp .ne 8, 3) ∧ decode cX7_least 15 = .ok (.bipush 6, 2) ∧ decode cX7_least 17 = .ok (.goto 26, 3) ∧ decode cX7_least 20 = .ok (.iload_n 0, 1) ∧ decode cX7_least 21 = .ok (.bipush 6, 2) ∧ decode cX7_least 23 = .ok (.if_icmp .eq 15, 3) ∧ decode cX7_least 26 = .ok (.iload_n 0, 1) ∧ decode cX7_least 27 = .ok (.bipush 7, 2) ∧ decode cX7_least 29 = .ok (.if_icmp .eq 9, 3) := by decide +kernel
theorem dX7_least_0 : decode cX7_least 0 = .ok (.iload_n 0, 1) := bdX7_least_0.1
theorem dX7_least_1 : decode cX7_least 1 = .ok (.iconst 3, 1) := bdX7_least_0.2.1
theorem dX7_least_2 : decode cX7_least 2 = .ok (.if_icmp .ne 7, 3) := bdX7_least_0.2.2.1
theorem dX7_least_5 : decode cX7_least 5 = .ok (.iconst 3, 1) := bdX7_least_0.2.2.2.1
theorem dX7_least_6 : decode cX7_least 6 = .ok (.goto 37, 3) := bdX7_least_0.2.2.2.2.1
theorem dX7_least_9 : decode cX7_least 9 = .ok (.iload_n 0, 1) := bdX7_least_0.2.2.2.2.2.1
theorem dX7_least_10 : decode cX7_least 10 = .ok (.bipush 8, 2) := bdX7_least_0.2.2.2.2.2.2.1
theorem dX7_least_12 : decode cX7_least 12 = .ok (.if_icmp .ne 8, 3) := bdX7_least_0.2.2.2.2.2.2.2.1
theorem dX7_least_15 : decode cX7_least 15 = .ok (.bipush 6, 2) := bdX7_least_0.2.2.2.2.2.2.2.2.1
theorem dX7_least_17 : decode cX7_least 17 = .ok (.goto 26, 3) := bdX7_least_0.2.2.2.2.2.2.2.2.2.1
theorem dX7_least_20 : decode cX7_least 20 = .ok (.iload_n 0, 1) := bdX7_least_0.2.2.2.2.2.2.2.2.2.2.1
theorem dX7_least_21 : decode cX7_least 21 = .ok (.bipush 6, 2) := bdX7_least_0.2.2.2.2.2.2.2.2.2.2.2.1
theorem dX7_least_23 : decode cX7_least 23 = .ok (.if_icmp .eq 15, 3) := bdX7_least_0.2.2.2.2.2.2.2.2.2.2.2.2.1
theorem dX7_least_26 : decode cX7_least 26 = .ok (.iload_n 0, 1) := bdX7_least_0.2.2.2.2.2.2.2.2.2.2.2.2.2.1
theorem dX7_least_27 : decode cX7_least 27 = .ok (.bipush 7, 2) := bdX7_least_0.2.2.2.2.2.2.2.2.2.2.2.2.2.2.1
theorem dX7_least_29 : decode cX7_least 29 = .ok (.if_icmp .eq 9, 3) := bdX7_least_0.2.2.2.2.2.2.2.2.2.2.2.2.2.2.2
theorem bdX7_least_32 : decode cX7_least 32 = .ok (.iload_n 0, 1) ∧ decode cX7_least 33 = .ok (.bipush 9, 2) ∧ decode cX7_least 35 = .ok (.if_icmp .ne 7, 3) ∧ decode cX7_least 38 = .ok (.iconst 0, 1) ∧ decode cX7_least 39 = .ok (.goto 4, 3) ∧ decode cX7_least 42 = .ok (.iconst 1, 1) ∧ decode cX7_least 43 = .ok (.ireturn, 1) := by decide +kernel
theorem dX7_least_32 : decode cX7_least 32 = .ok (.iload_n 0, 1) := bdX7_least_32.1
theorem dX7_least_33 : decode cX7_least 33 = .ok (.bipush 9, 2) := bdX7_least_32.2.1
theorem dX7_least_35 : decode cX7_least 35 = .ok (.if_icmp .ne 7, 3) := bdX7_least_32.2.2.1
theorem dX7_least_38 : decode cX7_least 38 = .ok (.iconst 0, 1) := bdX7_least_32.2.2.2.1
theorem dX7_least_39 : decode cX7_least 39 = .ok (.goto 4, 3) := bdX7_least_32.2.2.2.2.1
theorem dX7_least_42 : decode cX7_least 42 = .ok (.iconst 1, 1) := bdX7_least_32.2.2.2.2.2.1
theorem dX7_least_43 : decode cX7_least 43 = .ok (.ireturn, 1) := bdX7_least_32.2.2.2.2.2.2
theorem bdX7_greatest_0 : decode cX7_greatest 0 = .ok (.iload_n 0, 1) ∧ decode cX7_greatest 1 = .ok (.tableswitch 77 0 8 #[51, 54, 58, 61, 64, 54, 67, 71, 74], 51) ∧ decode cX7_greatest 52 = .ok (.bipush 20, 2) ∧ decode cX7_greatest 54 = .ok (.ireturn, 1) ∧ decode cX7_greatest 55 = .ok (.sipush 200, 3) ∧ decode cX7_greatest 58 = .ok (.ireturn, 1) ∧ decode cX7_greatest 59 = .ok (.bipush 8, 2) ∧ decode cX7_greatest 61 = .ok (.ireturn, 1) ∧ decode cX7_greatest 62 = .ok (.bipush 30, 2) ∧ decode cX7_greatest 64 = .ok (.ireturn, 1) ∧ decode cX7_greatest 65 = .ok (.bipush 60, 2) ∧ decode cX7_greatest 67 = .ok (.ireturn, 1) ∧ decode cX7_greatest 68 = .ok (.sipush 10000, 3) ∧ decode cX7_greatest 71 = .ok (.ireturn, 1) ∧ decode cX7_greatest 72 = .ok (.bipush 9, 2) ∧ decode cX7_greatest 74 = .ok (.ireturn, 1) := by decide +kernel
theorem dX7_greatest_0 : decode cX7_greatest 0 = .ok (.iload_n 0, 1) := bdX7_greatest_0.1
theorem dX7_greatest_1 : decode cX7_greatest 1 = .ok (.tableswitch 77 0 8 #[51, 54, 58, 61, 64, 54, 67, 71, 74], 51) := bdX7_greatest_0.2.1
theorem dX7_greatest_52 : decode cX7_greatest 52 = .ok (.bipush 20, 2) := bdX7_greatest_0.2.2.1
theorem dX7_greatest_54 : decode cX7_greatest 54 = .ok (.ireturn, 1) := bdX7_greatest_0.2.2.2.1
theorem dX7_greatest_55 : decode cX7_greatest 55 = .ok (.sipush 200, 3) := bdX7_greatest_0.2.2.2.2.1
theorem dX7_greatest_58 : decode cX7_greatest 58 = .ok (.ireturn, 1) := bdX7_greatest_0.2.2.2.2.2.1
theorem dX7_greatest_59 : decode cX7_greatest 59 = .ok (.bipush 8, 2) := bdX7_greatest_0.2.2.2.2.2.2.1
theorem dX7_greatest_61 : decode cX7_greatest 61 = .ok (.ireturn, 1) := bdX7_greatest_0.2.2.2.2.2.2.2.1
theorem dX7_greatest_62 : decode cX7_greatest 62 = .ok (.bipush 30, 2) := bdX7_greatest_0.2.2.2.2.2.2.2.2.1
theorem dX7_greatest_64 : decode cX7_greatest 64 = .ok (.ireturn, 1) := bdX7_greatest_0.2.2.2.2.2.2.2.2.2.1
theorem dX7_greatest_65 : decode cX7_greatest 65 = .ok (.bipush 60, 2) := bdX7_greatest_0.2.2.2.2.2.2.2.2.2.2.1
theorem dX7_greatest_67 : decode cX7_greatest 67 = .ok (.ireturn, 1) := bdX7_greatest_0.2.2.2.2.2.2.2.2.2.2.2.1
theorem dX7_greatest_68 : decode cX7_greatest 68 = .ok (.sipush 10000, 3) := bdX7_greatest_0.2.2.2.2.2.2.2.2.2.2.2.2.1
theorem dX7_greatest_71 : decode cX7_greatest 71 = .ok (.ireturn, 1) := bdX7_greatest_0.2.2.2.2.2.2.2.2.2.2.2.2.2.1
theorem dX7_greatest_72 : decode cX7_greatest 72 = .ok (.bipush 9, 2) := bdX7_greatest_0.2.2.2.2.2.2.2.2.2.2.2.2.2.2.1
theorem dX7_greatest_74 : decode cX7_greatest 74 = .ok (.ireturn, 1) := bdX7_greatest_0.2.2.2.2.2.2.2.2.2.2.2.2.2.2.2
theorem bdX7_greatest_75 : decode cX7_greatest 75 = .ok (.bipush 14, 2) ∧ decode cX7_greatest 77 = .ok (.ireturn, 1) ∧ decode cX7_greatest 78 = .ok (.sipush 5000, 3) ∧ decode cX7_greatest 81 = .ok (.ireturn, 1) := by decide +kernel
theorem dX7_greatest_75 : decode cX7_greatest 75 = .ok (.bipush 14, 2) := bdX7_greatest_75.1
theorem dX7_greatest_77 : decode cX7_greatest 77 = .ok (.ireturn, 1) := bdX7_greatest_75.2.1
theorem dX7_greatest_78 : decode cX7_greatest 78 = .ok (.sipush 5000, 3) := bdX7_greatest_75.2.2.1
theorem dX7_greatest_81 : decode cX7_greatest 81 = .ok (.ireturn, 1) := bdX7_greatest_75.2.2.2
theorem bdX7_set_0 : decode cX7_set 0 = .ok (.iload_n 1, 1) ∧ decode cX7_set 1 = .ok (.iconst 0, 1) ∧ decode cX7_set 2 = .ok (.bipush 9, 2) ∧ decode cX7_set 4 = .ok (.invokestatic 35, 3) ∧ decode cX7_set 7 = .ok (.ifCond .eq 18, 3) ∧ decode cX7_set 10 = .ok (.iload_n 2, 1) ∧ decode cX7_set 11 = .ok (.iload_n 1, 1) ∧ decode cX7_set 12 = .ok (.invokestatic 46, 3) ∧ decode cX7_set 15 = .ok (.iload_n 1, 1) ∧ decode cX7_set 16 = .ok (.invokestatic 50, 3) ∧ decode cX7_set 19 = .ok (.invokestatic 35, 3) ∧ decode cX7_set 22 = .ok (.ifCond .ne 6, 3) ∧ decode cX7_set 25 = .ok (.bipush (-2), 2) ∧ decode cX7_set 27 = .ok (.ireturn, 1) ∧ decode cX7_set 28 = .ok (.aload_n 0, 1) ∧ decode cX7_set 29 = .ok (.invokevirtual 43, 3) := by decide +kernel
theorem dX7_set_0 : decode cX7_set 0 = .ok (.iload_n 1, 1) := bdX7_set_0.1
theorem dX7_set_1 : decode cX7_set 1 = .ok (.iconst 0, 1) := bdX7_set_0.2.1
theorem dX7_set_2 : decode cX7_set 2 = .ok (.bipush 9, 2) := bdX7_set_0.2.2.1
theorem dX7_set_4 : decode cX7_set 4 = .ok (.invokestatic 35, 3) := bdX7_set_0.2.2.2.1
theorem dX7_set_7 : decode cX7_set 7 = .ok (.ifCond .eq 18, 3) := bdX7_set_0.2.2.2.2.1
theorem dX7_set_10 : decode cX7_set 10 = .ok (.iload_n 2, 1) := bdX7_set_0.2.2.2.2.2.1
theorem dX7_set_11 : decode cX7_set 11 = .ok (.iload_n 1, 1) := bdX7_set_0.2.2.2.2.2.2.1
theorem dX7_set_12 : decode cX7_set 12 = .ok (.invokestatic 46, 3) := bdX7_set_0.2.2.2.2.2.2.2.1
theorem dX7_set_15 : decode cX7_set 15 = .ok (.iload_n 1, 1) := bdX7_set_0.2.2.2.2.2.2.2.2.1
theorem dX7_set_16 : decode cX7_set 16 = .ok (.invokestatic 50, 3) := bdX7_set_0.2.2.2.2.2.2.2.2.2.1
theorem dX7_set_19 : decode cX7_set 19 = .ok (.invokestatic 35, 3) := bdX7_set_0.2.2.2.2.2.2.2.2.2.2.1
theorem dX7_set_22 : decode cX7_set 22 = .ok (.ifCond .ne 6, 3) := bdX7_set_0.2.2.2.2.2.2.2.2.2.2.2.1
theorem dX7_set_25 : decode cX7_set 25 = .ok (.bipush (-2), 2) := bdX7_set_0.2.2.2.2.2.2.2.2.2.2.2.2.1
theorem dX7_set_27 : decode cX7_set 27 = .ok (.ireturn, 1) := bdX7_set_0.2.2.2.2.2.2.2.2.2.2.2.2.2.1
theorem dX7_set_28 : decode cX7_set 28 = .ok (.aload_n 0, 1) := bdX7_set_0.2.2.2.2.2.2.2.2.2.2.2.2.2.2.1
theorem dX7_set_29 : decode cX7_set 29 = .ok (.invokevirtual 43, 3) := bdX7_set_0.2.2.2.2.2.2.2.2.2.2.2.2.2.2.2
theorem bdX7_set_32 : decode cX7_set 32 = .ok (.aload_n 0, 1) ∧ decode cX7_set 33 = .ok (.getfield 7, 3) ∧ decode cX7_set 36 = .ok (.iload_n 1, 1) ∧ decode cX7_set 37 = .ok (.iaload, 1) ∧ decode cX7_set 38 = .ok (.istore_n 3, 1) ∧ decode cX7_set 39 = .ok (.aload_n 0, 1) ∧ decode cX7_set 40 = .ok (.getfield 7, 3) ∧ decode cX7_set 43 = .ok (.iload_n 1, 1) ∧ decode cX7_set 44 = .ok (.iload_n 2, 1) ∧ decode cX7_set 45 = .ok (.iastore, 1) ∧ decode cX7_set 46 = .ok (.iload_n 3, 1) ∧ decode cX7_set 47 = .ok (.ireturn, 1) := by decide +kernel
theorem dX7_set_32 : decode cX7_set 32 = .ok (.aload_n 0, 1) := bdX7_set_32.1
theorem dX7_set_33 : decode cX7_set 33 = .ok (.getfield 7, 3) := bdX7_set_32.2.1
theorem dX7_set_36 : decode cX7_set 36 = .ok (.iload_n 1, 1) := bdX7_set_32.2.2.1
theorem dX7_set_37 : decode cX7_set 37 = .ok (.iaload, 1) := bdX7_set_32.2.2.2.1
theorem dX7_set_38 : decode cX7_set 38 = .ok (.istore_n 3, 1) := bdX7_set_32.2.2.2.2.1
theorem dX7_set_39 : decode cX7_set 39 = .ok (.aload_n 0, 1) := bdX7_set_32.2.2.2.2.2.1
theorem dX7_set_40 : decode cX7_set 40 = .ok (.getfield 7, 3) := bdX7_set_32.2.2.2.2.2.2.1
theorem dX7_set_43 : decode cX7_set 43 = .ok (.iload_n 1, 1) := bdX7_set_32.2.2.2.2.2.2.2.1
theorem dX7_set_44 : decode cX7_set 44 = .ok (.iload_n 2, 1) := bdX7_set_32.2.2.2.2.2.2.2.2.1
theorem dX7_set_45 : decode cX7_set 45 = .ok (.iastore, 1) := bdX7_set_32.2.2.2.2.2.2.2.2.2.1
theorem dX7_set_46 : decode cX7_set 46 = .ok (.iload_n 3, 1) := bdX7_set_32.2.2.2.2.2.2.2.2.2.2.1
theorem dX7_set_47 : decode cX7_set 47 = .ok (.ireturn, 1) := bdX7_set_32.2.2.2.2.2.2.2.2.2.2.2
theorem bdX7_seed_0 : decode cX7_seed 0 = .ok (.iload_n 1, 1) ∧ decode cX7_seed 1 = .ok (.iconst 0, 1) ∧ decode cX7_seed 2 = .ok (.ldc 53, 2) ∧ decode cX7_seed 4 = .ok (.invokestatic 35, 3) ∧ decode cX7_seed 7 = .ok (.ifCond .ne 6, 3) ∧ decode cX7_seed 10 = .ok (.bipush (-2), 2) ∧ decode cX7_seed 12 = .ok (.ireturn, 1) ∧ decode cX7_seed 13 = .ok (.aload_n 0, 1) ∧ decode cX7_seed 14 = .ok (.invokevirtual 43, 3) ∧ decode cX7_seed 17 = .ok (.aload_n 0, 1) ∧ decode cX7_seed 18 = .ok (.getfield 7, 3) ∧ decode cX7_seed 21 = .ok (.bipush 11, 2) ∧ decode cX7_seed 23 = .ok (.iaload, 1) ∧ decode cX7_seed 24 = .ok (.istore_n 2, 1) ∧ decode cX7_seed 25 = .ok (.aload_n 0, 1) ∧ decode cX7_seed 26 = .ok (.getfield 7, 3) := by decide +kernel
theorem dX7_seed_0 : decode cX7_seed 0 = .ok (.iload_n 1, 1) := bdX7_seed_0.1
theorem dX7_seed_1 : decode cX7_seed 1 = .ok (.iconst 0, 1) := bdX7_seed_0.2.1
theorem dX7_seed_2 : decode cX7_seed 2 = .ok (.ldc 53, 2) := bdX7_seed_0.2.2.1
theorem dX7_seed_4 : decode cX7_seed 4 = .ok (.invokestatic 35, 3) := bdX7_seed_0.2.2.2.1
theorem dX7_seed_7 : decode cX7_seed 7 = .ok (.ifCond .ne 6, 3) := bdX7_seed_0.2.2.2.2.1
theorem dX7_seed_10 : decode cX7_seed 10 = .ok (.bipush (-2), 2) := bdX7_seed_0.2.2.2.2.2.1
theorem dX7_seed_12 : decode cX7_seed 12 = .ok (.ireturn, 1) := bdX7_seed_0.2.2.2.2.2.2.1
theorem dX7_seed_13 : decode cX7_seed 13 = .ok (.aload_n 0, 1) := bdX7_seed_0.2.2.2.2.2.2.2.1
theorem dX7_seed_14 : decode cX7_seed 14 = .ok (.invokevirtual 43, 3) := bdX7_seed_0.2.2.2.2.2.2.2.2.1
theorem dX7_seed_17 : decode cX7_seed 17 = .ok (.aload_n 0, 1) := bdX7_seed_0.2.2.2.2.2.2.2.2.2.1
theorem dX7_seed_18 : decode cX7_seed 18 = .ok (.getfield 7, 3) := bdX7_seed_0.2.2.2.2.2.2.2.2.2.2.1
theorem dX7_seed_21 : decode cX7_seed 21 = .ok (.bipush 11, 2) := bdX7_seed_0.2.2.2.2.2.2.2.2.2.2.2.1
theorem dX7_seed_23 : decode cX7_seed 23 = .ok (.iaload, 1) := bdX7_seed_0.2.2.2.2.2.2.2.2.2.2.2.2.1
theorem dX7_seed_24 : decode cX7_seed 24 = .ok (.istore_n 2, 1) := bdX7_seed_0.2.2.2.2.2.2.2.2.2.2.2.2.2.1
theorem dX7_seed_25 : decode cX7_seed 25 = .ok (.aload_n 0, 1) := bdX7_seed_0.2.2.2.2.2.2.2.2.2.2.2.2.2.2.1
theorem dX7_seed_26 : decode cX7_seed 26 = .ok (.getfield 7, 3) := bdX7_seed_0.2.2.2.2.2.2.2.2.2.2.2.2.2.2.2
theorem bdX7_seed_29 : decode cX7_seed 29 = .ok (.bipush 11, 2) ∧ decode cX7_seed 31 = .ok (.iload_n 1, 1) ∧ decode cX7_seed 32 = .ok (.iastore, 1) ∧ decode cX7_seed 33 = .ok (.iload_n 2, 1) ∧ decode cX7_seed 34 = .ok (.ireturn, 1) := by decide +kernel
theorem dX7_seed_29 : decode cX7_seed 29 = .ok (.bipush 11, 2) := bdX7_seed_29.1
theorem dX7_seed_31 : decode cX7_seed 31 = .ok (.iload_n 1, 1) := bdX7_seed_29.2.1
theorem dX7_seed_32 : decode cX7_seed 32 = .ok (.iastore, 1) := bdX7_seed_29.2.2.1
theorem dX7_seed_33 : decode cX7_seed 33 = .ok (.iload_n 2, 1) := bdX7_seed_29.2.2.2.1
theorem dX7_seed_34 : decode cX7_seed 34 = .ok (.ireturn, 1) := bdX7_seed_29.2.2.2.2
theorem bdX7_pitch_0 : decode cX7_pitch 0 = .ok (.iload_n 1, 1) ∧ decode cX7_pitch 1 = .ok (.iconst 0, 1) ∧ decode cX7_pitch 2 = .ok (.sipush 20000, 3) ∧ decode cX7_pitch 5 = .ok (.invokestatic 35, 3) ∧ decode cX7_pitch 8 = .ok (.ifCond .ne 6, 3) ∧ decode cX7_pitch 11 = .ok (.bipush (-2), 2) ∧ decode cX7_pitch 13 = .ok (.ireturn, 1) ∧ decode cX7_pitch 14 = .ok (.aload_n 0, 1) ∧ decode cX7_pitch 15 = .ok (.getfield 7, 3) ∧ decode cX7_pitch 18 = .ok (.bipush 12, 2) ∧ decode cX7_pitch 20 = .ok (.iaload, 1) ∧ decode cX7_pitch 21 = .ok (.bipush 10, 2) ∧ decode cX7_pitch 23 = .ok (.if_icmp .ne 6, 3) ∧ decode cX7_pitch 26 = .ok (.bipush (-4), 2) ∧ decode cX7_pitch 28 = .ok (.ireturn, 1) ∧ decode cX7_pitch 29 = .ok (.aload_n 0, 1) := by decide +kernel
theorem dX7_pitch_0 : decode cX7_pitch 0 = .ok (.iload_n 1, 1) := bdX7_pitch_0.1
theorem dX7_pitch_1 : decode cX7_pitch 1 = .ok (.iconst 0, 1) := bdX7_pitch_0.2.1
theorem dX7_pitch_2 : decode cX7_pitch 2 = .ok (.sipush 20000, 3) := bdX7_pitch_0.2.2.1
theorem dX7_pitch_5 : decode cX7_pitch 5 = .ok (.invokestatic 35, 3) := bdX7_pitch_0.2.2.2.1
theorem dX7_pitch_8 : decode cX7_pitch 8 = .ok (.ifCond .ne 6, 3) := bdX7_pitch_0.2.2.2.2.1
theorem dX7_pitch_11 : decode cX7_pitch 11 = .ok (.bipush (-2), 2) := bdX7_pitch_0.2.2.2.2.2.1
theorem dX7_pitch_13 : decode cX7_pitch 13 = .ok (.ireturn, 1) := bdX7_pitch_0.2.2.2.2.2.2.1
theorem dX7_pitch_14 : decode cX7_pitch 14 = .ok (.aload_n 0, 1) := bdX7_pitch_0.2.2.2.2.2.2.2.1
theorem dX7_pitch_15 : decode cX7_pitch 15 = .ok (.getfield 7, 3) := bdX7_pitch_0.2.2.2.2.2.2.2.2.1
theorem dX7_pitch_18 : decode cX7_pitch 18 = .ok (.bipush 12, 2) := bdX7_pitch_0.2.2.2.2.2.2.2.2.2.1
theorem dX7_pitch_20 : decode cX7_pitch 20 = .ok (.iaload, 1) := bdX7_pitch_0.2.2.2.2.2.2.2.2.2.2.1
theorem dX7_pitch_21 : decode cX7_pitch 21 = .ok (.bipush 10, 2) := bdX7_pitch_0.2.2.2.2.2.2.2.2.2.2.2.1
theorem dX7_pitch_23 : decode cX7_pitch 23 = .ok (.if_icmp .ne 6, 3) := bdX7_pitch_0.2.2.2.2.2.2.2.2.2.2.2.2.1
theorem dX7_pitch_26 : decode cX7_pitch 26 = .ok (.bipush (-4), 2) := bdX7_pitch_0.2.2.2.2.2.2.2.2.2.2.2.2.2.1
theorem dX7_pitch_28 : decode cX7_pitch 28 = .ok (.ireturn, 1) := bdX7_pitch_0.2.2.2.2.2.2.2.2.2.2.2.2.2.2.1
theorem dX7_pitch_29 : decode cX7_pitch 29 = .ok (.aload_n 0, 1) := bdX7_pitch_0.2.2.2.2.2.2.2.2.2.2.2.2.2.2.2
theorem bdX7_pitch_30 : decode cX7_pitch 30 = .ok (.invokevirtual 43, 3) ∧ decode cX7_pitch 33 = .ok (.bipush 32, 2) ∧ decode cX7_pitch 35 = .ok (.iconst 4, 1) ∧ decode cX7_pitch 36 = .ok (.aload_n 0, 1) ∧ decode cX7_pitch 37 = .ok (.getfield 7, 3) ∧ decode cX7_pitch 40 = .ok (.bipush 12, 2) ∧ decode cX7_pitch 42 = .ok (.iaload, 1) ∧ decode cX7_pitch 43 = .ok (.imul, 1) ∧ decode cX7_pitch 44 = .ok (.iadd, 1) ∧ decode cX7_pitch 45 = .ok (.istore_n 2, 1) ∧ decode cX7_pitch 46 = .ok (.aload_n 0, 1) ∧ decode cX7_pitch 47 = .ok (.getfield 7, 3) ∧ decode cX7_pitch 50 = .ok (.iload_n 2, 1) ∧ decode cX7_pitch 51 = .ok (.iconst 0, 1) ∧ decode cX7_pitch 52 = .ok (.iadd, 1) ∧ decode cX7_pitch 53 = .ok (.iload_n 1, 1) := by decide +kernel
theorem dX7_pitch_30 : decode cX7_pitch 30 = .ok (.invokevirtual 43, 3) := bdX7_pitch_30.1
theorem dX7_pitch_33 : decode cX7_pitch 33 = .ok (.bipush 32, 2) := bdX7_pitch_30.2.1
theorem dX7_pitch_35 : decode cX7_pitch 35 = .ok (.iconst 4, 1) := bdX7_pitch_30.2.2.1
theorem dX7_pitch_36 : decode cX7_pitch 36 = .ok (.aload_n 0, 1) := bdX7_pitch_30.2.2.2.1
theorem dX7_pitch_37 : decode cX7_pitch 37 = .ok (.getfield 7, 3) := bdX7_pitch_30.2.2.2.2.1
theorem dX7_pitch_40 : decode cX7_pitch 40 = .ok (.bipush 12, 2) := bdX7_pitch_30.2.2.2.2.2.1
theorem dX7_pitch_42 : decode cX7_pitch 42 = .ok (.iaload, 1) := bdX7_pitch_30.2.2.2.2.2.2.1
theorem dX7_pitch_43 : decode cX7_pitch 43 = .ok (.imul, 1) := bdX7_pitch_30.2.2.2.2.2.2.2.1
theorem dX7_pitch_44 : decode cX7_pitch 44 = .ok (.iadd, 1) := bdX7_pitch_30.2.2.2.2.2.2.2.2.1
theorem dX7_pitch_45 : decode cX7_pitch 45 = .ok (.istore_n 2, 1) := bdX7_pitch_30.2.2.2.2.2.2.2.2.2.1
theorem dX7_pitch_46 : decode cX7_pitch 46 = .ok (.aload_n 0, 1) := bdX7_pitch_30.2.2.2.2.2.2.2.2.2.2.1
theorem dX7_pitch_47 : decode cX7_pitch 47 = .ok (.getfield 7, 3) := bdX7_pitch_30.2.2.2.2.2.2.2.2.2.2.2.1
theorem dX7_pitch_50 : decode cX7_pitch 50 = .ok (.iload_n 2, 1) := bdX7_pitch_30.2.2.2.2.2.2.2.2.2.2.2.2.1
theorem dX7_pitch_51 : decode cX7_pitch 51 = .ok (.iconst 0, 1) := bdX7_pitch_30.2.2.2.2.2.2.2.2.2.2.2.2.2.1
theorem dX7_pitch_52 : decode cX7_pitch 52 = .ok (.iadd, 1) := bdX7_pitch_30.2.2.2.2.2.2.2.2.2.2.2.2.2.2.1
theorem dX7_pitch_53 : decode cX7_pitch 53 = .ok (.iload_n 1, 1) := bdX7_pitch_30.2.2.2.2.2.2.2.2.2.2.2.2.2.2.2
theorem bdX7_pitch_54 : decode cX7_pitch 54 = .ok (.iastore, 1) ∧ decode cX7_pitch 55 = .ok (.aload_n 0, 1) ∧ decode cX7_pitch 56 = .ok (.getfield 7, 3) ∧ decode cX7_pitch 59 = .ok (.iload_n 2, 1) ∧ decode cX7_pitch 60 = .ok (.iconst 1, 1) ∧ decode cX7_pitch 61 = .ok (.iadd, 1) ∧ decode cX7_pitch 62 = .ok (.iconst 0, 1) ∧ decode cX7_pitch 63 = .ok (.iastore, 1) ∧ decode cX7_pitch 64 = .ok (.aload_n 0, 1) ∧ decode cX7_pitch 65 = .ok (.getfield 7, 3) ∧ decode cX7_pitch 68 = .ok (.iload_n 2, 1) ∧ decode cX7_pitch 69 = .ok (.iconst 2, 1) ∧ decode cX7_pitch 70 = .ok (.iadd, 1) ∧ decode cX7_pitch 71 = .ok (.iconst 0, 1) ∧ decode cX7_pitch 72 = .ok (.iastore, 1) ∧ decode cX7_pitch 73 = .ok (.aload_n 0, 1) := by decide +kernel
theorem dX7_pitch_54 : decode cX7_pitch 54 = .ok (.iastore, 1) := bdX7_pitch_54.1
theorem dX7_pitch_55 : decode cX7_pitch 55 = .ok (.aload_n 0, 1) := bdX7_pitch_54.2.1
theorem dX7_pitch_56 : decode cX7_pitch 56 = .ok (.getfield 7, 3) := bdX7_pitch_54.2.2.1
theorem dX7_pitch_59 : decode cX7_pitch 59 = .ok (.iload_n 2, 1) := bdX7_pitch_54.2.2.2.1
theorem dX7_pitch_60 : decode cX7_pitch 60 = .ok (.iconst 1, 1) := bdX7_pitch_54.2.2.2.2.1
theorem dX7_pitch_61 : decode cX7_pitch 61 = .ok (.iadd, 1) := bdX7_pitch_54.2.2.2.2.2.1
theorem dX7_pitch_62 : decode cX7_pitch 62 = .ok (.iconst 0, 1) := bdX7_pitch_54.2.2.2.2.2.2.1
theorem dX7_pitch_63 : decode cX7_pitch 63 = .ok (.iastore, 1) := bdX7_pitch_54.2.2.2.2.2.2.2.1
theorem dX7_pitch_64 : decode cX7_pitch 64 = .ok (.aload_n 0, 1) := bdX7_pitch_54.2.2.2.2.2.2.2.2.1
theorem dX7_pitch_65 : decode cX7_pitch 65 = .ok (.getfield 7, 3) := bdX7_pitch_54.2.2.2.2.2.2.2.2.2.1
theorem dX7_pitch_68 : decode cX7_pitch 68 = .ok (.iload_n 2, 1) := bdX7_pitch_54.2.2.2.2.2.2.2.2.2.2.1
theorem dX7_pitch_69 : decode cX7_pitch 69 = .ok (.iconst 2, 1) := bdX7_pitch_54.2.2.2.2.2.2.2.2.2.2.2.1
theorem dX7_pitch_70 : decode cX7_pitch 70 = .ok (.iadd, 1) := bdX7_pitch_54.2.2.2.2.2.2.2.2.2.2.2.2.1
theorem dX7_pitch_71 : decode cX7_pitch 71 = .ok (.iconst 0, 1) := bdX7_pitch_54.2.2.2.2.2.2.2.2.2.2.2.2.2.1
theorem dX7_pitch_72 : decode cX7_pitch 72 = .ok (.iastore, 1) := bdX7_pitch_54.2.2.2.2.2.2.2.2.2.2.2.2.2.2.1
theorem dX7_pitch_73 : decode cX7_pitch 73 = .ok (.aload_n 0, 1) := bdX7_pitch_54.2.2.2.2.2.2.2.2.2.2.2.2.2.2.2
theorem bdX7_pitch_74 : decode cX7_pitch 74 = .ok (.getfield 7, 3) ∧ decode cX7_pitch 77 = .ok (.iload_n 2, 1) ∧ decode cX7_pitch 78 = .ok (.iconst 3, 1) ∧ decode cX7_pitch 79 = .ok (.iadd, 1) ∧ decode cX7_pitch 80 = .ok (.bipush (-6), 2) ∧ decode cX7_pitch 82 = .ok (.iastore, 1) ∧ decode cX7_pitch 83 = .ok (.aload_n 0, 1) ∧ decode cX7_pitch 84 = .ok (.getfield 7, 3) ∧ decode cX7_pitch 87 = .ok (.bipush 12, 2) ∧ decode cX7_pitch 89 = .ok (.dup2, 1) ∧ decode cX7_pitch 90 = .ok (.iaload, 1) ∧ decode cX7_pitch 91 = .ok (.iconst 1, 1) ∧ decode cX7_pitch 92 = .ok (.iadd, 1) ∧ decode cX7_pitch 93 = .ok (.iastore, 1) ∧ decode cX7_pitch 94 = .ok (.aload_n 0, 1) ∧ decode cX7_pitch 95 = .ok (.getfield 7, 3) := by decide +kernel
theorem dX7_pitch_74 : decode cX7_pitch 74 = .ok (.getfield 7, 3) := bdX7_pitch_74.1
theorem dX7_pitch_77 : decode cX7_pitch 77 = .ok (.iload_n 2, 1) := bdX7_pitch_74.2.1
theorem dX7_pitch_78 : decode cX7_pitch 78 = .ok (.iconst 3, 1) := bdX7_pitch_74.2.2.1
theorem dX7_pitch_79 : decode cX7_pitch 79 = .ok (.iadd, 1) := bdX7_pitch_74.2.2.2.1
theorem dX7_pitch_80 : decode cX7_pitch 80 = .ok (.bipush (-6), 2) := bdX7_pitch_74.2.2.2.2.1
theorem dX7_pitch_82 : decode cX7_pitch 82 = .ok (.iastore, 1) := bdX7_pitch_74.2.2.2.2.2.1
theorem dX7_pitch_83 : decode cX7_pitch 83 = .ok (.aload_n 0, 1) := bdX7_pitch_74.2.2.2.2.2.2.1
theorem dX7_pitch_84 : decode cX7_pitch 84 = .ok (.getfield 7, 3) := bdX7_pitch_74.2.2.2.2.2.2.2.1
theorem dX7_pitch_87 : decode cX7_pitch 87 = .ok (.bipush 12, 2) := bdX7_pitch_74.2.2.2.2.2.2.2.2.1
theorem dX7_pitch_89 : decode cX7_pitch 89 = .ok (.dup2, 1) := bdX7_pitch_74.2.2.2.2.2.2.2.2.2.1
theorem dX7_pitch_90 : decode cX7_pitch 90 = .ok (.iaload, 1) := bdX7_pitch_74.2.2.2.2.2.2.2.2.2.2.1
theorem dX7_pitch_91 : decode cX7_pitch 91 = .ok (.iconst 1, 1) := bdX7_pitch_74.2.2.2.2.2.2.2.2.2.2.2.1
theorem dX7_pitch_92 : decode cX7_pitch 92 = .ok (.iadd, 1) := bdX7_pitch_74.2.2.2.2.2.2.2.2.2.2.2.2.1
theorem dX7_pitch_93 : decode cX7_pitch 93 = .ok (.iastore, 1) := bdX7_pitch_74.2.2.2.2.2.2.2.2.2.2.2.2.2.1
theorem dX7_pitch_94 : decode cX7_pitch 94 = .ok (.aload_n 0, 1) := bdX7_pitch_74.2.2.2.2.2.2.2.2.2.2.2.2.2.2.1
theorem dX7_pitch_95 : decode cX7_pitch 95 = .ok (.getfield 7, 3) := bdX7_pitch_74.2.2.2.2.2.2.2.2.2.2.2.2.2.2.2
theorem bdX7_pitch_98 : decode cX7_pitch 98 = .ok (.bipush 12, 2) ∧ decode cX7_pitch 100 = .ok (.iaload, 1) ∧ decode cX7_pitch 101 = .ok (.iconst 1, 1) ∧ decode cX7_pitch 102 = .ok (.isub, 1) ∧ decode cX7_pitch 103 = .ok (.ireturn, 1) := by decide +kernel
theorem dX7_pitch_98 : decode cX7_pitch 98 = .ok (.bipush 12, 2) := bdX7_pitch_98.1
theorem dX7_pitch_100 : decode cX7_pitch 100 = .ok (.iaload, 1) := bdX7_pitch_98.2.1
theorem dX7_pitch_101 : decode cX7_pitch 101 = .ok (.iconst 1, 1) := bdX7_pitch_98.2.2.1
theorem dX7_pitch_102 : decode cX7_pitch 102 = .ok (.isub, 1) := bdX7_pitch_98.2.2.2.1
theorem dX7_pitch_103 : decode cX7_pitch 103 = .ok (.ireturn, 1) := bdX7_pitch_98.2.2.2.2
theorem bdX7_rent_0 : decode cX7_rent 0 = .ok (.aload_n 0, 1) ∧ decode cX7_rent 1 = .ok (.iload_n 1, 1) ∧ decode cX7_rent 2 = .ok (.invokevirtual 54, 3) ∧ decode cX7_rent 5 = .ok (.ifCond .ne 5, 3) ∧ decode cX7_rent 8 = .ok (.iconst (-1), 1) ∧ decode cX7_rent 9 = .ok (.ireturn, 1) ∧ decode cX7_rent 10 = .ok (.iload_n 2, 1) ∧ decode cX7_rent 11 = .ok (.iconst 0, 1) ∧ decode cX7_rent 12 = .ok (.sipush 20000, 3) ∧ decode cX7_rent 15 = .ok (.invokestatic 35, 3) ∧ decode cX7_rent 18 = .ok (.ifCond .ne 6, 3) ∧ decode cX7_rent 21 = .ok (.bipush (-2), 2) ∧ decode cX7_rent 23 = .ok (.ireturn, 1) ∧ decode cX7_rent 24 = .ok (.aload_n 0, 1) ∧ decode cX7_rent 25 = .ok (.invokevirtual 43, 3) ∧ decode cX7_rent 28 = .ok (.aload_n 0, 1) := by decide +kernel
theorem dX7_rent_0 : decode cX7_rent 0 = .ok (.aload_n 0, 1) := bdX7_rent_0.1
theorem dX7_rent_1 : decode cX7_rent 1 = .ok (.iload_n 1, 1) := bdX7_rent_0.2.1
theorem dX7_rent_2 : decode cX7_rent 2 = .ok (.invokevirtual 54, 3) := bdX7_rent_0.2.2.1
theorem dX7_rent_5 : decode cX7_rent 5 = .ok (.ifCond .ne 5, 3) := bdX7_rent_0.2.2.2.1
theorem dX7_rent_8 : decode cX7_rent 8 = .ok (.iconst (-1), 1) := bdX7_rent_0.2.2.2.2.1
theorem dX7_rent_9 : decode cX7_rent 9 = .ok (.ireturn, 1) := bdX7_rent_0.2.2.2.2.2.1
theorem dX7_rent_10 : decode cX7_rent 10 = .ok (.iload_n 2, 1) := bdX7_rent_0.2.2.2.2.2.2.1
theorem dX7_rent_11 : decode cX7_rent 11 = .ok (.iconst 0, 1) := bdX7_rent_0.2.2.2.2.2.2.2.1
theorem dX7_rent_12 : decode cX7_rent 12 = .ok (.sipush 20000, 3) := bdX7_rent_0.2.2.2.2.2.2.2.2.1
theorem dX7_rent_15 : decode cX7_rent 15 = .ok (.invokestatic 35, 3) := bdX7_rent_0.2.2.2.2.2.2.2.2.2.1
theorem dX7_rent_18 : decode cX7_rent 18 = .ok (.ifCond .ne 6, 3) := bdX7_rent_0.2.2.2.2.2.2.2.2.2.2.1
theorem dX7_rent_21 : decode cX7_rent 21 = .ok (.bipush (-2), 2) := bdX7_rent_0.2.2.2.2.2.2.2.2.2.2.2.1
theorem dX7_rent_23 : decode cX7_rent 23 = .ok (.ireturn, 1) := bdX7_rent_0.2.2.2.2.2.2.2.2.2.2.2.2.1
theorem dX7_rent_24 : decode cX7_rent 24 = .ok (.aload_n 0, 1) := bdX7_rent_0.2.2.2.2.2.2.2.2.2.2.2.2.2.1
theorem dX7_rent_25 : decode cX7_rent 25 = .ok (.invokevirtual 43, 3) := bdX7_rent_0.2.2.2.2.2.2.2.2.2.2.2.2.2.2.1
theorem dX7_rent_28 : decode cX7_rent 28 = .ok (.aload_n 0, 1) := bdX7_rent_0.2.2.2.2.2.2.2.2.2.2.2.2.2.2.2
theorem bdX7_rent_29 : decode cX7_rent 29 = .ok (.iload_n 1, 1) ∧ decode cX7_rent 30 = .ok (.iconst 0, 1) ∧ decode cX7_rent 31 = .ok (.invokevirtual 58, 3) ∧ decode cX7_rent 34 = .ok (.istore_n 3, 1) ∧ decode cX7_rent 35 = .ok (.aload_n 0, 1) ∧ decode cX7_rent 36 = .ok (.getfield 7, 3) ∧ decode cX7_rent 39 = .ok (.bipush 32, 2) ∧ decode cX7_rent 41 = .ok (.iconst 4, 1) ∧ decode cX7_rent 42 = .ok (.iload_n 1, 1) ∧ decode cX7_rent 43 = .ok (.imul, 1) ∧ decode cX7_rent 44 = .ok (.iadd, 1) ∧ decode cX7_rent 45 = .ok (.iconst 0, 1) ∧ decode cX7_rent 46 = .ok (.iadd, 1) ∧ decode cX7_rent 47 = .ok (.iload_n 2, 1) ∧ decode cX7_rent 48 = .ok (.iastore, 1) ∧ decode cX7_rent 49 = .ok (.iload_n 3, 1) := by decide +kernel
theorem dX7_rent_29 : decode cX7_rent 29 = .ok (.iload_n 1, 1) := bdX7_rent_29.1
theorem dX7_rent_30 : decode cX7_rent 30 = .ok (.iconst 0, 1) := bdX7_rent_29.2.1
theorem dX7_rent_31 : decode cX7_rent 31 = .ok (.invokevirtual 58, 3) := bdX7_rent_29.2.2.1
theorem dX7_rent_34 : decode cX7_rent 34 = .ok (.istore_n 3, 1) := bdX7_rent_29.2.2.2.1
theorem dX7_rent_35 : decode cX7_rent 35 = .ok (.aload_n 0, 1) := bdX7_rent_29.2.2.2.2.1
theorem dX7_rent_36 : decode cX7_rent 36 = .ok (.getfield 7, 3) := bdX7_rent_29.2.2.2.2.2.1
theorem dX7_rent_39 : decode cX7_rent 39 = .ok (.bipush 32, 2) := bdX7_rent_29.2.2.2.2.2.2.1
theorem dX7_rent_41 : decode cX7_rent 41 = .ok (.iconst 4, 1) := bdX7_rent_29.2.2.2.2.2.2.2.1
theorem dX7_rent_42 : decode cX7_rent 42 = .ok (.iload_n 1, 1) := bdX7_rent_29.2.2.2.2.2.2.2.2.1
theorem dX7_rent_43 : decode cX7_rent 43 = .ok (.imul, 1) := bdX7_rent_29.2.2.2.2.2.2.2.2.2.1
theorem dX7_rent_44 : decode cX7_rent 44 = .ok (.iadd, 1) := bdX7_rent_29.2.2.2.2.2.2.2.2.2.2.1
theorem dX7_rent_45 : decode cX7_rent 45 = .ok (.iconst 0, 1) := bdX7_rent_29.2.2.2.2.2.2.2.2.2.2.2.1
theorem dX7_rent_46 : decode cX7_rent 46 = .ok (.iadd, 1) := bdX7_rent_29.2.2.2.2.2.2.2.2.2.2.2.2.1
theorem dX7_rent_47 : decode cX7_rent 47 = .ok (.iload_n 2, 1) := bdX7_rent_29.2.2.2.2.2.2.2.2.2.2.2.2.2.1
theorem dX7_rent_48 : decode cX7_rent 48 = .ok (.iastore, 1) := bdX7_rent_29.2.2.2.2.2.2.2.2.2.2.2.2.2.2.1
theorem dX7_rent_49 : decode cX7_rent 49 = .ok (.iload_n 3, 1) := bdX7_rent_29.2.2.2.2.2.2.2.2.2.2.2.2.2.2.2
theorem dX7_rent_50 : decode cX7_rent 50 = .ok (.ireturn, 1) := by decide +kernel
theorem bdX7_cart_0 : decode cX7_cart 0 = .ok (.iload_n 1, 1) ∧ decode cX7_cart 1 = .ok (.iconst 0, 1) ∧ decode cX7_cart 2 = .ok (.iconst 5, 1) ∧ decode cX7_cart 3 = .ok (.invokestatic 35, 3) ∧ decode cX7_cart 6 = .ok (.ifCond .eq 13, 3) ∧ decode cX7_cart 9 = .ok (.iload_n 2, 1) ∧ decode cX7_cart 10 = .ok (.iconst 1, 1) ∧ decode cX7_cart 11 = .ok (.bipush 6, 2) ∧ decode cX7_cart 13 = .ok (.invokestatic 35, 3) ∧ decode cX7_cart 16 = .ok (.ifCond .ne 6, 3) ∧ decode cX7_cart 19 = .ok (.bipush (-2), 2) ∧ decode cX7_cart 21 = .ok (.ireturn, 1) ∧ decode cX7_cart 22 = .ok (.aload_n 0, 1) ∧ decode cX7_cart 23 = .ok (.getfield 7, 3) ∧ decode cX7_cart 26 = .ok (.bipush 13, 2) ∧ decode cX7_cart 28 = .ok (.iaload, 1) := by decide +kernel
theorem dX7_cart_0 : decode cX7_cart 0 = .ok (.iload_n 1, 1) := bdX7_cart_0.1
theorem dX7_cart_1 : decode cX7_cart 1 = .ok (.iconst 0, 1) := bdX7_cart_0.2.1
theorem dX7_cart_2 : decode cX7_cart 2 = .ok (.iconst 5, 1) := bdX7_cart_0.2.2.1
theorem dX7_cart_3 : decode cX7_cart 3 = .ok (.invokestatic 35, 3) := bdX7_cart_0.2.2.2.1
theorem dX7_cart_6 : decode cX7_cart 6 = .ok (.ifCond .eq 13, 3) := bdX7_cart_0.2.2.2.2.1
theorem dX7_cart_9 : decode cX7_cart 9 = .ok (.iload_n 2, 1) := bdX7_cart_0.2.2.2.2.2.1
theorem dX7_cart_10 : decode cX7_cart 10 = .ok (.iconst 1, 1) := bdX7_cart_0.2.2.2.2.2.2.1
theorem dX7_cart_11 : decode cX7_cart 11 = .ok (.bipush 6, 2) := bdX7_cart_0.2.2.2.2.2.2.2.1
theorem dX7_cart_13 : decode cX7_cart 13 = .ok (.invokestatic 35, 3) := bdX7_cart_0.2.2.2.2.2.2.2.2.1
theorem dX7_cart_16 : decode cX7_cart 16 = .ok (.ifCond .ne 6, 3) := bdX7_cart_0.2.2.2.2.2.2.2.2.2.1
theorem dX7_cart_19 : decode cX7_cart 19 = .ok (.bipush (-2), 2) := bdX7_cart_0.2.2.2.2.2.2.2.2.2.2.1
theorem dX7_cart_21 : decode cX7_cart 21 = .ok (.ireturn, 1) := bdX7_cart_0.2.2.2.2.2.2.2.2.2.2.2.1
theorem dX7_cart_22 : decode cX7_cart 22 = .ok (.aload_n 0, 1) := bdX7_cart_0.2.2.2.2.2.2.2.2.2.2.2.2.1
theorem dX7_cart_23 : decode cX7_cart 23 = .ok (.getfield 7, 3) := bdX7_cart_0.2.2.2.2.2.2.2.2.2.2.2.2.2.1
theorem dX7_cart_26 : decode cX7_cart 26 = .ok (.bipush 13, 2) := bdX7_cart_0.2.2.2.2.2.2.2.2.2.2.2.2.2.2.1
theorem dX7_cart_28 : decode cX7_cart 28 = .ok (.iaload, 1) := bdX7_cart_0.2.2.2.2.2.2.2.2.2.2.2.2.2.2.2
theorem bdX7_cart_29 : decode cX7_cart 29 = .ok (.bipush 16, 2) ∧ decode cX7_cart 31 = .ok (.if_icmp .ne 6, 3) ∧ decode cX7_cart 34 = .ok (.bipush (-4), 2) ∧ decode cX7_cart 36 = .ok (.ireturn, 1) ∧ decode cX7_cart 37 = .ok (.aload_n 0, 1) ∧ decode cX7_cart 38 = .ok (.invokevirtual 43, 3) ∧ decode cX7_cart 41 = .ok (.aload_n 0, 1) ∧ decode cX7_cart 42 = .ok (.getfield 7, 3) ∧ decode cX7_cart 45 = .ok (.bipush 13, 2) ∧ decode cX7_cart 47 = .ok (.iaload, 1) ∧ decode cX7_cart 48 = .ok (.istore_n 3, 1) ∧ decode cX7_cart 49 = .ok (.iconst 0, 1) ∧ decode cX7_cart 50 = .ok (.istore 4, 2) ∧ decode cX7_cart 52 = .ok (.iload 4, 2) ∧ decode cX7_cart 54 = .ok (.bipush 20, 2) ∧ decode cX7_cart 56 = .ok (.if_icmp .ge 17, 3) := by decide +kernel
theorem dX7_cart_29 : decode cX7_cart 29 = .ok (.bipush 16, 2) := bdX7_cart_29.1
theorem dX7_cart_31 : decode cX7_cart 31 = .ok (.if_icmp .ne 6, 3) := bdX7_cart_29.2.1
theorem dX7_cart_34 : decode cX7_cart 34 = .ok (.bipush (-4), 2) := bdX7_cart_29.2.2.1
theorem dX7_cart_36 : decode cX7_cart 36 = .ok (.ireturn, 1) := bdX7_cart_29.2.2.2.1
theorem dX7_cart_37 : decode cX7_cart 37 = .ok (.aload_n 0, 1) := bdX7_cart_29.2.2.2.2.1
theorem dX7_cart_38 : decode cX7_cart 38 = .ok (.invokevirtual 43, 3) := bdX7_cart_29.2.2.2.2.2.1
theorem dX7_cart_41 : decode cX7_cart 41 = .ok (.aload_n 0, 1) := bdX7_cart_29.2.2.2.2.2.2.1
theorem dX7_cart_42 : decode cX7_cart 42 = .ok (.getfield 7, 3) := bdX7_cart_29.2.2.2.2.2.2.2.1
theorem dX7_cart_45 : decode cX7_cart 45 = .ok (.bipush 13, 2) := bdX7_cart_29.2.2.2.2.2.2.2.2.1
theorem dX7_cart_47 : decode cX7_cart 47 = .ok (.iaload, 1) := bdX7_cart_29.2.2.2.2.2.2.2.2.2.1
theorem dX7_cart_48 : decode cX7_cart 48 = .ok (.istore_n 3, 1) := bdX7_cart_29.2.2.2.2.2.2.2.2.2.2.1
theorem dX7_cart_49 : decode cX7_cart 49 = .ok (.iconst 0, 1) := bdX7_cart_29.2.2.2.2.2.2.2.2.2.2.2.1
theorem dX7_cart_50 : decode cX7_cart 50 = .ok (.istore 4, 2) := bdX7_cart_29.2.2.2.2.2.2.2.2.2.2.2.2.1
theorem dX7_cart_52 : decode cX7_cart 52 = .ok (.iload 4, 2) := bdX7_cart_29.2.2.2.2.2.2.2.2.2.2.2.2.2.1
theorem dX7_cart_54 : decode cX7_cart 54 = .ok (.bipush 20, 2) := bdX7_cart_29.2.2.2.2.2.2.2.2.2.2.2.2.2.2.1
theorem dX7_cart_56 : decode cX7_cart 56 = .ok (.if_icmp .ge 17, 3) := bdX7_cart_29.2.2.2.2.2.2.2.2.2.2.2.2.2.2.2
theorem bdX7_cart_59 : decode cX7_cart 59 = .ok (.aload_n 0, 1) ∧ decode cX7_cart 60 = .ok (.iload_n 3, 1) ∧ decode cX7_cart 61 = .ok (.iload 4, 2) ∧ decode cX7_cart 63 = .ok (.iconst 0, 1) ∧ decode cX7_cart 64 = .ok (.invokevirtual 62, 3) ∧ decode cX7_cart 67 = .ok (.iinc 4 1, 3) ∧ decode cX7_cart 70 = .ok (.goto (-18), 3) ∧ decode cX7_cart 73 = .ok (.iconst 0, 1) ∧ decode cX7_cart 74 = .ok (.istore 4, 2) ∧ decode cX7_cart 76 = .ok (.iload 4, 2) ∧ decode cX7_cart 78 = .ok (.sipush 200, 3) ∧ decode cX7_cart 81 = .ok (.if_icmp .ge 27, 3) ∧ decode cX7_cart 84 = .ok (.aload_n 0, 1) ∧ decode cX7_cart 85 = .ok (.getfield 7, 3) ∧ decode cX7_cart 88 = .ok (.sipush 392, 3) ∧ decode cX7_cart 91 = .ok (.sipush 200, 3) := by decide +kernel
theorem dX7_cart_59 : decode cX7_cart 59 = .ok (.aload_n 0, 1) := bdX7_cart_59.1
theorem dX7_cart_60 : decode cX7_cart 60 = .ok (.iload_n 3, 1) := bdX7_cart_59.2.1
theorem dX7_cart_61 : decode cX7_cart 61 = .ok (.iload 4, 2) := bdX7_cart_59.2.2.1
theorem dX7_cart_63 : decode cX7_cart 63 = .ok (.iconst 0, 1) := bdX7_cart_59.2.2.2.1
theorem dX7_cart_64 : decode cX7_cart 64 = .ok (.invokevirtual 62, 3) := bdX7_cart_59.2.2.2.2.1
theorem dX7_cart_67 : decode cX7_cart 67 = .ok (.iinc 4 1, 3) := bdX7_cart_59.2.2.2.2.2.1
theorem dX7_cart_70 : decode cX7_cart 70 = .ok (.goto (-18), 3) := bdX7_cart_59.2.2.2.2.2.2.1
theorem dX7_cart_73 : decode cX7_cart 73 = .ok (.iconst 0, 1) := bdX7_cart_59.2.2.2.2.2.2.2.1
theorem dX7_cart_74 : decode cX7_cart 74 = .ok (.istore 4, 2) := bdX7_cart_59.2.2.2.2.2.2.2.2.1
theorem dX7_cart_76 : decode cX7_cart 76 = .ok (.iload 4, 2) := bdX7_cart_59.2.2.2.2.2.2.2.2.2.1
theorem dX7_cart_78 : decode cX7_cart 78 = .ok (.sipush 200, 3) := bdX7_cart_59.2.2.2.2.2.2.2.2.2.2.1
theorem dX7_cart_81 : decode cX7_cart 81 = .ok (.if_icmp .ge 27, 3) := bdX7_cart_59.2.2.2.2.2.2.2.2.2.2.2.1
theorem dX7_cart_84 : decode cX7_cart 84 = .ok (.aload_n 0, 1) := bdX7_cart_59.2.2.2.2.2.2.2.2.2.2.2.2.1
theorem dX7_cart_85 : decode cX7_cart 85 = .ok (.getfield 7, 3) := bdX7_cart_59.2.2.2.2.2.2.2.2.2.2.2.2.2.1
theorem dX7_cart_88 : decode cX7_cart 88 = .ok (.sipush 392, 3) := bdX7_cart_59.2.2.2.2.2.2.2.2.2.2.2.2.2.2.1
theorem dX7_cart_91 : decode cX7_cart 91 = .ok (.sipush 200, 3) := bdX7_cart_59.2.2.2.2.2.2.2.2.2.2.2.2.2.2.2
theorem bdX7_cart_94 : decode cX7_cart 94 = .ok (.iload_n 3, 1) ∧ decode cX7_cart 95 = .ok (.imul, 1) ∧ decode cX7_cart 96 = .ok (.iadd, 1) ∧ decode cX7_cart 97 = .ok (.iload 4, 2) ∧ decode cX7_cart 99 = .ok (.iadd, 1) ∧ decode cX7_cart 100 = .ok (.iconst 0, 1) ∧ decode cX7_cart 101 = .ok (.iastore, 1) ∧ decode cX7_cart 102 = .ok (.iinc 4 1, 3) ∧ decode cX7_cart 105 = .ok (.goto (-29), 3) ∧ decode cX7_cart 108 = .ok (.aload_n 0, 1) ∧ decode cX7_cart 109 = .ok (.iload_n 3, 1) ∧ decode cX7_cart 110 = .ok (.iconst 0, 1) ∧ decode cX7_cart 111 = .ok (.iload_n 1, 1) ∧ decode cX7_cart 112 = .ok (.invokevirtual 62, 3) ∧ decode cX7_cart 115 = .ok (.aload_n 0, 1) ∧ decode cX7_cart 116 = .ok (.iload_n 3, 1) := by decide +kernel
theorem dX7_cart_94 : decode cX7_cart 94 = .ok (.iload_n 3, 1) := bdX7_cart_94.1
theorem dX7_cart_95 : decode cX7_cart 95 = .ok (.imul, 1) := bdX7_cart_94.2.1
theorem dX7_cart_96 : decode cX7_cart 96 = .ok (.iadd, 1) := bdX7_cart_94.2.2.1
theorem dX7_cart_97 : decode cX7_cart 97 = .ok (.iload 4, 2) := bdX7_cart_94.2.2.2.1
theorem dX7_cart_99 : decode cX7_cart 99 = .ok (.iadd, 1) := bdX7_cart_94.2.2.2.2.1
theorem dX7_cart_100 : decode cX7_cart 100 = .ok (.iconst 0, 1) := bdX7_cart_94.2.2.2.2.2.1
theorem dX7_cart_101 : decode cX7_cart 101 = .ok (.iastore, 1) := bdX7_cart_94.2.2.2.2.2.2.1
theorem dX7_cart_102 : decode cX7_cart 102 = .ok (.iinc 4 1, 3) := bdX7_cart_94.2.2.2.2.2.2.2.1
theorem dX7_cart_105 : decode cX7_cart 105 = .ok (.goto (-29), 3) := bdX7_cart_94.2.2.2.2.2.2.2.2.1
theorem dX7_cart_108 : decode cX7_cart 108 = .ok (.aload_n 0, 1) := bdX7_cart_94.2.2.2.2.2.2.2.2.2.1
theorem dX7_cart_109 : decode cX7_cart 109 = .ok (.iload_n 3, 1) := bdX7_cart_94.2.2.2.2.2.2.2.2.2.2.1
theorem dX7_cart_110 : decode cX7_cart 110 = .ok (.iconst 0, 1) := bdX7_cart_94.2.2.2.2.2.2.2.2.2.2.2.1
theorem dX7_cart_111 : decode cX7_cart 111 = .ok (.iload_n 1, 1) := bdX7_cart_94.2.2.2.2.2.2.2.2.2.2.2.2.1
theorem dX7_cart_112 : decode cX7_cart 112 = .ok (.invokevirtual 62, 3) := bdX7_cart_94.2.2.2.2.2.2.2.2.2.2.2.2.2.1
theorem dX7_cart_115 : decode cX7_cart 115 = .ok (.aload_n 0, 1) := bdX7_cart_94.2.2.2.2.2.2.2.2.2.2.2.2.2.2.1
theorem dX7_cart_116 : decode cX7_cart 116 = .ok (.iload_n 3, 1) := bdX7_cart_94.2.2.2.2.2.2.2.2.2.2.2.2.2.2.2
theorem bdX7_cart_117 : decode cX7_cart 117 = .ok (.iconst 1, 1) ∧ decode cX7_cart 118 = .ok (.iload_n 2, 1) ∧ decode cX7_cart 119 = .ok (.invokevirtual 62, 3) ∧ decode cX7_cart 122 = .ok (.aload_n 0, 1) ∧ decode cX7_cart 123 = .ok (.iload_n 3, 1) ∧ decode cX7_cart 124 = .ok (.bipush 7, 2) ∧ decode cX7_cart 126 = .ok (.aload_n 0, 1) ∧ decode cX7_cart 127 = .ok (.getfield 7, 3) ∧ decode cX7_cart 130 = .ok (.bipush 10, 2) ∧ decode cX7_cart 132 = .ok (.iaload, 1) ∧ decode cX7_cart 133 = .ok (.aload_n 0, 1) ∧ decode cX7_cart 134 = .ok (.getfield 7, 3) ∧ decode cX7_cart 137 = .ok (.iconst 1, 1) ∧ decode cX7_cart 138 = .ok (.iaload, 1) ∧ decode cX7_cart 139 = .ok (.iadd, 1) ∧ decode cX7_cart 140 = .ok (.invokevirtual 62, 3) := by decide +kernel
theorem dX7_cart_117 : decode cX7_cart 117 = .ok (.iconst 1, 1) := bdX7_cart_117.1
theorem dX7_cart_118 : decode cX7_cart 118 = .ok (.iload_n 2, 1) := bdX7_cart_117.2.1
theorem dX7_cart_119 : decode cX7_cart 119 = .ok (.invokevirtual 62, 3) := bdX7_cart_117.2.2.1
theorem dX7_cart_122 : decode cX7_cart 122 = .ok (.aload_n 0, 1) := bdX7_cart_117.2.2.2.1
theorem dX7_cart_123 : decode cX7_cart 123 = .ok (.iload_n 3, 1) := bdX7_cart_117.2.2.2.2.1
theorem dX7_cart_124 : decode cX7_cart 124 = .ok (.bipush 7, 2) := bdX7_cart_117.2.2.2.2.2.1
theorem dX7_cart_126 : decode cX7_cart 126 = .ok (.aload_n 0, 1) := bdX7_cart_117.2.2.2.2.2.2.1
theorem dX7_cart_127 : decode cX7_cart 127 = .ok (.getfield 7, 3) := bdX7_cart_117.2.2.2.2.2.2.2.1
theorem dX7_cart_130 : decode cX7_cart 130 = .ok (.bipush 10, 2) := bdX7_cart_117.2.2.2.2.2.2.2.2.1
theorem dX7_cart_132 : decode cX7_cart 132 = .ok (.iaload, 1) := bdX7_cart_117.2.2.2.2.2.2.2.2.2.1
theorem dX7_cart_133 : decode cX7_cart 133 = .ok (.aload_n 0, 1) := bdX7_cart_117.2.2.2.2.2.2.2.2.2.2.1
theorem dX7_cart_134 : decode cX7_cart 134 = .ok (.getfield 7, 3) := bdX7_cart_117.2.2.2.2.2.2.2.2.2.2.2.1
theorem dX7_cart_137 : decode cX7_cart 137 = .ok (.iconst 1, 1) := bdX7_cart_117.2.2.2.2.2.2.2.2.2.2.2.2.1
theorem dX7_cart_138 : decode cX7_cart 138 = .ok (.iaload, 1) := bdX7_cart_117.2.2.2.2.2.2.2.2.2.2.2.2.2.1
theorem dX7_cart_139 : decode cX7_cart 139 = .ok (.iadd, 1) := bdX7_cart_117.2.2.2.2.2.2.2.2.2.2.2.2.2.2.1
theorem dX7_cart_140 : decode cX7_cart 140 = .ok (.invokevirtual 62, 3) := bdX7_cart_117.2.2.2.2.2.2.2.2.2.2.2.2.2.2.2
theorem bdX7_cart_143 : decode cX7_cart 143 = .ok (.aload_n 0, 1) ∧ decode cX7_cart 144 = .ok (.iload_n 3, 1) ∧ decode cX7_cart 145 = .ok (.bipush 9, 2) ∧ decode cX7_cart 147 = .ok (.bipush (-6), 2) ∧ decode cX7_cart 149 = .ok (.invokevirtual 62, 3) ∧ decode cX7_cart 152 = .ok (.aload_n 0, 1) ∧ decode cX7_cart 153 = .ok (.iload_n 3, 1) ∧ decode cX7_cart 154 = .ok (.bipush 11, 2) ∧ decode cX7_cart 156 = .ok (.bipush (-6), 2) ∧ decode cX7_cart 158 = .ok (.invokevirtual 62, 3) ∧ decode cX7_cart 161 = .ok (.aload_n 0, 1) ∧ decode cX7_cart 162 = .ok (.iload_n 3, 1) ∧ decode cX7_cart 163 = .ok (.bipush 12, 2) ∧ decode cX7_cart 165 = .ok (.bipush (-6), 2) ∧ decode cX7_cart 167 = .ok (.invokevirtual 62, 3) ∧ decode cX7_cart 170 = .ok (.aload_n 0, 1) := by decide +kernel
theorem dX7_cart_143 : decode cX7_cart 143 = .ok (.aload_n 0, 1) := bdX7_cart_143.1
theorem dX7_cart_144 : decode cX7_cart 144 = .ok (.iload_n 3, 1) := bdX7_cart_143.2.1
theorem dX7_cart_145 : decode cX7_cart 145 = .ok (.bipush 9, 2) := bdX7_cart_143.2.2.1
theorem dX7_cart_147 : decode cX7_cart 147 = .ok (.bipush (-6), 2) := bdX7_cart_143.2.2.2.1
theorem dX7_cart_149 : decode cX7_cart 149 = .ok (.invokevirtual 62, 3) := bdX7_cart_143.2.2.2.2.1
theorem dX7_cart_152 : decode cX7_cart 152 = .ok (.aload_n 0, 1) := bdX7_cart_143.2.2.2.2.2.1
theorem dX7_cart_153 : decode cX7_cart 153 = .ok (.iload_n 3, 1) := bdX7_cart_143.2.2.2.2.2.2.1
theorem dX7_cart_154 : decode cX7_cart 154 = .ok (.bipush 11, 2) := bdX7_cart_143.2.2.2.2.2.2.2.1
theorem dX7_cart_156 : decode cX7_cart 156 = .ok (.bipush (-6), 2) := bdX7_cart_143.2.2.2.2.2.2.2.2.1
theorem dX7_cart_158 : decode cX7_cart 158 = .ok (.invokevirtual 62, 3) := bdX7_cart_143.2.2.2.2.2.2.2.2.2.1
theorem dX7_cart_161 : decode cX7_cart 161 = .ok (.aload_n 0, 1) := bdX7_cart_143.2.2.2.2.2.2.2.2.2.2.1
theorem dX7_cart_162 : decode cX7_cart 162 = .ok (.iload_n 3, 1) := bdX7_cart_143.2.2.2.2.2.2.2.2.2.2.2.1
theorem dX7_cart_163 : decode cX7_cart 163 = .ok (.bipush 12, 2) := bdX7_cart_143.2.2.2.2.2.2.2.2.2.2.2.2.1
theorem dX7_cart_165 : decode cX7_cart 165 = .ok (.bipush (-6), 2) := bdX7_cart_143.2.2.2.2.2.2.2.2.2.2.2.2.2.1
theorem dX7_cart_167 : decode cX7_cart 167 = .ok (.invokevirtual 62, 3) := bdX7_cart_143.2.2.2.2.2.2.2.2.2.2.2.2.2.2.1
theorem dX7_cart_170 : decode cX7_cart 170 = .ok (.aload_n 0, 1) := bdX7_cart_143.2.2.2.2.2.2.2.2.2.2.2.2.2.2.2
theorem bdX7_cart_171 : decode cX7_cart 171 = .ok (.iload_n 3, 1) ∧ decode cX7_cart 172 = .ok (.bipush 14, 2) ∧ decode cX7_cart 174 = .ok (.bipush (-6), 2) ∧ decode cX7_cart 176 = .ok (.invokevirtual 62, 3) ∧ decode cX7_cart 179 = .ok (.aload_n 0, 1) ∧ decode cX7_cart 180 = .ok (.getfield 7, 3) ∧ decode cX7_cart 183 = .ok (.bipush 13, 2) ∧ decode cX7_cart 185 = .ok (.dup2, 1) ∧ decode cX7_cart 186 = .ok (.iaload, 1) ∧ decode cX7_cart 187 = .ok (.iconst 1, 1) ∧ decode cX7_cart 188 = .ok (.iadd, 1) ∧ decode cX7_cart 189 = .ok (.iastore, 1) ∧ decode cX7_cart 190 = .ok (.iload_n 3, 1) ∧ decode cX7_cart 191 = .ok (.ireturn, 1) := by decide +kernel
theorem dX7_cart_171 : decode cX7_cart 171 = .ok (.iload_n 3, 1) := bdX7_cart_171.1
theorem dX7_cart_172 : decode cX7_cart 172 = .ok (.bipush 14, 2) := bdX7_cart_171.2.1
theorem dX7_cart_174 : decode cX7_cart 174 = .ok (.bipush (-6), 2) := bdX7_cart_171.2.2.1
theorem dX7_cart_176 : decode cX7_cart 176 = .ok (.invokevirtual 62, 3) := bdX7_cart_171.2.2.2.1
theorem dX7_cart_179 : decode cX7_cart 179 = .ok (.aload_n 0, 1) := bdX7_cart_171.2.2.2.2.1
theorem dX7_cart_180 : decode cX7_cart 180 = .ok (.getfield 7, 3) := bdX7_cart_171.2.2.2.2.2.1
theorem dX7_cart_183 : decode cX7_cart 183 = .ok (.bipush 13, 2) := bdX7_cart_171.2.2.2.2.2.2.1
theorem dX7_cart_185 : decode cX7_cart 185 = .ok (.dup2, 1) := bdX7_cart_171.2.2.2.2.2.2.2.1
theorem dX7_cart_186 : decode cX7_cart 186 = .ok (.iaload, 1) := bdX7_cart_171.2.2.2.2.2.2.2.2.1
theorem dX7_cart_187 : decode cX7_cart 187 = .ok (.iconst 1, 1) := bdX7_cart_171.2.2.2.2.2.2.2.2.2.1
theorem dX7_cart_188 : decode cX7_cart 188 = .ok (.iadd, 1) := bdX7_cart_171.2.2.2.2.2.2.2.2.2.2.1
theorem dX7_cart_189 : decode cX7_cart 189 = .ok (.iastore, 1) := bdX7_cart_171.2.2.2.2.2.2.2.2.2.2.2.1
theorem dX7_cart_190 : decode cX7_cart 190 = .ok (.iload_n 3, 1) := bdX7_cart_171.2.2.2.2.2.2.2.2.2.2.2.2.1
theorem dX7_cart_191 : decode cX7_cart 191 = .ok (.ireturn, 1) := bdX7_cart_171.2.2.2.2.2.2.2.2.2.2.2.2.2
theorem bdX7_pointsAt_0 : decode cX7_pointsAt 0 = .ok (.iconst 0, 1) ∧ decode cX7_pointsAt 1 = .ok (.istore_n 3, 1) ∧ decode cX7_pointsAt 2 = .ok (.iload_n 2, 1) ∧ decode cX7_pointsAt 3 = .ok (.aload_n 0, 1) ∧ decode cX7_pointsAt 4 = .ok (.getfield 7, 3) ∧ decode cX7_pointsAt 7 = .ok (.iconst 5, 1) ∧ decode cX7_pointsAt 8 = .ok (.iaload, 1) ∧ decode cX7_pointsAt 9 = .ok (.isub, 1) ∧ decode cX7_pointsAt 10 = .ok (.iconst 1, 1) ∧ decode cX7_pointsAt 11 = .ok (.iadd, 1) ∧ decode cX7_pointsAt 12 = .ok (.istore 4, 2) ∧ decode cX7_pointsAt 14 = .ok (.aload_n 0, 1) ∧ decode cX7_pointsAt 15 = .ok (.getfield 7, 3) ∧ decode cX7_pointsAt 18 = .ok (.bipush 10, 2) ∧ decode cX7_pointsAt 20 = .ok (.iaload, 1) ∧ decode cX7_pointsAt 21 = .ok (.sipush 200, 3) := by decide +kernel
theorem dX7_pointsAt_0 : decode cX7_pointsAt 0 = .ok (.iconst 0, 1) := bdX7_pointsAt_0.1
theorem dX7_pointsAt_1 : decode cX7_pointsAt 1 = .ok (.istore_n 3, 1) := bdX7_pointsAt_0.2.1
theorem dX7_pointsAt_2 : decode cX7_pointsAt 2 = .ok (.iload_n 2, 1) := bdX7_pointsAt_0.2.2.1
theorem dX7_pointsAt_3 : decode cX7_pointsAt 3 = .ok (.aload_n 0, 1) := bdX7_pointsAt_0.2.2.2.1
theorem dX7_pointsAt_4 : decode cX7_pointsAt 4 = .ok (.getfield 7, 3) := bdX7_pointsAt_0.2.2.2.2.1
theorem dX7_pointsAt_7 : decode cX7_pointsAt 7 = .ok (.iconst 5, 1) := bdX7_pointsAt_0.2.2.2.2.2.1
theorem dX7_pointsAt_8 : decode cX7_pointsAt 8 = .ok (.iaload, 1) := bdX7_pointsAt_0.2.2.2.2.2.2.1
theorem dX7_pointsAt_9 : decode cX7_pointsAt 9 = .ok (.isub, 1) := bdX7_pointsAt_0.2.2.2.2.2.2.2.1
theorem dX7_pointsAt_10 : decode cX7_pointsAt 10 = .ok (.iconst 1, 1) := bdX7_pointsAt_0.2.2.2.2.2.2.2.2.1
theorem dX7_pointsAt_11 : decode cX7_pointsAt 11 = .ok (.iadd, 1) := bdX7_pointsAt_0.2.2.2.2.2.2.2.2.2.1
theorem dX7_pointsAt_12 : decode cX7_pointsAt 12 = .ok (.istore 4, 2) := bdX7_pointsAt_0.2.2.2.2.2.2.2.2.2.2.1
theorem dX7_pointsAt_14 : decode cX7_pointsAt 14 = .ok (.aload_n 0, 1) := bdX7_pointsAt_0.2.2.2.2.2.2.2.2.2.2.2.1
theorem dX7_pointsAt_15 : decode cX7_pointsAt 15 = .ok (.getfield 7, 3) := bdX7_pointsAt_0.2.2.2.2.2.2.2.2.2.2.2.2.1
theorem dX7_pointsAt_18 : decode cX7_pointsAt 18 = .ok (.bipush 10, 2) := bdX7_pointsAt_0.2.2.2.2.2.2.2.2.2.2.2.2.2.1
theorem dX7_pointsAt_20 : decode cX7_pointsAt 20 = .ok (.iaload, 1) := bdX7_pointsAt_0.2.2.2.2.2.2.2.2.2.2.2.2.2.2.1
theorem dX7_pointsAt_21 : decode cX7_pointsAt 21 = .ok (.sipush 200, 3) := bdX7_pointsAt_0.2.2.2.2.2.2.2.2.2.2.2.2.2.2.2
theorem bdX7_pointsAt_24 : decode cX7_pointsAt 24 = .ok (.isub, 1) ∧ decode cX7_pointsAt 25 = .ok (.iconst 1, 1) ∧ decode cX7_pointsAt 26 = .ok (.iadd, 1) ∧ decode cX7_pointsAt 27 = .ok (.istore 5, 2) ∧ decode cX7_pointsAt 29 = .ok (.iload 5, 2) ∧ decode cX7_pointsAt 31 = .ok (.iload 4, 2) ∧ decode cX7_pointsAt 33 = .ok (.if_icmp .ge 8, 3) ∧ decode cX7_pointsAt 36 = .ok (.iload 4, 2) ∧ decode cX7_pointsAt 38 = .ok (.goto 5, 3) ∧ decode cX7_pointsAt 41 = .ok (.iload 5, 2) ∧ decode cX7_pointsAt 43 = .ok (.istore 5, 2) ∧ decode cX7_pointsAt 45 = .ok (.iload 5, 2) ∧ decode cX7_pointsAt 47 = .ok (.ifCond .ge 7, 3) ∧ decode cX7_pointsAt 50 = .ok (.iconst 0, 1) ∧ decode cX7_pointsAt 51 = .ok (.goto 5, 3) ∧ decode cX7_pointsAt 54 = .ok (.iload 5, 2) := by decide +kernel
theorem dX7_pointsAt_24 : decode cX7_pointsAt 24 = .ok (.isub, 1) := bdX7_pointsAt_24.1
theorem dX7_pointsAt_25 : decode cX7_pointsAt 25 = .ok (.iconst 1, 1) := bdX7_pointsAt_24.2.1
theorem dX7_pointsAt_26 : decode cX7_pointsAt 26 = .ok (.iadd, 1) := bdX7_pointsAt_24.2.2.1
theorem dX7_pointsAt_27 : decode cX7_pointsAt 27 = .ok (.istore 5, 2) := bdX7_pointsAt_24.2.2.2.1
theorem dX7_pointsAt_29 : decode cX7_pointsAt 29 = .ok (.iload 5, 2) := bdX7_pointsAt_24.2.2.2.2.1
theorem dX7_pointsAt_31 : decode cX7_pointsAt 31 = .ok (.iload 4, 2) := bdX7_pointsAt_24.2.2.2.2.2.1
theorem dX7_pointsAt_33 : decode cX7_pointsAt 33 = .ok (.if_icmp .ge 8, 3) := bdX7_pointsAt_24.2.2.2.2.2.2.1
theorem dX7_pointsAt_36 : decode cX7_pointsAt 36 = .ok (.iload 4, 2) := bdX7_pointsAt_24.2.2.2.2.2.2.2.1
theorem dX7_pointsAt_38 : decode cX7_pointsAt 38 = .ok (.goto 5, 3) := bdX7_pointsAt_24.2.2.2.2.2.2.2.2.1
theorem dX7_pointsAt_41 : decode cX7_pointsAt 41 = .ok (.iload 5, 2) := bdX7_pointsAt_24.2.2.2.2.2.2.2.2.2.1
theorem dX7_pointsAt_43 : decode cX7_pointsAt 43 = .ok (.istore 5, 2) := bdX7_pointsAt_24.2.2.2.2.2.2.2.2.2.2.1
theorem dX7_pointsAt_45 : decode cX7_pointsAt 45 = .ok (.iload 5, 2) := bdX7_pointsAt_24.2.2.2.2.2.2.2.2.2.2.2.1
theorem dX7_pointsAt_47 : decode cX7_pointsAt 47 = .ok (.ifCond .ge 7, 3) := bdX7_pointsAt_24.2.2.2.2.2.2.2.2.2.2.2.2.1
theorem dX7_pointsAt_50 : decode cX7_pointsAt 50 = .ok (.iconst 0, 1) := bdX7_pointsAt_24.2.2.2.2.2.2.2.2.2.2.2.2.2.1
theorem dX7_pointsAt_51 : decode cX7_pointsAt 51 = .ok (.goto 5, 3) := bdX7_pointsAt_24.2.2.2.2.2.2.2.2.2.2.2.2.2.2.1
theorem dX7_pointsAt_54 : decode cX7_pointsAt 54 = .ok (.iload 5, 2) := bdX7_pointsAt_24.2.2.2.2.2.2.2.2.2.2.2.2.2.2.2
theorem bdX7_pointsAt_56 : decode cX7_pointsAt 56 = .ok (.istore 5, 2) ∧ decode cX7_pointsAt 58 = .ok (.iload 5, 2) ∧ decode cX7_pointsAt 60 = .ok (.istore 6, 2) ∧ decode cX7_pointsAt 62 = .ok (.iload 6, 2) ∧ decode cX7_pointsAt 64 = .ok (.aload_n 0, 1) ∧ decode cX7_pointsAt 65 = .ok (.getfield 7, 3) ∧ decode cX7_pointsAt 68 = .ok (.bipush 10, 2) ∧ decode cX7_pointsAt 70 = .ok (.iaload, 1) ∧ decode cX7_pointsAt 71 = .ok (.if_icmp .gt 33, 3) ∧ decode cX7_pointsAt 74 = .ok (.iload_n 3, 1) ∧ decode cX7_pointsAt 75 = .ok (.aload_n 0, 1) ∧ decode cX7_pointsAt 76 = .ok (.getfield 7, 3) ∧ decode cX7_pointsAt 79 = .ok (.sipush 392, 3) ∧ decode cX7_pointsAt 82 = .ok (.sipush 200, 3) ∧ decode cX7_pointsAt 85 = .ok (.iload_n 1, 1) ∧ decode cX7_pointsAt 86 = .ok (.imul, 1) := by decide +kernel
theorem dX7_pointsAt_56 : decode cX7_pointsAt 56 = .ok (.istore 5, 2) := bdX7_pointsAt_56.1
theorem dX7_pointsAt_58 : decode cX7_pointsAt 58 = .ok (.iload 5, 2) := bdX7_pointsAt_56.2.1
theorem dX7_pointsAt_60 : decode cX7_pointsAt 60 = .ok (.istore 6, 2) := bdX7_pointsAt_56.2.2.1
theorem dX7_pointsAt_62 : decode cX7_pointsAt 62 = .ok (.iload 6, 2) := bdX7_pointsAt_56.2.2.2.1
theorem dX7_pointsAt_64 : decode cX7_pointsAt 64 = .ok (.aload_n 0, 1) := bdX7_pointsAt_56.2.2.2.2.1
theorem dX7_pointsAt_65 : decode cX7_pointsAt 65 = .ok (.getfield 7, 3) := bdX7_pointsAt_56.2.2.2.2.2.1
theorem dX7_pointsAt_68 : decode cX7_pointsAt 68 = .ok (.bipush 10, 2) := bdX7_pointsAt_56.2.2.2.2.2.2.1
theorem dX7_pointsAt_70 : decode cX7_pointsAt 70 = .ok (.iaload, 1) := bdX7_pointsAt_56.2.2.2.2.2.2.2.1
theorem dX7_pointsAt_71 : decode cX7_pointsAt 71 = .ok (.if_icmp .gt 33, 3) := bdX7_pointsAt_56.2.2.2.2.2.2.2.2.1
theorem dX7_pointsAt_74 : decode cX7_pointsAt 74 = .ok (.iload_n 3, 1) := bdX7_pointsAt_56.2.2.2.2.2.2.2.2.2.1
theorem dX7_pointsAt_75 : decode cX7_pointsAt 75 = .ok (.aload_n 0, 1) := bdX7_pointsAt_56.2.2.2.2.2.2.2.2.2.2.1
theorem dX7_pointsAt_76 : decode cX7_pointsAt 76 = .ok (.getfield 7, 3) := bdX7_pointsAt_56.2.2.2.2.2.2.2.2.2.2.2.1
theorem dX7_pointsAt_79 : decode cX7_pointsAt 79 = .ok (.sipush 392, 3) := bdX7_pointsAt_56.2.2.2.2.2.2.2.2.2.2.2.2.1
theorem dX7_pointsAt_82 : decode cX7_pointsAt 82 = .ok (.sipush 200, 3) := bdX7_pointsAt_56.2.2.2.2.2.2.2.2.2.2.2.2.2.1
theorem dX7_pointsAt_85 : decode cX7_pointsAt 85 = .ok (.iload_n 1, 1) := bdX7_pointsAt_56.2.2.2.2.2.2.2.2.2.2.2.2.2.2.1
theorem dX7_pointsAt_86 : decode cX7_pointsAt 86 = .ok (.imul, 1) := bdX7_pointsAt_56.2.2.2.2.2.2.2.2.2.2.2.2.2.2.2
theorem bdX7_pointsAt_87 : decode cX7_pointsAt 87 = .ok (.iadd, 1) ∧ decode cX7_pointsAt 88 = .ok (.iload 6, 2) ∧ decode cX7_pointsAt 90 = .ok (.sipush 200, 3) ∧ decode cX7_pointsAt 93 = .ok (.irem, 1) ∧ decode cX7_pointsAt 94 = .ok (.iadd, 1) ∧ decode cX7_pointsAt 95 = .ok (.iaload, 1) ∧ decode cX7_pointsAt 96 = .ok (.iadd, 1) ∧ decode cX7_pointsAt 97 = .ok (.istore_n 3, 1) ∧ decode cX7_pointsAt 98 = .ok (.iinc 6 1, 3) ∧ decode cX7_pointsAt 101 = .ok (.goto (-39), 3) ∧ decode cX7_pointsAt 104 = .ok (.iload_n 3, 1) ∧ decode cX7_pointsAt 105 = .ok (.ireturn, 1) := by decide +kernel
theorem dX7_pointsAt_87 : decode cX7_pointsAt 87 = .ok (.iadd, 1) := bdX7_pointsAt_87.1
theorem dX7_pointsAt_88 : decode cX7_pointsAt 88 = .ok (.iload 6, 2) := bdX7_pointsAt_87.2.1
theorem dX7_pointsAt_90 : decode cX7_pointsAt 90 = .ok (.sipush 200, 3) := bdX7_pointsAt_87.2.2.1
theorem dX7_pointsAt_93 : decode cX7_pointsAt 93 = .ok (.irem, 1) := bdX7_pointsAt_87.2.2.2.1
theorem dX7_pointsAt_94 : decode cX7_pointsAt 94 = .ok (.iadd, 1) := bdX7_pointsAt_87.2.2.2.2.1
theorem dX7_pointsAt_95 : decode cX7_pointsAt 95 = .ok (.iaload, 1) := bdX7_pointsAt_87.2.2.2.2.2.1
theorem dX7_pointsAt_96 : decode cX7_pointsAt 96 = .ok (.iadd, 1) := bdX7_pointsAt_87.2.2.2.2.2.2.1
theorem dX7_pointsAt_97 : decode cX7_pointsAt 97 = .ok (.istore_n 3, 1) := bdX7_pointsAt_87.2.2.2.2.2.2.2.1
theorem dX7_pointsAt_98 : decode cX7_pointsAt 98 = .ok (.iinc 6 1, 3) := bdX7_pointsAt_87.2.2.2.2.2.2.2.2.1
theorem dX7_pointsAt_101 : decode cX7_pointsAt 101 = .ok (.goto (-39), 3) := bdX7_pointsAt_87.2.2.2.2.2.2.2.2.2.1
theorem dX7_pointsAt_104 : decode cX7_pointsAt 104 = .ok (.iload_n 3, 1) := bdX7_pointsAt_87.2.2.2.2.2.2.2.2.2.2.1
theorem dX7_pointsAt_105 : decode cX7_pointsAt 105 = .ok (.ireturn, 1) := bdX7_pointsAt_87.2.2.2.2.2.2.2.2.2.2.2
theorem bdX7_give_0 : decode cX7_give 0 = .ok (.aload_n 0, 1) ∧ decode cX7_give 1 = .ok (.getfield 7, 3) ∧ decode cX7_give 4 = .ok (.sipush 392, 3) ∧ decode cX7_give 7 = .ok (.sipush 200, 3) ∧ decode cX7_give 10 = .ok (.iload_n 1, 1) ∧ decode cX7_give 11 = .ok (.imul, 1) ∧ decode cX7_give 12 = .ok (.iadd, 1) ∧ decode cX7_give 13 = .ok (.aload_n 0, 1) ∧ decode cX7_give 14 = .ok (.getfield 7, 3) ∧ decode cX7_give 17 = .ok (.bipush 10, 2) ∧ decode cX7_give 19 = .ok (.iaload, 1) ∧ decode cX7_give 20 = .ok (.sipush 200, 3) ∧ decode cX7_give 23 = .ok (.irem, 1) ∧ decode cX7_give 24 = .ok (.iadd, 1) ∧ decode cX7_give 25 = .ok (.dup2, 1) ∧ decode cX7_give 26 = .ok (.iaload, 1) := by decide +kernel
theorem dX7_give_0 : decode cX7_give 0 = .ok (.aload_n 0, 1) := bdX7_give_0.1
theorem dX7_give_1 : decode cX7_give 1 = .ok (.getfield 7, 3) := bdX7_give_0.2.1
theorem dX7_give_4 : decode cX7_give 4 = .ok (.sipush 392, 3) := bdX7_give_0.2.2.1
theorem dX7_give_7 : decode cX7_give 7 = .ok (.sipush 200, 3) := bdX7_give_0.2.2.2.1
theorem dX7_give_10 : decode cX7_give 10 = .ok (.iload_n 1, 1) := bdX7_give_0.2.2.2.2.1
theorem dX7_give_11 : decode cX7_give 11 = .ok (.imul, 1) := bdX7_give_0.2.2.2.2.2.1
theorem dX7_give_12 : decode cX7_give 12 = .ok (.iadd, 1) := bdX7_give_0.2.2.2.2.2.2.1
theorem dX7_give_13 : decode cX7_give 13 = .ok (.aload_n 0, 1) := bdX7_give_0.2.2.2.2.2.2.2.1
theorem dX7_give_14 : decode cX7_give 14 = .ok (.getfield 7, 3) := bdX7_give_0.2.2.2.2.2.2.2.2.1
theorem dX7_give_17 : decode cX7_give 17 = .ok (.bipush 10, 2) := bdX7_give_0.2.2.2.2.2.2.2.2.2.1
theorem dX7_give_19 : decode cX7_give 19 = .ok (.iaload, 1) := bdX7_give_0.2.2.2.2.2.2.2.2.2.2.1
theorem dX7_give_20 : decode cX7_give 20 = .ok (.sipush 200, 3) := bdX7_give_0.2.2.2.2.2.2.2.2.2.2.2.1
theorem dX7_give_23 : decode cX7_give 23 = .ok (.irem, 1) := bdX7_give_0.2.2.2.2.2.2.2.2.2.2.2.2.1
theorem dX7_give_24 : decode cX7_give 24 = .ok (.iadd, 1) := bdX7_give_0.2.2.2.2.2.2.2.2.2.2.2.2.2.1
theorem dX7_give_25 : decode cX7_give 25 = .ok (.dup2, 1) := bdX7_give_0.2.2.2.2.2.2.2.2.2.2.2.2.2.2.1
theorem dX7_give_26 : decode cX7_give 26 = .ok (.iaload, 1) := bdX7_give_0.2.2.2.2.2.2.2.2.2.2.2.2.2.2.2
theorem bdX7_give_27 : decode cX7_give 27 = .ok (.iload_n 2, 1) ∧ decode cX7_give 28 = .ok (.iadd, 1) ∧ decode cX7_give 29 = .ok (.iastore, 1) ∧ decode cX7_give 30 = .ok (.aload_n 0, 1) ∧ decode cX7_give 31 = .ok (.iload_n 1, 1) ∧ decode cX7_give 32 = .ok (.bipush 17, 2) ∧ decode cX7_give 34 = .ok (.aload_n 0, 1) ∧ decode cX7_give 35 = .ok (.iload_n 1, 1) ∧ decode cX7_give 36 = .ok (.bipush 17, 2) ∧ decode cX7_give 38 = .ok (.invokevirtual 66, 3) ∧ decode cX7_give 41 = .ok (.iload_n 2, 1) ∧ decode cX7_give 42 = .ok (.aload_n 0, 1) ∧ decode cX7_give 43 = .ok (.getfield 7, 3) ∧ decode cX7_give 46 = .ok (.bipush 6, 2) ∧ decode cX7_give 48 = .ok (.iaload, 1) ∧ decode cX7_give 49 = .ok (.imul, 1) := by decide +kernel
theorem dX7_give_27 : decode cX7_give 27 = .ok (.iload_n 2, 1) := bdX7_give_27.1
theorem dX7_give_28 : decode cX7_give 28 = .ok (.iadd, 1) := bdX7_give_27.2.1
theorem dX7_give_29 : decode cX7_give 29 = .ok (.iastore, 1) := bdX7_give_27.2.2.1
theorem dX7_give_30 : decode cX7_give 30 = .ok (.aload_n 0, 1) := bdX7_give_27.2.2.2.1
theorem dX7_give_31 : decode cX7_give 31 = .ok (.iload_n 1, 1) := bdX7_give_27.2.2.2.2.1
theorem dX7_give_32 : decode cX7_give 32 = .ok (.bipush 17, 2) := bdX7_give_27.2.2.2.2.2.1
theorem dX7_give_34 : decode cX7_give 34 = .ok (.aload_n 0, 1) := bdX7_give_27.2.2.2.2.2.2.1
theorem dX7_give_35 : decode cX7_give 35 = .ok (.iload_n 1, 1) := bdX7_give_27.2.2.2.2.2.2.2.1
theorem dX7_give_36 : decode cX7_give 36 = .ok (.bipush 17, 2) := bdX7_give_27.2.2.2.2.2.2.2.2.1
theorem dX7_give_38 : decode cX7_give 38 = .ok (.invokevirtual 66, 3) := bdX7_give_27.2.2.2.2.2.2.2.2.2.1
theorem dX7_give_41 : decode cX7_give 41 = .ok (.iload_n 2, 1) := bdX7_give_27.2.2.2.2.2.2.2.2.2.2.1
theorem dX7_give_42 : decode cX7_give 42 = .ok (.aload_n 0, 1) := bdX7_give_27.2.2.2.2.2.2.2.2.2.2.2.1
theorem dX7_give_43 : decode cX7_give 43 = .ok (.getfield 7, 3) := bdX7_give_27.2.2.2.2.2.2.2.2.2.2.2.2.1
theorem dX7_give_46 : decode cX7_give 46 = .ok (.bipush 6, 2) := bdX7_give_27.2.2.2.2.2.2.2.2.2.2.2.2.2.1
theorem dX7_give_48 : decode cX7_give 48 = .ok (.iaload, 1) := bdX7_give_27.2.2.2.2.2.2.2.2.2.2.2.2.2.2.1
theorem dX7_give_49 : decode cX7_give 49 = .ok (.imul, 1) := bdX7_give_27.2.2.2.2.2.2.2.2.2.2.2.2.2.2.2
theorem bdX7_give_50 : decode cX7_give 50 = .ok (.iadd, 1) ∧ decode cX7_give 51 = .ok (.invokevirtual 62, 3) ∧ decode cX7_give 54 = .ok (.aload_n 0, 1) ∧ decode cX7_give 55 = .ok (.iload_n 1, 1) ∧ decode cX7_give 56 = .ok (.aload_n 0, 1) ∧ decode cX7_give 57 = .ok (.getfield 7, 3) ∧ decode cX7_give 60 = .ok (.bipush 10, 2) ∧ decode cX7_give 62 = .ok (.iaload, 1) ∧ decode cX7_give 63 = .ok (.invokevirtual 69, 3) ∧ decode cX7_give 66 = .ok (.aload_n 0, 1) ∧ decode cX7_give 67 = .ok (.getfield 7, 3) ∧ decode cX7_give 70 = .ok (.iconst 3, 1) ∧ decode cX7_give 71 = .ok (.iaload, 1) ∧ decode cX7_give 72 = .ok (.if_icmp .lt 56, 3) ∧ decode cX7_give 75 = .ok (.aload_n 0, 1) ∧ decode cX7_give 76 = .ok (.iload_n 1, 1) := by decide +kernel
theorem dX7_give_50 : decode cX7_give 50 = .ok (.iadd, 1) := bdX7_give_50.1
theorem dX7_give_51 : decode cX7_give 51 = .ok (.invokevirtual 62, 3) := bdX7_give_50.2.1
theorem dX7_give_54 : decode cX7_give 54 = .ok (.aload_n 0, 1) := bdX7_give_50.2.2.1
theorem dX7_give_55 : decode cX7_give 55 = .ok (.iload_n 1, 1) := bdX7_give_50.2.2.2.1
theorem dX7_give_56 : decode cX7_give 56 = .ok (.aload_n 0, 1) := bdX7_give_50.2.2.2.2.1
theorem dX7_give_57 : decode cX7_give 57 = .ok (.getfield 7, 3) := bdX7_give_50.2.2.2.2.2.1
theorem dX7_give_60 : decode cX7_give 60 = .ok (.bipush 10, 2) := bdX7_give_50.2.2.2.2.2.2.1
theorem dX7_give_62 : decode cX7_give 62 = .ok (.iaload, 1) := bdX7_give_50.2.2.2.2.2.2.2.1
theorem dX7_give_63 : decode cX7_give 63 = .ok (.invokevirtual 69, 3) := bdX7_give_50.2.2.2.2.2.2.2.2.1
theorem dX7_give_66 : decode cX7_give 66 = .ok (.aload_n 0, 1) := bdX7_give_50.2.2.2.2.2.2.2.2.2.1
theorem dX7_give_67 : decode cX7_give 67 = .ok (.getfield 7, 3) := bdX7_give_50.2.2.2.2.2.2.2.2.2.2.1
theorem dX7_give_70 : decode cX7_give 70 = .ok (.iconst 3, 1) := bdX7_give_50.2.2.2.2.2.2.2.2.2.2.2.1
theorem dX7_give_71 : decode cX7_give 71 = .ok (.iaload, 1) := bdX7_give_50.2.2.2.2.2.2.2.2.2.2.2.2.1
theorem dX7_give_72 : decode cX7_give 72 = .ok (.if_icmp .lt 56, 3) := bdX7_give_50.2.2.2.2.2.2.2.2.2.2.2.2.2.1
theorem dX7_give_75 : decode cX7_give 75 = .ok (.aload_n 0, 1) := bdX7_give_50.2.2.2.2.2.2.2.2.2.2.2.2.2.2.1
theorem dX7_give_76 : decode cX7_give 76 = .ok (.iload_n 1, 1) := bdX7_give_50.2.2.2.2.2.2.2.2.2.2.2.2.2.2.2
theorem bdX7_give_77 : decode cX7_give 77 = .ok (.bipush 9, 2) ∧ decode cX7_give 79 = .ok (.aload_n 0, 1) ∧ decode cX7_give 80 = .ok (.getfield 7, 3) ∧ decode cX7_give 83 = .ok (.bipush 10, 2) ∧ decode cX7_give 85 = .ok (.iaload, 1) ∧ decode cX7_give 86 = .ok (.aload_n 0, 1) ∧ decode cX7_give 87 = .ok (.getfield 7, 3) ∧ decode cX7_give 90 = .ok (.iconst 4, 1) ∧ decode cX7_give 91 = .ok (.iaload, 1) ∧ decode cX7_give 92 = .ok (.iadd, 1) ∧ decode cX7_give 93 = .ok (.invokevirtual 62, 3) ∧ decode cX7_give 96 = .ok (.iconst 0, 1) ∧ decode cX7_give 97 = .ok (.istore_n 3, 1) ∧ decode cX7_give 98 = .ok (.iload_n 3, 1) ∧ decode cX7_give 99 = .ok (.sipush 200, 3) ∧ decode cX7_give 102 = .ok (.if_icmp .ge 26, 3) := by decide +kernel
theorem dX7_give_77 : decode cX7_give 77 = .ok (.bipush 9, 2) := bdX7_give_77.1
theorem dX7_give_79 : decode cX7_give 79 = .ok (.aload_n 0, 1) := bdX7_give_77.2.1
theorem dX7_give_80 : decode cX7_give 80 = .ok (.getfield 7, 3) := bdX7_give_77.2.2.1
theorem dX7_give_83 : decode cX7_give 83 = .ok (.bipush 10, 2) := bdX7_give_77.2.2.2.1
theorem dX7_give_85 : decode cX7_give 85 = .ok (.iaload, 1) := bdX7_give_77.2.2.2.2.1
theorem dX7_give_86 : decode cX7_give 86 = .ok (.aload_n 0, 1) := bdX7_give_77.2.2.2.2.2.1
theorem dX7_give_87 : decode cX7_give 87 = .ok (.getfield 7, 3) := bdX7_give_77.2.2.2.2.2.2.1
theorem dX7_give_90 : decode cX7_give 90 = .ok (.iconst 4, 1) := bdX7_give_77.2.2.2.2.2.2.2.1
theorem dX7_give_91 : decode cX7_give 91 = .ok (.iaload, 1) := bdX7_give_77.2.2.2.2.2.2.2.2.1
theorem dX7_give_92 : decode cX7_give 92 = .ok (.iadd, 1) := bdX7_give_77.2.2.2.2.2.2.2.2.2.1
theorem dX7_give_93 : decode cX7_give 93 = .ok (.invokevirtual 62, 3) := bdX7_give_77.2.2.2.2.2.2.2.2.2.2.1
theorem dX7_give_96 : decode cX7_give 96 = .ok (.iconst 0, 1) := bdX7_give_77.2.2.2.2.2.2.2.2.2.2.2.1
theorem dX7_give_97 : decode cX7_give 97 = .ok (.istore_n 3, 1) := bdX7_give_77.2.2.2.2.2.2.2.2.2.2.2.2.1
theorem dX7_give_98 : decode cX7_give 98 = .ok (.iload_n 3, 1) := bdX7_give_77.2.2.2.2.2.2.2.2.2.2.2.2.2.1
theorem dX7_give_99 : decode cX7_give 99 = .ok (.sipush 200, 3) := bdX7_give_77.2.2.2.2.2.2.2.2.2.2.2.2.2.2.1
theorem dX7_give_102 : decode cX7_give 102 = .ok (.if_icmp .ge 26, 3) := bdX7_give_77.2.2.2.2.2.2.2.2.2.2.2.2.2.2.2
theorem bdX7_give_105 : decode cX7_give 105 = .ok (.aload_n 0, 1) ∧ decode cX7_give 106 = .ok (.getfield 7, 3) ∧ decode cX7_give 109 = .ok (.sipush 392, 3) ∧ decode cX7_give 112 = .ok (.sipush 200, 3) ∧ decode cX7_give 115 = .ok (.iload_n 1, 1) ∧ decode cX7_give 116 = .ok (.imul, 1) ∧ decode cX7_give 117 = .ok (.iadd, 1) ∧ decode cX7_give 118 = .ok (.iload_n 3, 1) ∧ decode cX7_give 119 = .ok (.iadd, 1) ∧ decode cX7_give 120 = .ok (.iconst 0, 1) ∧ decode cX7_give 121 = .ok (.iastore, 1) ∧ decode cX7_give 122 = .ok (.iinc 3 1, 3) ∧ decode cX7_give 125 = .ok (.goto (-27), 3) ∧ decode cX7_give 128 = .ok (.return_, 1) := by decide +kernel
theorem dX7_give_105 : decode cX7_give 105 = .ok (.aload_n 0, 1) := bdX7_give_105.1
theorem dX7_give_106 : decode cX7_give 106 = .ok (.getfield 7, 3) := bdX7_give_105.2.1
theorem dX7_give_109 : decode cX7_give 109 = .ok (.sipush 392, 3) := bdX7_give_105.2.2.1
theorem dX7_give_112 : decode cX7_give 112 = .ok (.sipush 200, 3) := bdX7_give_105.2.2.2.1
theorem dX7_give_115 : decode cX7_give 115 = .ok (.iload_n 1, 1) := bdX7_give_105.2.2.2.2.1
theorem dX7_give_116 : decode cX7_give 116 = .ok (.imul, 1) := bdX7_give_105.2.2.2.2.2.1
theorem dX7_give_117 : decode cX7_give 117 = .ok (.iadd, 1) := bdX7_give_105.2.2.2.2.2.2.1
theorem dX7_give_118 : decode cX7_give 118 = .ok (.iload_n 3, 1) := bdX7_give_105.2.2.2.2.2.2.2.1
theorem dX7_give_119 : decode cX7_give 119 = .ok (.iadd, 1) := bdX7_give_105.2.2.2.2.2.2.2.2.1
theorem dX7_give_120 : decode cX7_give 120 = .ok (.iconst 0, 1) := bdX7_give_105.2.2.2.2.2.2.2.2.2.1
theorem dX7_give_121 : decode cX7_give 121 = .ok (.iastore, 1) := bdX7_give_105.2.2.2.2.2.2.2.2.2.2.1
theorem dX7_give_122 : decode cX7_give 122 = .ok (.iinc 3 1, 3) := bdX7_give_105.2.2.2.2.2.2.2.2.2.2.2.1
theorem dX7_give_125 : decode cX7_give 125 = .ok (.goto (-27), 3) := bdX7_give_105.2.2.2.2.2.2.2.2.2.2.2.2.1
theorem dX7_give_128 : decode cX7_give 128 = .ok (.return_, 1) := bdX7_give_105.2.2.2.2.2.2.2.2.2.2.2.2.2
theorem bdX7_isNumber_0 : decode cX7_isNumber 0 = .ok (.iload_n 1, 1) ∧ decode cX7_isNumber 1 = .ok (.bipush (-6), 2) ∧ decode cX7_isNumber 3 = .ok (.if_icmp .eq 11, 3) ∧ decode cX7_isNumber 6 = .ok (.aload_n 0, 1) ∧ decode cX7_isNumber 7 = .ok (.iload_n 1, 1) ∧ decode cX7_isNumber 8 = .ok (.invokevirtual 54, 3) ∧ decode cX7_isNumber 11 = .ok (.ifCond .eq 7, 3) ∧ decode cX7_isNumber 14 = .ok (.iconst 1, 1) ∧ decode cX7_isNumber 15 = .ok (.goto 4, 3) ∧ decode cX7_isNumber 18 = .ok (.iconst 0, 1) ∧ decode cX7_isNumber 19 = .ok (.ireturn, 1) := by decide +kernel
theorem dX7_isNumber_0 : decode cX7_isNumber 0 = .ok (.iload_n 1, 1) := bdX7_isNumber_0.1
theorem dX7_isNumber_1 : decode cX7_isNumber 1 = .ok (.bipush (-6), 2) := bdX7_isNumber_0.2.1
theorem dX7_isNumber_3 : decode cX7_isNumber 3 = .ok (.if_icmp .eq 11, 3) := bdX7_isNumber_0.2.2.1
theorem dX7_isNumber_6 : decode cX7_isNumber 6 = .ok (.aload_n 0, 1) := bdX7_isNumber_0.2.2.2.1
theorem dX7_isNumber_7 : decode cX7_isNumber 7 = .ok (.iload_n 1, 1) := bdX7_isNumber_0.2.2.2.2.1
theorem dX7_isNumber_8 : decode cX7_isNumber 8 = .ok (.invokevirtual 54, 3) := bdX7_isNumber_0.2.2.2.2.2.1
theorem dX7_isNumber_11 : decode cX7_isNumber 11 = .ok (.ifCond .eq 7, 3) := bdX7_isNumber_0.2.2.2.2.2.2.1
theorem dX7_isNumber_14 : decode cX7_isNumber 14 = .ok (.iconst 1, 1) := bdX7_isNumber_0.2.2.2.2.2.2.2.1
theorem dX7_isNumber_15 : decode cX7_isNumber 15 = .ok (.goto 4, 3) := bdX7_isNumber_0.2.2.2.2.2.2.2.2.1
theorem dX7_isNumber_18 : decode cX7_isNumber 18 = .ok (.iconst 0, 1) := bdX7_isNumber_0.2.2.2.2.2.2.2.2.2.1
theorem dX7_isNumber_19 : decode cX7_isNumber 19 = .ok (.ireturn, 1) := bdX7_isNumber_0.2.2.2.2.2.2.2.2.2.2
theorem bdX7_tryWish_0 : decode cX7_tryWish 0 = .ok (.aload_n 0, 1) ∧ decode cX7_tryWish 1 = .ok (.iload_n 1, 1) ∧ decode cX7_tryWish 2 = .ok (.invokevirtual 72, 3) ∧ decode cX7_tryWish 5 = .ok (.ifCond .ne 5, 3) ∧ decode cX7_tryWish 8 = .ok (.iconst (-1), 1) ∧ decode cX7_tryWish 9 = .ok (.ireturn, 1) ∧ decode cX7_tryWish 10 = .ok (.iload_n 2, 1) ∧ decode cX7_tryWish 11 = .ok (.ifCond .ge 7, 3) ∧ decode cX7_tryWish 14 = .ok (.iconst 0, 1) ∧ decode cX7_tryWish 15 = .ok (.goto 21, 3) ∧ decode cX7_tryWish 18 = .ok (.iload_n 3, 1) ∧ decode cX7_tryWish 19 = .ok (.ifCond .ge 7, 3) ∧ decode cX7_tryWish 22 = .ok (.iconst 1, 1) ∧ decode cX7_tryWish 23 = .ok (.goto 13, 3) ∧ decode cX7_tryWish 26 = .ok (.iload 4, 2) ∧ decode cX7_tryWish 28 = .ok (.ifCond .ge 7, 3) := by decide +kernel
theorem dX7_tryWish_0 : decode cX7_tryWish 0 = .ok (.aload_n 0, 1) := bdX7_tryWish_0.1
theorem dX7_tryWish_1 : decode cX7_tryWish 1 = .ok (.iload_n 1, 1) := bdX7_tryWish_0.2.1
theorem dX7_tryWish_2 : decode cX7_tryWish 2 = .ok (.invokevirtual 72, 3) := bdX7_tryWish_0.2.2.1
theorem dX7_tryWish_5 : decode cX7_tryWish 5 = .ok (.ifCond .ne 5, 3) := bdX7_tryWish_0.2.2.2.1
theorem dX7_tryWish_8 : decode cX7_tryWish 8 = .ok (.iconst (-1), 1) := bdX7_tryWish_0.2.2.2.2.1
theorem dX7_tryWish_9 : decode cX7_tryWish 9 = .ok (.ireturn, 1) := bdX7_tryWish_0.2.2.2.2.2.1
theorem dX7_tryWish_10 : decode cX7_tryWish 10 = .ok (.iload_n 2, 1) := bdX7_tryWish_0.2.2.2.2.2.2.1
theorem dX7_tryWish_11 : decode cX7_tryWish 11 = .ok (.ifCond .ge 7, 3) := bdX7_tryWish_0.2.2.2.2.2.2.2.1
theorem dX7_tryWish_14 : decode cX7_tryWish 14 = .ok (.iconst 0, 1) := bdX7_tryWish_0.2.2.2.2.2.2.2.2.1
theorem dX7_tryWish_15 : decode cX7_tryWish 15 = .ok (.goto 21, 3) := bdX7_tryWish_0.2.2.2.2.2.2.2.2.2.1
theorem dX7_tryWish_18 : decode cX7_tryWish 18 = .ok (.iload_n 3, 1) := bdX7_tryWish_0.2.2.2.2.2.2.2.2.2.2.1
theorem dX7_tryWish_19 : decode cX7_tryWish 19 = .ok (.ifCond .ge 7, 3) := bdX7_tryWish_0.2.2.2.2.2.2.2.2.2.2.2.1
theorem dX7_tryWish_22 : decode cX7_tryWish 22 = .ok (.iconst 1, 1) := bdX7_tryWish_0.2.2.2.2.2.2.2.2.2.2.2.2.1
theorem dX7_tryWish_23 : decode cX7_tryWish 23 = .ok (.goto 13, 3) := bdX7_tryWish_0.2.2.2.2.2.2.2.2.2.2.2.2.2.1
theorem dX7_tryWish_26 : decode cX7_tryWish 26 = .ok (.iload 4, 2) := bdX7_tryWish_0.2.2.2.2.2.2.2.2.2.2.2.2.2.2.1
theorem dX7_tryWish_28 : decode cX7_tryWish 28 = .ok (.ifCond .ge 7, 3) := bdX7_tryWish_0.2.2.2.2.2.2.2.2.2.2.2.2.2.2.2
theorem bdX7_tryWish_31 : decode cX7_tryWish 31 = .ok (.iconst 2, 1) ∧ decode cX7_tryWish 32 = .ok (.goto 4, 3) ∧ decode cX7_tryWish 35 = .ok (.iconst 3, 1) ∧ decode cX7_tryWish 36 = .ok (.istore 6, 2) ∧ decode cX7_tryWish 38 = .ok (.iload 6, 2) ∧ decode cX7_tryWish 40 = .ok (.iconst 1, 1) ∧ decode cX7_tryWish 41 = .ok (.if_icmp .le 8, 3) ∧ decode cX7_tryWish 44 = .ok (.iload_n 2, 1) ∧ decode cX7_tryWish 45 = .ok (.iload_n 3, 1) ∧ decode cX7_tryWish 46 = .ok (.if_icmp .eq 21, 3) ∧ decode cX7_tryWish 49 = .ok (.iload 6, 2) ∧ decode cX7_tryWish 51 = .ok (.iconst 2, 1) ∧ decode cX7_tryWish 52 = .ok (.if_icmp .le 19, 3) ∧ decode cX7_tryWish 55 = .ok (.iload_n 2, 1) ∧ decode cX7_tryWish 56 = .ok (.iload 4, 2) ∧ decode cX7_tryWish 58 = .ok (.if_icmp .eq 9, 3) := by decide +kernel
theorem dX7_tryWish_31 : decode cX7_tryWish 31 = .ok (.iconst 2, 1) := bdX7_tryWish_31.1
theorem dX7_tryWish_32 : decode cX7_tryWish 32 = .ok (.goto 4, 3) := bdX7_tryWish_31.2.1
theorem dX7_tryWish_35 : decode cX7_tryWish 35 = .ok (.iconst 3, 1) := bdX7_tryWish_31.2.2.1
theorem dX7_tryWish_36 : decode cX7_tryWish 36 = .ok (.istore 6, 2) := bdX7_tryWish_31.2.2.2.1
theorem dX7_tryWish_38 : decode cX7_tryWish 38 = .ok (.iload 6, 2) := bdX7_tryWish_31.2.2.2.2.1
theorem dX7_tryWish_40 : decode cX7_tryWish 40 = .ok (.iconst 1, 1) := bdX7_tryWish_31.2.2.2.2.2.1
theorem dX7_tryWish_41 : decode cX7_tryWish 41 = .ok (.if_icmp .le 8, 3) := bdX7_tryWish_31.2.2.2.2.2.2.1
theorem dX7_tryWish_44 : decode cX7_tryWish 44 = .ok (.iload_n 2, 1) := bdX7_tryWish_31.2.2.2.2.2.2.2.1
theorem dX7_tryWish_45 : decode cX7_tryWish 45 = .ok (.iload_n 3, 1) := bdX7_tryWish_31.2.2.2.2.2.2.2.2.1
theorem dX7_tryWish_46 : decode cX7_tryWish 46 = .ok (.if_icmp .eq 21, 3) := bdX7_tryWish_31.2.2.2.2.2.2.2.2.2.1
theorem dX7_tryWish_49 : decode cX7_tryWish 49 = .ok (.iload 6, 2) := bdX7_tryWish_31.2.2.2.2.2.2.2.2.2.2.1
theorem dX7_tryWish_51 : decode cX7_tryWish 51 = .ok (.iconst 2, 1) := bdX7_tryWish_31.2.2.2.2.2.2.2.2.2.2.2.1
theorem dX7_tryWish_52 : decode cX7_tryWish 52 = .ok (.if_icmp .le 19, 3) := bdX7_tryWish_31.2.2.2.2.2.2.2.2.2.2.2.2.1
theorem dX7_tryWish_55 : decode cX7_tryWish 55 = .ok (.iload_n 2, 1) := bdX7_tryWish_31.2.2.2.2.2.2.2.2.2.2.2.2.2.1
theorem dX7_tryWish_56 : decode cX7_tryWish 56 = .ok (.iload 4, 2) := bdX7_tryWish_31.2.2.2.2.2.2.2.2.2.2.2.2.2.2.1
theorem dX7_tryWish_58 : decode cX7_tryWish 58 = .ok (.if_icmp .eq 9, 3) := bdX7_tryWish_31.2.2.2.2.2.2.2.2.2.2.2.2.2.2.2
theorem bdX7_tryWish_61 : decode cX7_tryWish 61 = .ok (.iload_n 3, 1) ∧ decode cX7_tryWish 62 = .ok (.iload 4, 2) ∧ decode cX7_tryWish 64 = .ok (.if_icmp .ne 7, 3) ∧ decode cX7_tryWish 67 = .ok (.iconst 1, 1) ∧ decode cX7_tryWish 68 = .ok (.goto 4, 3) ∧ decode cX7_tryWish 71 = .ok (.iconst 0, 1) ∧ decode cX7_tryWish 72 = .ok (.istore 7, 2) ∧ decode cX7_tryWish 74 = .ok (.aload_n 0, 1) ∧ decode cX7_tryWish 75 = .ok (.iload_n 2, 1) ∧ decode cX7_tryWish 76 = .ok (.invokevirtual 75, 3) ∧ decode cX7_tryWish 79 = .ok (.ifCond .eq 25, 3) ∧ decode cX7_tryWish 82 = .ok (.aload_n 0, 1) ∧ decode cX7_tryWish 83 = .ok (.iload_n 3, 1) ∧ decode cX7_tryWish 84 = .ok (.invokevirtual 75, 3) ∧ decode cX7_tryWish 87 = .ok (.ifCond .eq 17, 3) ∧ decode cX7_tryWish 90 = .ok (.aload_n 0, 1) := by decide +kernel
theorem dX7_tryWish_61 : decode cX7_tryWish 61 = .ok (.iload_n 3, 1) := bdX7_tryWish_61.1
theorem dX7_tryWish_62 : decode cX7_tryWish 62 = .ok (.iload 4, 2) := bdX7_tryWish_61.2.1
theorem dX7_tryWish_64 : decode cX7_tryWish 64 = .ok (.if_icmp .ne 7, 3) := bdX7_tryWish_61.2.2.1
theorem dX7_tryWish_67 : decode cX7_tryWish 67 = .ok (.iconst 1, 1) := bdX7_tryWish_61.2.2.2.1
theorem dX7_tryWish_68 : decode cX7_tryWish 68 = .ok (.goto 4, 3) := bdX7_tryWish_61.2.2.2.2.1
theorem dX7_tryWish_71 : decode cX7_tryWish 71 = .ok (.iconst 0, 1) := bdX7_tryWish_61.2.2.2.2.2.1
theorem dX7_tryWish_72 : decode cX7_tryWish 72 = .ok (.istore 7, 2) := bdX7_tryWish_61.2.2.2.2.2.2.1
theorem dX7_tryWish_74 : decode cX7_tryWish 74 = .ok (.aload_n 0, 1) := bdX7_tryWish_61.2.2.2.2.2.2.2.1
theorem dX7_tryWish_75 : decode cX7_tryWish 75 = .ok (.iload_n 2, 1) := bdX7_tryWish_61.2.2.2.2.2.2.2.2.1
theorem dX7_tryWish_76 : decode cX7_tryWish 76 = .ok (.invokevirtual 75, 3) := bdX7_tryWish_61.2.2.2.2.2.2.2.2.2.1
theorem dX7_tryWish_79 : decode cX7_tryWish 79 = .ok (.ifCond .eq 25, 3) := bdX7_tryWish_61.2.2.2.2.2.2.2.2.2.2.1
theorem dX7_tryWish_82 : decode cX7_tryWish 82 = .ok (.aload_n 0, 1) := bdX7_tryWish_61.2.2.2.2.2.2.2.2.2.2.2.1
theorem dX7_tryWish_83 : decode cX7_tryWish 83 = .ok (.iload_n 3, 1) := bdX7_tryWish_61.2.2.2.2.2.2.2.2.2.2.2.2.1
theorem dX7_tryWish_84 : decode cX7_tryWish 84 = .ok (.invokevirtual 75, 3) := bdX7_tryWish_61.2.2.2.2.2.2.2.2.2.2.2.2.2.1
theorem dX7_tryWish_87 : decode cX7_tryWish 87 = .ok (.ifCond .eq 17, 3) := bdX7_tryWish_61.2.2.2.2.2.2.2.2.2.2.2.2.2.2.1
theorem dX7_tryWish_90 : decode cX7_tryWish 90 = .ok (.aload_n 0, 1) := bdX7_tryWish_61.2.2.2.2.2.2.2.2.2.2.2.2.2.2.2
theorem bdX7_tryWish_91 : decode cX7_tryWish 91 = .ok (.iload 4, 2) ∧ decode cX7_tryWish 93 = .ok (.invokevirtual 75, 3) ∧ decode cX7_tryWish 96 = .ok (.ifCond .eq 8, 3) ∧ decode cX7_tryWish 99 = .ok (.iload 7, 2) ∧ decode cX7_tryWish 101 = .ok (.ifCond .eq 6, 3) ∧ decode cX7_tryWish 104 = .ok (.bipush (-2), 2) ∧ decode cX7_tryWish 106 = .ok (.ireturn, 1) ∧ decode cX7_tryWish 107 = .ok (.aload_n 0, 1) ∧ decode cX7_tryWish 108 = .ok (.iload 5, 2) ∧ decode cX7_tryWish 110 = .ok (.invokevirtual 78, 3) ∧ decode cX7_tryWish 113 = .ok (.aload_n 0, 1) ∧ decode cX7_tryWish 114 = .ok (.iload_n 1, 1) ∧ decode cX7_tryWish 115 = .ok (.iconst 2, 1) ∧ decode cX7_tryWish 116 = .ok (.iload 6, 2) ∧ decode cX7_tryWish 118 = .ok (.invokevirtual 62, 3) ∧ decode cX7_tryWish 121 = .ok (.aload_n 0, 1) := by decide +kernel
theorem dX7_tryWish_91 : decode cX7_tryWish 91 = .ok (.iload 4, 2) := bdX7_tryWish_91.1
theorem dX7_tryWish_93 : decode cX7_tryWish 93 = .ok (.invokevirtual 75, 3) := bdX7_tryWish_91.2.1
theorem dX7_tryWish_96 : decode cX7_tryWish 96 = .ok (.ifCond .eq 8, 3) := bdX7_tryWish_91.2.2.1
theorem dX7_tryWish_99 : decode cX7_tryWish 99 = .ok (.iload 7, 2) := bdX7_tryWish_91.2.2.2.1
theorem dX7_tryWish_101 : decode cX7_tryWish 101 = .ok (.ifCond .eq 6, 3) := bdX7_tryWish_91.2.2.2.2.1
theorem dX7_tryWish_104 : decode cX7_tryWish 104 = .ok (.bipush (-2), 2) := bdX7_tryWish_91.2.2.2.2.2.1
theorem dX7_tryWish_106 : decode cX7_tryWish 106 = .ok (.ireturn, 1) := bdX7_tryWish_91.2.2.2.2.2.2.1
theorem dX7_tryWish_107 : decode cX7_tryWish 107 = .ok (.aload_n 0, 1) := bdX7_tryWish_91.2.2.2.2.2.2.2.1
theorem dX7_tryWish_108 : decode cX7_tryWish 108 = .ok (.iload 5, 2) := bdX7_tryWish_91.2.2.2.2.2.2.2.2.1
theorem dX7_tryWish_110 : decode cX7_tryWish 110 = .ok (.invokevirtual 78, 3) := bdX7_tryWish_91.2.2.2.2.2.2.2.2.2.1
theorem dX7_tryWish_113 : decode cX7_tryWish 113 = .ok (.aload_n 0, 1) := bdX7_tryWish_91.2.2.2.2.2.2.2.2.2.2.1
theorem dX7_tryWish_114 : decode cX7_tryWish 114 = .ok (.iload_n 1, 1) := bdX7_tryWish_91.2.2.2.2.2.2.2.2.2.2.2.1
theorem dX7_tryWish_115 : decode cX7_tryWish 115 = .ok (.iconst 2, 1) := bdX7_tryWish_91.2.2.2.2.2.2.2.2.2.2.2.2.1
theorem dX7_tryWish_116 : decode cX7_tryWish 116 = .ok (.iload 6, 2) := bdX7_tryWish_91.2.2.2.2.2.2.2.2.2.2.2.2.2.1
theorem dX7_tryWish_118 : decode cX7_tryWish 118 = .ok (.invokevirtual 62, 3) := bdX7_tryWish_91.2.2.2.2.2.2.2.2.2.2.2.2.2.2.1
theorem dX7_tryWish_121 : decode cX7_tryWish 121 = .ok (.aload_n 0, 1) := bdX7_tryWish_91.2.2.2.2.2.2.2.2.2.2.2.2.2.2.2
theorem bdX7_tryWish_122 : decode cX7_tryWish 122 = .ok (.iload_n 1, 1) ∧ decode cX7_tryWish 123 = .ok (.iconst 3, 1) ∧ decode cX7_tryWish 124 = .ok (.iload_n 2, 1) ∧ decode cX7_tryWish 125 = .ok (.invokevirtual 62, 3) ∧ decode cX7_tryWish 128 = .ok (.aload_n 0, 1) ∧ decode cX7_tryWish 129 = .ok (.iload_n 1, 1) ∧ decode cX7_tryWish 130 = .ok (.iconst 4, 1) ∧ decode cX7_tryWish 131 = .ok (.iload_n 3, 1) ∧ decode cX7_tryWish 132 = .ok (.invokevirtual 62, 3) ∧ decode cX7_tryWish 135 = .ok (.aload_n 0, 1) ∧ decode cX7_tryWish 136 = .ok (.iload_n 1, 1) ∧ decode cX7_tryWish 137 = .ok (.iconst 5, 1) ∧ decode cX7_tryWish 138 = .ok (.iload 4, 2) ∧ decode cX7_tryWish 140 = .ok (.invokevirtual 62, 3) ∧ decode cX7_tryWish 143 = .ok (.iload 6, 2) ∧ decode cX7_tryWish 145 = .ok (.ireturn, 1) := by decide +kernel
theorem dX7_tryWish_122 : decode cX7_tryWish 122 = .ok (.iload_n 1, 1) := bdX7_tryWish_122.1
theorem dX7_tryWish_123 : decode cX7_tryWish 123 = .ok (.iconst 3, 1) := bdX7_tryWish_122.2.1
theorem dX7_tryWish_124 : decode cX7_tryWish 124 = .ok (.iload_n 2, 1) := bdX7_tryWish_122.2.2.1
theorem dX7_tryWish_125 : decode cX7_tryWish 125 = .ok (.invokevirtual 62, 3) := bdX7_tryWish_122.2.2.2.1
theorem dX7_tryWish_128 : decode cX7_tryWish 128 = .ok (.aload_n 0, 1) := bdX7_tryWish_122.2.2.2.2.1
theorem dX7_tryWish_129 : decode cX7_tryWish 129 = .ok (.iload_n 1, 1) := bdX7_tryWish_122.2.2.2.2.2.1
theorem dX7_tryWish_130 : decode cX7_tryWish 130 = .ok (.iconst 4, 1) := bdX7_tryWish_122.2.2.2.2.2.2.1
theorem dX7_tryWish_131 : decode cX7_tryWish 131 = .ok (.iload_n 3, 1) := bdX7_tryWish_122.2.2.2.2.2.2.2.1
theorem dX7_tryWish_132 : decode cX7_tryWish 132 = .ok (.invokevirtual 62, 3) := bdX7_tryWish_122.2.2.2.2.2.2.2.2.1
theorem dX7_tryWish_135 : decode cX7_tryWish 135 = .ok (.aload_n 0, 1) := bdX7_tryWish_122.2.2.2.2.2.2.2.2.2.1
theorem dX7_tryWish_136 : decode cX7_tryWish 136 = .ok (.iload_n 1, 1) := bdX7_tryWish_122.2.2.2.2.2.2.2.2.2.2.1
theorem dX7_tryWish_137 : decode cX7_tryWish 137 = .ok (.iconst 5, 1) := bdX7_tryWish_122.2.2.2.2.2.2.2.2.2.2.2.1
theorem dX7_tryWish_138 : decode cX7_tryWish 138 = .ok (.iload 4, 2) := bdX7_tryWish_122.2.2.2.2.2.2.2.2.2.2.2.2.1
theorem dX7_tryWish_140 : decode cX7_tryWish 140 = .ok (.invokevirtual 62, 3) := bdX7_tryWish_122.2.2.2.2.2.2.2.2.2.2.2.2.2.1
theorem dX7_tryWish_143 : decode cX7_tryWish 143 = .ok (.iload 6, 2) := bdX7_tryWish_122.2.2.2.2.2.2.2.2.2.2.2.2.2.2.1
theorem dX7_tryWish_145 : decode cX7_tryWish 145 = .ok (.ireturn, 1) := bdX7_tryWish_122.2.2.2.2.2.2.2.2.2.2.2.2.2.2.2
theorem bdX7_wish_0 : decode cX7_wish 0 = .ok (.aload_n 0, 1) ∧ decode cX7_wish 1 = .ok (.iload_n 1, 1) ∧ decode cX7_wish 2 = .ok (.iload_n 2, 1) ∧ decode cX7_wish 3 = .ok (.iload_n 3, 1) ∧ decode cX7_wish 4 = .ok (.iload 4, 2) ∧ decode cX7_wish 6 = .ok (.iconst 1, 1) ∧ decode cX7_wish 7 = .ok (.invokevirtual 82, 3) ∧ decode cX7_wish 10 = .ok (.ireturn, 1) := by decide +kernel
theorem dX7_wish_0 : decode cX7_wish 0 = .ok (.aload_n 0, 1) := bdX7_wish_0.1
theorem dX7_wish_1 : decode cX7_wish 1 = .ok (.iload_n 1, 1) := bdX7_wish_0.2.1
theorem dX7_wish_2 : decode cX7_wish 2 = .ok (.iload_n 2, 1) := bdX7_wish_0.2.2.1
theorem dX7_wish_3 : decode cX7_wish 3 = .ok (.iload_n 3, 1) := bdX7_wish_0.2.2.2.1
theorem dX7_wish_4 : decode cX7_wish 4 = .ok (.iload 4, 2) := bdX7_wish_0.2.2.2.2.1
theorem dX7_wish_6 : decode cX7_wish 6 = .ok (.iconst 1, 1) := bdX7_wish_0.2.2.2.2.2.1
theorem dX7_wish_7 : decode cX7_wish 7 = .ok (.invokevirtual 82, 3) := bdX7_wish_0.2.2.2.2.2.2.1
theorem dX7_wish_10 : decode cX7_wish 10 = .ok (.ireturn, 1) := bdX7_wish_0.2.2.2.2.2.2.2
theorem bdX7_tryFine_0 : decode cX7_tryFine 0 = .ok (.aload_n 0, 1) ∧ decode cX7_tryFine 1 = .ok (.iload_n 1, 1) ∧ decode cX7_tryFine 2 = .ok (.invokevirtual 72, 3) ∧ decode cX7_tryFine 5 = .ok (.ifCond .ne 5, 3) ∧ decode cX7_tryFine 8 = .ok (.iconst (-1), 1) ∧ decode cX7_tryFine 9 = .ok (.ireturn, 1) ∧ decode cX7_tryFine 10 = .ok (.iload_n 2, 1) ∧ decode cX7_tryFine 11 = .ok (.iconst 1, 1) ∧ decode cX7_tryFine 12 = .ok (.bipush 9, 2) ∧ decode cX7_tryFine 14 = .ok (.invokestatic 35, 3) ∧ decode cX7_tryFine 17 = .ok (.ifCond .ne 6, 3) ∧ decode cX7_tryFine 20 = .ok (.bipush (-2), 2) ∧ decode cX7_tryFine 22 = .ok (.ireturn, 1) ∧ decode cX7_tryFine 23 = .ok (.aload_n 0, 1) ∧ decode cX7_tryFine 24 = .ok (.iload_n 3, 1) ∧ decode cX7_tryFine 25 = .ok (.invokevirtual 78, 3) := by decide +kernel
theorem dX7_tryFine_0 : decode cX7_tryFine 0 = .ok (.aload_n 0, 1) := bdX7_tryFine_0.1
theorem dX7_tryFine_1 : decode cX7_tryFine 1 = .ok (.iload_n 1, 1) := bdX7_tryFine_0.2.1
theorem dX7_tryFine_2 : decode cX7_tryFine 2 = .ok (.invokevirtual 72, 3) := bdX7_tryFine_0.2.2.1
theorem dX7_tryFine_5 : decode cX7_tryFine 5 = .ok (.ifCond .ne 5, 3) := bdX7_tryFine_0.2.2.2.1
theorem dX7_tryFine_8 : decode cX7_tryFine 8 = .ok (.iconst (-1), 1) := bdX7_tryFine_0.2.2.2.2.1
theorem dX7_tryFine_9 : decode cX7_tryFine 9 = .ok (.ireturn, 1) := bdX7_tryFine_0.2.2.2.2.2.1
theorem dX7_tryFine_10 : decode cX7_tryFine 10 = .ok (.iload_n 2, 1) := bdX7_tryFine_0.2.2.2.2.2.2.1
theorem dX7_tryFine_11 : decode cX7_tryFine 11 = .ok (.iconst 1, 1) := bdX7_tryFine_0.2.2.2.2.2.2.2.1
theorem dX7_tryFine_12 : decode cX7_tryFine 12 = .ok (.bipush 9, 2) := bdX7_tryFine_0.2.2.2.2.2.2.2.2.1
theorem dX7_tryFine_14 : decode cX7_tryFine 14 = .ok (.invokestatic 35, 3) := bdX7_tryFine_0.2.2.2.2.2.2.2.2.2.1
theorem dX7_tryFine_17 : decode cX7_tryFine 17 = .ok (.ifCond .ne 6, 3) := bdX7_tryFine_0.2.2.2.2.2.2.2.2.2.2.1
theorem dX7_tryFine_20 : decode cX7_tryFine 20 = .ok (.bipush (-2), 2) := bdX7_tryFine_0.2.2.2.2.2.2.2.2.2.2.2.1
theorem dX7_tryFine_22 : decode cX7_tryFine 22 = .ok (.ireturn, 1) := bdX7_tryFine_0.2.2.2.2.2.2.2.2.2.2.2.2.1
theorem dX7_tryFine_23 : decode cX7_tryFine 23 = .ok (.aload_n 0, 1) := bdX7_tryFine_0.2.2.2.2.2.2.2.2.2.2.2.2.2.1
theorem dX7_tryFine_24 : decode cX7_tryFine 24 = .ok (.iload_n 3, 1) := bdX7_tryFine_0.2.2.2.2.2.2.2.2.2.2.2.2.2.2.1
theorem dX7_tryFine_25 : decode cX7_tryFine 25 = .ok (.invokevirtual 78, 3) := bdX7_tryFine_0.2.2.2.2.2.2.2.2.2.2.2.2.2.2.2
theorem bdX7_tryFine_28 : decode cX7_tryFine 28 = .ok (.aload_n 0, 1) ∧ decode cX7_tryFine 29 = .ok (.iload_n 1, 1) ∧ decode cX7_tryFine 30 = .ok (.iload_n 2, 1) ∧ decode cX7_tryFine 31 = .ok (.invokevirtual 86, 3) ∧ decode cX7_tryFine 34 = .ok (.aload_n 0, 1) ∧ decode cX7_tryFine 35 = .ok (.iload_n 1, 1) ∧ decode cX7_tryFine 36 = .ok (.aload_n 0, 1) ∧ decode cX7_tryFine 37 = .ok (.getfield 7, 3) ∧ decode cX7_tryFine 40 = .ok (.bipush 10, 2) ∧ decode cX7_tryFine 42 = .ok (.iaload, 1) ∧ decode cX7_tryFine 43 = .ok (.invokevirtual 69, 3) ∧ decode cX7_tryFine 46 = .ok (.ireturn, 1) := by decide +kernel
theorem dX7_tryFine_28 : decode cX7_tryFine 28 = .ok (.aload_n 0, 1) := bdX7_tryFine_28.1
theorem dX7_tryFine_29 : decode cX7_tryFine 29 = .ok (.iload_n 1, 1) := bdX7_tryFine_28.2.1
theorem dX7_tryFine_30 : decode cX7_tryFine 30 = .ok (.iload_n 2, 1) := bdX7_tryFine_28.2.2.1
theorem dX7_tryFine_31 : decode cX7_tryFine 31 = .ok (.invokevirtual 86, 3) := bdX7_tryFine_28.2.2.2.1
theorem dX7_tryFine_34 : decode cX7_tryFine 34 = .ok (.aload_n 0, 1) := bdX7_tryFine_28.2.2.2.2.1
theorem dX7_tryFine_35 : decode cX7_tryFine 35 = .ok (.iload_n 1, 1) := bdX7_tryFine_28.2.2.2.2.2.1
theorem dX7_tryFine_36 : decode cX7_tryFine 36 = .ok (.aload_n 0, 1) := bdX7_tryFine_28.2.2.2.2.2.2.1
theorem dX7_tryFine_37 : decode cX7_tryFine 37 = .ok (.getfield 7, 3) := bdX7_tryFine_28.2.2.2.2.2.2.2.1
theorem dX7_tryFine_40 : decode cX7_tryFine 40 = .ok (.bipush 10, 2) := bdX7_tryFine_28.2.2.2.2.2.2.2.2.1
theorem dX7_tryFine_42 : decode cX7_tryFine 42 = .ok (.iaload, 1) := bdX7_tryFine_28.2.2.2.2.2.2.2.2.2.1
theorem dX7_tryFine_43 : decode cX7_tryFine 43 = .ok (.invokevirtual 69, 3) := bdX7_tryFine_28.2.2.2.2.2.2.2.2.2.2.1
theorem dX7_tryFine_46 : decode cX7_tryFine 46 = .ok (.ireturn, 1) := bdX7_tryFine_28.2.2.2.2.2.2.2.2.2.2.2
theorem bdX7_fine_0 : decode cX7_fine 0 = .ok (.aload_n 0, 1) ∧ decode cX7_fine 1 = .ok (.iload_n 1, 1) ∧ decode cX7_fine 2 = .ok (.iload_n 2, 1) ∧ decode cX7_fine 3 = .ok (.iconst 1, 1) ∧ decode cX7_fine 4 = .ok (.invokevirtual 90, 3) ∧ decode cX7_fine 7 = .ok (.ireturn, 1) := by decide +kernel
theorem dX7_fine_0 : decode cX7_fine 0 = .ok (.aload_n 0, 1) := bdX7_fine_0.1
theorem dX7_fine_1 : decode cX7_fine 1 = .ok (.iload_n 1, 1) := bdX7_fine_0.2.1
theorem dX7_fine_2 : decode cX7_fine 2 = .ok (.iload_n 2, 1) := bdX7_fine_0.2.2.1
theorem dX7_fine_3 : decode cX7_fine 3 = .ok (.iconst 1, 1) := bdX7_fine_0.2.2.2.1
theorem dX7_fine_4 : decode cX7_fine 4 = .ok (.invokevirtual 90, 3) := bdX7_fine_0.2.2.2.2.1
theorem dX7_fine_7 : decode cX7_fine 7 = .ok (.ireturn, 1) := bdX7_fine_0.2.2.2.2.2
theorem bdX7_waiting_0 : decode cX7_waiting 0 = .ok (.iconst 0, 1) ∧ decode cX7_waiting 1 = .ok (.istore_n 1, 1) ∧ decode cX7_waiting 2 = .ok (.iconst 0, 1) ∧ decode cX7_waiting 3 = .ok (.istore_n 2, 1) ∧ decode cX7_waiting 4 = .ok (.iload_n 2, 1) ∧ decode cX7_waiting 5 = .ok (.aload_n 0, 1) ∧ decode cX7_waiting 6 = .ok (.getfield 7, 3) ∧ decode cX7_waiting 9 = .ok (.bipush 13, 2) ∧ decode cX7_waiting 11 = .ok (.iaload, 1) ∧ decode cX7_waiting 12 = .ok (.if_icmp .ge 19, 3) ∧ decode cX7_waiting 15 = .ok (.iload_n 1, 1) ∧ decode cX7_waiting 16 = .ok (.aload_n 0, 1) ∧ decode cX7_waiting 17 = .ok (.iload_n 2, 1) ∧ decode cX7_waiting 18 = .ok (.bipush 8, 2) ∧ decode cX7_waiting 20 = .ok (.invokevirtual 66, 3) ∧ decode cX7_waiting 23 = .ok (.iadd, 1) := by decide +kernel
theorem dX7_waiting_0 : decode cX7_waiting 0 = .ok (.iconst 0, 1) := bdX7_waiting_0.1
theorem dX7_waiting_1 : decode cX7_waiting 1 = .ok (.istore_n 1, 1) := bdX7_waiting_0.2.1
theorem dX7_waiting_2 : decode cX7_waiting 2 = .ok (.iconst 0, 1) := bdX7_waiting_0.2.2.1
theorem dX7_waiting_3 : decode cX7_waiting 3 = .ok (.istore_n 2, 1) := bdX7_waiting_0.2.2.2.1
theorem dX7_waiting_4 : decode cX7_waiting 4 = .ok (.iload_n 2, 1) := bdX7_waiting_0.2.2.2.2.1
theorem dX7_waiting_5 : decode cX7_waiting 5 = .ok (.aload_n 0, 1) := bdX7_waiting_0.2.2.2.2.2.1
theorem dX7_waiting_6 : decode cX7_waiting 6 = .ok (.getfield 7, 3) := bdX7_waiting_0.2.2.2.2.2.2.1
theorem dX7_waiting_9 : decode cX7_waiting 9 = .ok (.bipush 13, 2) := bdX7_waiting_0.2.2.2.2.2.2.2.1
theorem dX7_waiting_11 : decode cX7_waiting 11 = .ok (.iaload, 1) := bdX7_waiting_0.2.2.2.2.2.2.2.2.1
theorem dX7_waiting_12 : decode cX7_waiting 12 = .ok (.if_icmp .ge 19, 3) := bdX7_waiting_0.2.2.2.2.2.2.2.2.2.1
theorem dX7_waiting_15 : decode cX7_waiting 15 = .ok (.iload_n 1, 1) := bdX7_waiting_0.2.2.2.2.2.2.2.2.2.2.1
theorem dX7_waiting_16 : decode cX7_waiting 16 = .ok (.aload_n 0, 1) := bdX7_waiting_0.2.2.2.2.2.2.2.2.2.2.2.1
theorem dX7_waiting_17 : decode cX7_waiting 17 = .ok (.iload_n 2, 1) := bdX7_waiting_0.2.2.2.2.2.2.2.2.2.2.2.2.1
theorem dX7_waiting_18 : decode cX7_waiting 18 = .ok (.bipush 8, 2) := bdX7_waiting_0.2.2.2.2.2.2.2.2.2.2.2.2.2.1
theorem dX7_waiting_20 : decode cX7_waiting 20 = .ok (.invokevirtual 66, 3) := bdX7_waiting_0.2.2.2.2.2.2.2.2.2.2.2.2.2.2.1
theorem dX7_waiting_23 : decode cX7_waiting 23 = .ok (.iadd, 1) := bdX7_waiting_0.2.2.2.2.2.2.2.2.2.2.2.2.2.2.2
theorem bdX7_waiting_24 : decode cX7_waiting 24 = .ok (.istore_n 1, 1) ∧ decode cX7_waiting 25 = .ok (.iinc 2 1, 3) ∧ decode cX7_waiting 28 = .ok (.goto (-24), 3) ∧ decode cX7_waiting 31 = .ok (.iload_n 1, 1) ∧ decode cX7_waiting 32 = .ok (.ireturn, 1) := by decide +kernel
theorem dX7_waiting_24 : decode cX7_waiting 24 = .ok (.istore_n 1, 1) := bdX7_waiting_24.1
theorem dX7_waiting_25 : decode cX7_waiting 25 = .ok (.iinc 2 1, 3) := bdX7_waiting_24.2.1
theorem dX7_waiting_28 : decode cX7_waiting 28 = .ok (.goto (-24), 3) := bdX7_waiting_24.2.2.1
theorem dX7_waiting_31 : decode cX7_waiting 31 = .ok (.iload_n 1, 1) := bdX7_waiting_24.2.2.2.1
theorem dX7_waiting_32 : decode cX7_waiting 32 = .ok (.ireturn, 1) := bdX7_waiting_24.2.2.2.2
theorem bdX7_tryCheck_0 : decode cX7_tryCheck 0 = .ok (.aload_n 0, 1) ∧ decode cX7_tryCheck 1 = .ok (.iload_n 1, 1) ∧ decode cX7_tryCheck 2 = .ok (.invokevirtual 72, 3) ∧ decode cX7_tryCheck 5 = .ok (.ifCond .ne 5, 3) ∧ decode cX7_tryCheck 8 = .ok (.iconst (-1), 1) ∧ decode cX7_tryCheck 9 = .ok (.ireturn, 1) ∧ decode cX7_tryCheck 10 = .ok (.aload_n 0, 1) ∧ decode cX7_tryCheck 11 = .ok (.iload_n 1, 1) ∧ decode cX7_tryCheck 12 = .ok (.bipush 8, 2) ∧ decode cX7_tryCheck 14 = .ok (.invokevirtual 66, 3) ∧ decode cX7_tryCheck 17 = .ok (.iconst 1, 1) ∧ decode cX7_tryCheck 18 = .ok (.if_icmp .ne 6, 3) ∧ decode cX7_tryCheck 21 = .ok (.bipush (-5), 2) ∧ decode cX7_tryCheck 23 = .ok (.ireturn, 1) ∧ decode cX7_tryCheck 24 = .ok (.aload_n 0, 1) ∧ decode cX7_tryCheck 25 = .ok (.iload_n 2, 1) := by decide +kernel
theorem dX7_tryCheck_0 : decode cX7_tryCheck 0 = .ok (.aload_n 0, 1) := bdX7_tryCheck_0.1
theorem dX7_tryCheck_1 : decode cX7_tryCheck 1 = .ok (.iload_n 1, 1) := bdX7_tryCheck_0.2.1
theorem dX7_tryCheck_2 : decode cX7_tryCheck 2 = .ok (.invokevirtual 72, 3) := bdX7_tryCheck_0.2.2.1
theorem dX7_tryCheck_5 : decode cX7_tryCheck 5 = .ok (.ifCond .ne 5, 3) := bdX7_tryCheck_0.2.2.2.1
theorem dX7_tryCheck_8 : decode cX7_tryCheck 8 = .ok (.iconst (-1), 1) := bdX7_tryCheck_0.2.2.2.2.1
theorem dX7_tryCheck_9 : decode cX7_tryCheck 9 = .ok (.ireturn, 1) := bdX7_tryCheck_0.2.2.2.2.2.1
theorem dX7_tryCheck_10 : decode cX7_tryCheck 10 = .ok (.aload_n 0, 1) := bdX7_tryCheck_0.2.2.2.2.2.2.1
theorem dX7_tryCheck_11 : decode cX7_tryCheck 11 = .ok (.iload_n 1, 1) := bdX7_tryCheck_0.2.2.2.2.2.2.2.1
theorem dX7_tryCheck_12 : decode cX7_tryCheck 12 = .ok (.bipush 8, 2) := bdX7_tryCheck_0.2.2.2.2.2.2.2.2.1
theorem dX7_tryCheck_14 : decode cX7_tryCheck 14 = .ok (.invokevirtual 66, 3) := bdX7_tryCheck_0.2.2.2.2.2.2.2.2.2.1
theorem dX7_tryCheck_17 : decode cX7_tryCheck 17 = .ok (.iconst 1, 1) := bdX7_tryCheck_0.2.2.2.2.2.2.2.2.2.2.1
theorem dX7_tryCheck_18 : decode cX7_tryCheck 18 = .ok (.if_icmp .ne 6, 3) := bdX7_tryCheck_0.2.2.2.2.2.2.2.2.2.2.2.1
theorem dX7_tryCheck_21 : decode cX7_tryCheck 21 = .ok (.bipush (-5), 2) := bdX7_tryCheck_0.2.2.2.2.2.2.2.2.2.2.2.2.1
theorem dX7_tryCheck_23 : decode cX7_tryCheck 23 = .ok (.ireturn, 1) := bdX7_tryCheck_0.2.2.2.2.2.2.2.2.2.2.2.2.2.1
theorem dX7_tryCheck_24 : decode cX7_tryCheck 24 = .ok (.aload_n 0, 1) := bdX7_tryCheck_0.2.2.2.2.2.2.2.2.2.2.2.2.2.2.1
theorem dX7_tryCheck_25 : decode cX7_tryCheck 25 = .ok (.iload_n 2, 1) := bdX7_tryCheck_0.2.2.2.2.2.2.2.2.2.2.2.2.2.2.2
theorem bdX7_tryCheck_26 : decode cX7_tryCheck 26 = .ok (.invokevirtual 78, 3) ∧ decode cX7_tryCheck 29 = .ok (.aload_n 0, 1) ∧ decode cX7_tryCheck 30 = .ok (.iload_n 1, 1) ∧ decode cX7_tryCheck 31 = .ok (.bipush 8, 2) ∧ decode cX7_tryCheck 33 = .ok (.iconst 1, 1) ∧ decode cX7_tryCheck 34 = .ok (.invokevirtual 62, 3) ∧ decode cX7_tryCheck 37 = .ok (.aload_n 0, 1) ∧ decode cX7_tryCheck 38 = .ok (.invokevirtual 94, 3) ∧ decode cX7_tryCheck 41 = .ok (.ireturn, 1) := by decide +kernel
theorem dX7_tryCheck_26 : decode cX7_tryCheck 26 = .ok (.invokevirtual 78, 3) := bdX7_tryCheck_26.1
theorem dX7_tryCheck_29 : decode cX7_tryCheck 29 = .ok (.aload_n 0, 1) := bdX7_tryCheck_26.2.1
theorem dX7_tryCheck_30 : decode cX7_tryCheck 30 = .ok (.iload_n 1, 1) := bdX7_tryCheck_26.2.2.1
theorem dX7_tryCheck_31 : decode cX7_tryCheck 31 = .ok (.bipush 8, 2) := bdX7_tryCheck_26.2.2.2.1
theorem dX7_tryCheck_33 : decode cX7_tryCheck 33 = .ok (.iconst 1, 1) := bdX7_tryCheck_26.2.2.2.2.1
theorem dX7_tryCheck_34 : decode cX7_tryCheck 34 = .ok (.invokevirtual 62, 3) := bdX7_tryCheck_26.2.2.2.2.2.1
theorem dX7_tryCheck_37 : decode cX7_tryCheck 37 = .ok (.aload_n 0, 1) := bdX7_tryCheck_26.2.2.2.2.2.2.1
theorem dX7_tryCheck_38 : decode cX7_tryCheck 38 = .ok (.invokevirtual 94, 3) := bdX7_tryCheck_26.2.2.2.2.2.2.2.1
theorem dX7_tryCheck_41 : decode cX7_tryCheck 41 = .ok (.ireturn, 1) := bdX7_tryCheck_26.2.2.2.2.2.2.2.2
theorem bdX7_check_0 : decode cX7_check 0 = .ok (.aload_n 0, 1) ∧ decode cX7_check 1 = .ok (.iload_n 1, 1) ∧ decode cX7_check 2 = .ok (.iconst 1, 1) ∧ decode cX7_check 3 = .ok (.invokevirtual 98, 3) ∧ decode cX7_check 6 = .ok (.ireturn, 1) := by decide +kernel
theorem dX7_check_0 : decode cX7_check 0 = .ok (.aload_n 0, 1) := bdX7_check_0.1
theorem dX7_check_1 : decode cX7_check 1 = .ok (.iload_n 1, 1) := bdX7_check_0.2.1
theorem dX7_check_2 : decode cX7_check 2 = .ok (.iconst 1, 1) := bdX7_check_0.2.2.1
theorem dX7_check_3 : decode cX7_check 3 = .ok (.invokevirtual 98, 3) := bdX7_check_0.2.2.2.1
theorem dX7_check_6 : decode cX7_check 6 = .ok (.ireturn, 1) := bdX7_check_0.2.2.2.2
theorem bdX7_trySwap_0 : decode cX7_trySwap 0 = .ok (.aload_n 0, 1) ∧ decode cX7_trySwap 1 = .ok (.iload_n 1, 1) ∧ decode cX7_trySwap 2 = .ok (.invokevirtual 72, 3) ∧ decode cX7_trySwap 5 = .ok (.ifCond .eq 16, 3) ∧ decode cX7_trySwap 8 = .ok (.aload_n 0, 1) ∧ decode cX7_trySwap 9 = .ok (.iload_n 2, 1) ∧ decode cX7_trySwap 10 = .ok (.invokevirtual 72, 3) ∧ decode cX7_trySwap 13 = .ok (.ifCond .eq 8, 3) ∧ decode cX7_trySwap 16 = .ok (.iload_n 1, 1) ∧ decode cX7_trySwap 17 = .ok (.iload_n 2, 1) ∧ decode cX7_trySwap 18 = .ok (.if_icmp .ne 5, 3) ∧ decode cX7_trySwap 21 = .ok (.iconst (-1), 1) ∧ decode cX7_trySwap 22 = .ok (.ireturn, 1) ∧ decode cX7_trySwap 23 = .ok (.aload_n 0, 1) ∧ decode cX7_trySwap 24 = .ok (.getfield 7, 3) ∧ decode cX7_trySwap 27 = .ok (.bipush 14, 2) := by decide +kernel
theorem dX7_trySwap_0 : decode cX7_trySwap 0 = .ok (.aload_n 0, 1) := bdX7_trySwap_0.1
theorem dX7_trySwap_1 : decode cX7_trySwap 1 = .ok (.iload_n 1, 1) := bdX7_trySwap_0.2.1
theorem dX7_trySwap_2 : decode cX7_trySwap 2 = .ok (.invokevirtual 72, 3) := bdX7_trySwap_0.2.2.1
theorem dX7_trySwap_5 : decode cX7_trySwap 5 = .ok (.ifCond .eq 16, 3) := bdX7_trySwap_0.2.2.2.1
theorem dX7_trySwap_8 : decode cX7_trySwap 8 = .ok (.aload_n 0, 1) := bdX7_trySwap_0.2.2.2.2.1
theorem dX7_trySwap_9 : decode cX7_trySwap 9 = .ok (.iload_n 2, 1) := bdX7_trySwap_0.2.2.2.2.2.1
theorem dX7_trySwap_10 : decode cX7_trySwap 10 = .ok (.invokevirtual 72, 3) := bdX7_trySwap_0.2.2.2.2.2.2.1
theorem dX7_trySwap_13 : decode cX7_trySwap 13 = .ok (.ifCond .eq 8, 3) := bdX7_trySwap_0.2.2.2.2.2.2.2.1
theorem dX7_trySwap_16 : decode cX7_trySwap 16 = .ok (.iload_n 1, 1) := bdX7_trySwap_0.2.2.2.2.2.2.2.2.1
theorem dX7_trySwap_17 : decode cX7_trySwap 17 = .ok (.iload_n 2, 1) := bdX7_trySwap_0.2.2.2.2.2.2.2.2.2.1
theorem dX7_trySwap_18 : decode cX7_trySwap 18 = .ok (.if_icmp .ne 5, 3) := bdX7_trySwap_0.2.2.2.2.2.2.2.2.2.2.1
theorem dX7_trySwap_21 : decode cX7_trySwap 21 = .ok (.iconst (-1), 1) := bdX7_trySwap_0.2.2.2.2.2.2.2.2.2.2.2.1
theorem dX7_trySwap_22 : decode cX7_trySwap 22 = .ok (.ireturn, 1) := bdX7_trySwap_0.2.2.2.2.2.2.2.2.2.2.2.2.1
theorem dX7_trySwap_23 : decode cX7_trySwap 23 = .ok (.aload_n 0, 1) := bdX7_trySwap_0.2.2.2.2.2.2.2.2.2.2.2.2.2.1
theorem dX7_trySwap_24 : decode cX7_trySwap 24 = .ok (.getfield 7, 3) := bdX7_trySwap_0.2.2.2.2.2.2.2.2.2.2.2.2.2.2.1
theorem dX7_trySwap_27 : decode cX7_trySwap 27 = .ok (.bipush 14, 2) := bdX7_trySwap_0.2.2.2.2.2.2.2.2.2.2.2.2.2.2.2
theorem bdX7_trySwap_29 : decode cX7_trySwap 29 = .ok (.iaload, 1) ∧ decode cX7_trySwap 30 = .ok (.bipush 8, 2) ∧ decode cX7_trySwap 32 = .ok (.if_icmp .ne 6, 3) ∧ decode cX7_trySwap 35 = .ok (.bipush (-4), 2) ∧ decode cX7_trySwap 37 = .ok (.ireturn, 1) ∧ decode cX7_trySwap 38 = .ok (.aload_n 0, 1) ∧ decode cX7_trySwap 39 = .ok (.iload_n 3, 1) ∧ decode cX7_trySwap 40 = .ok (.invokevirtual 78, 3) ∧ decode cX7_trySwap 43 = .ok (.aload_n 0, 1) ∧ decode cX7_trySwap 44 = .ok (.getfield 7, 3) ∧ decode cX7_trySwap 47 = .ok (.bipush 16, 2) ∧ decode cX7_trySwap 49 = .ok (.iconst 2, 1) ∧ decode cX7_trySwap 50 = .ok (.aload_n 0, 1) ∧ decode cX7_trySwap 51 = .ok (.getfield 7, 3) ∧ decode cX7_trySwap 54 = .ok (.bipush 14, 2) ∧ decode cX7_trySwap 56 = .ok (.iaload, 1) := by decide +kernel
theorem dX7_trySwap_29 : decode cX7_trySwap 29 = .ok (.iaload, 1) := bdX7_trySwap_29.1
theorem dX7_trySwap_30 : decode cX7_trySwap 30 = .ok (.bipush 8, 2) := bdX7_trySwap_29.2.1
theorem dX7_trySwap_32 : decode cX7_trySwap 32 = .ok (.if_icmp .ne 6, 3) := bdX7_trySwap_29.2.2.1
theorem dX7_trySwap_35 : decode cX7_trySwap 35 = .ok (.bipush (-4), 2) := bdX7_trySwap_29.2.2.2.1
theorem dX7_trySwap_37 : decode cX7_trySwap 37 = .ok (.ireturn, 1) := bdX7_trySwap_29.2.2.2.2.1
theorem dX7_trySwap_38 : decode cX7_trySwap 38 = .ok (.aload_n 0, 1) := bdX7_trySwap_29.2.2.2.2.2.1
theorem dX7_trySwap_39 : decode cX7_trySwap 39 = .ok (.iload_n 3, 1) := bdX7_trySwap_29.2.2.2.2.2.2.1
theorem dX7_trySwap_40 : decode cX7_trySwap 40 = .ok (.invokevirtual 78, 3) := bdX7_trySwap_29.2.2.2.2.2.2.2.1
theorem dX7_trySwap_43 : decode cX7_trySwap 43 = .ok (.aload_n 0, 1) := bdX7_trySwap_29.2.2.2.2.2.2.2.2.1
theorem dX7_trySwap_44 : decode cX7_trySwap 44 = .ok (.getfield 7, 3) := bdX7_trySwap_29.2.2.2.2.2.2.2.2.2.1
theorem dX7_trySwap_47 : decode cX7_trySwap 47 = .ok (.bipush 16, 2) := bdX7_trySwap_29.2.2.2.2.2.2.2.2.2.2.1
theorem dX7_trySwap_49 : decode cX7_trySwap 49 = .ok (.iconst 2, 1) := bdX7_trySwap_29.2.2.2.2.2.2.2.2.2.2.2.1
theorem dX7_trySwap_50 : decode cX7_trySwap 50 = .ok (.aload_n 0, 1) := bdX7_trySwap_29.2.2.2.2.2.2.2.2.2.2.2.2.1
theorem dX7_trySwap_51 : decode cX7_trySwap 51 = .ok (.getfield 7, 3) := bdX7_trySwap_29.2.2.2.2.2.2.2.2.2.2.2.2.2.1
theorem dX7_trySwap_54 : decode cX7_trySwap 54 = .ok (.bipush 14, 2) := bdX7_trySwap_29.2.2.2.2.2.2.2.2.2.2.2.2.2.2.1
theorem dX7_trySwap_56 : decode cX7_trySwap 56 = .ok (.iaload, 1) := bdX7_trySwap_29.2.2.2.2.2.2.2.2.2.2.2.2.2.2.2
theorem bdX7_trySwap_57 : decode cX7_trySwap 57 = .ok (.imul, 1) ∧ decode cX7_trySwap 58 = .ok (.iadd, 1) ∧ decode cX7_trySwap 59 = .ok (.iload_n 1, 1) ∧ decode cX7_trySwap 60 = .ok (.iastore, 1) ∧ decode cX7_trySwap 61 = .ok (.aload_n 0, 1) ∧ decode cX7_trySwap 62 = .ok (.getfield 7, 3) ∧ decode cX7_trySwap 65 = .ok (.bipush 16, 2) ∧ decode cX7_trySwap 67 = .ok (.iconst 2, 1) ∧ decode cX7_trySwap 68 = .ok (.aload_n 0, 1) ∧ decode cX7_trySwap 69 = .ok (.getfield 7, 3) ∧ decode cX7_trySwap 72 = .ok (.bipush 14, 2) ∧ decode cX7_trySwap 74 = .ok (.iaload, 1) ∧ decode cX7_trySwap 75 = .ok (.imul, 1) ∧ decode cX7_trySwap 76 = .ok (.iadd, 1) ∧ decode cX7_trySwap 77 = .ok (.iconst 1, 1) ∧ decode cX7_trySwap 78 = .ok (.iadd, 1) := by decide +kernel
theorem dX7_trySwap_57 : decode cX7_trySwap 57 = .ok (.imul, 1) := bdX7_trySwap_57.1
theorem dX7_trySwap_58 : decode cX7_trySwap 58 = .ok (.iadd, 1) := bdX7_trySwap_57.2.1
theorem dX7_trySwap_59 : decode cX7_trySwap 59 = .ok (.iload_n 1, 1) := bdX7_trySwap_57.2.2.1
theorem dX7_trySwap_60 : decode cX7_trySwap 60 = .ok (.iastore, 1) := bdX7_trySwap_57.2.2.2.1
theorem dX7_trySwap_61 : decode cX7_trySwap 61 = .ok (.aload_n 0, 1) := bdX7_trySwap_57.2.2.2.2.1
theorem dX7_trySwap_62 : decode cX7_trySwap 62 = .ok (.getfield 7, 3) := bdX7_trySwap_57.2.2.2.2.2.1
theorem dX7_trySwap_65 : decode cX7_trySwap 65 = .ok (.bipush 16, 2) := bdX7_trySwap_57.2.2.2.2.2.2.1
theorem dX7_trySwap_67 : decode cX7_trySwap 67 = .ok (.iconst 2, 1) := bdX7_trySwap_57.2.2.2.2.2.2.2.1
theorem dX7_trySwap_68 : decode cX7_trySwap 68 = .ok (.aload_n 0, 1) := bdX7_trySwap_57.2.2.2.2.2.2.2.2.1
theorem dX7_trySwap_69 : decode cX7_trySwap 69 = .ok (.getfield 7, 3) := bdX7_trySwap_57.2.2.2.2.2.2.2.2.2.1
theorem dX7_trySwap_72 : decode cX7_trySwap 72 = .ok (.bipush 14, 2) := bdX7_trySwap_57.2.2.2.2.2.2.2.2.2.2.1
theorem dX7_trySwap_74 : decode cX7_trySwap 74 = .ok (.iaload, 1) := bdX7_trySwap_57.2.2.2.2.2.2.2.2.2.2.2.1
theorem dX7_trySwap_75 : decode cX7_trySwap 75 = .ok (.imul, 1) := bdX7_trySwap_57.2.2.2.2.2.2.2.2.2.2.2.2.1
theorem dX7_trySwap_76 : decode cX7_trySwap 76 = .ok (.iadd, 1) := bdX7_trySwap_57.2.2.2.2.2.2.2.2.2.2.2.2.2.1
theorem dX7_trySwap_77 : decode cX7_trySwap 77 = .ok (.iconst 1, 1) := bdX7_trySwap_57.2.2.2.2.2.2.2.2.2.2.2.2.2.2.1
theorem dX7_trySwap_78 : decode cX7_trySwap 78 = .ok (.iadd, 1) := bdX7_trySwap_57.2.2.2.2.2.2.2.2.2.2.2.2.2.2.2
theorem bdX7_trySwap_79 : decode cX7_trySwap 79 = .ok (.iload_n 2, 1) ∧ decode cX7_trySwap 80 = .ok (.iastore, 1) ∧ decode cX7_trySwap 81 = .ok (.aload_n 0, 1) ∧ decode cX7_trySwap 82 = .ok (.getfield 7, 3) ∧ decode cX7_trySwap 85 = .ok (.bipush 14, 2) ∧ decode cX7_trySwap 87 = .ok (.dup2, 1) ∧ decode cX7_trySwap 88 = .ok (.iaload, 1) ∧ decode cX7_trySwap 89 = .ok (.iconst 1, 1) ∧ decode cX7_trySwap 90 = .ok (.iadd, 1) ∧ decode cX7_trySwap 91 = .ok (.iastore, 1) ∧ decode cX7_trySwap 92 = .ok (.aload_n 0, 1) ∧ decode cX7_trySwap 93 = .ok (.getfield 7, 3) ∧ decode cX7_trySwap 96 = .ok (.bipush 14, 2) ∧ decode cX7_trySwap 98 = .ok (.iaload, 1) ∧ decode cX7_trySwap 99 = .ok (.ireturn, 1) := by decide +kernel
theorem dX7_trySwap_79 : decode cX7_trySwap 79 = .ok (.iload_n 2, 1) := bdX7_trySwap_79.1
theorem dX7_trySwap_80 : decode cX7_trySwap 80 = .ok (.iastore, 1) := bdX7_trySwap_79.2.1
theorem dX7_trySwap_81 : decode cX7_trySwap 81 = .ok (.aload_n 0, 1) := bdX7_trySwap_79.2.2.1
theorem dX7_trySwap_82 : decode cX7_trySwap 82 = .ok (.getfield 7, 3) := bdX7_trySwap_79.2.2.2.1
theorem dX7_trySwap_85 : decode cX7_trySwap 85 = .ok (.bipush 14, 2) := bdX7_trySwap_79.2.2.2.2.1
theorem dX7_trySwap_87 : decode cX7_trySwap 87 = .ok (.dup2, 1) := bdX7_trySwap_79.2.2.2.2.2.1
theorem dX7_trySwap_88 : decode cX7_trySwap 88 = .ok (.iaload, 1) := bdX7_trySwap_79.2.2.2.2.2.2.1
theorem dX7_trySwap_89 : decode cX7_trySwap 89 = .ok (.iconst 1, 1) := bdX7_trySwap_79.2.2.2.2.2.2.2.1
theorem dX7_trySwap_90 : decode cX7_trySwap 90 = .ok (.iadd, 1) := bdX7_trySwap_79.2.2.2.2.2.2.2.2.1
theorem dX7_trySwap_91 : decode cX7_trySwap 91 = .ok (.iastore, 1) := bdX7_trySwap_79.2.2.2.2.2.2.2.2.2.1
theorem dX7_trySwap_92 : decode cX7_trySwap 92 = .ok (.aload_n 0, 1) := bdX7_trySwap_79.2.2.2.2.2.2.2.2.2.2.1
theorem dX7_trySwap_93 : decode cX7_trySwap 93 = .ok (.getfield 7, 3) := bdX7_trySwap_79.2.2.2.2.2.2.2.2.2.2.2.1
theorem dX7_trySwap_96 : decode cX7_trySwap 96 = .ok (.bipush 14, 2) := bdX7_trySwap_79.2.2.2.2.2.2.2.2.2.2.2.2.1
theorem dX7_trySwap_98 : decode cX7_trySwap 98 = .ok (.iaload, 1) := bdX7_trySwap_79.2.2.2.2.2.2.2.2.2.2.2.2.2.1
theorem dX7_trySwap_99 : decode cX7_trySwap 99 = .ok (.ireturn, 1) := bdX7_trySwap_79.2.2.2.2.2.2.2.2.2.2.2.2.2.2
theorem bdX7_swap_0 : decode cX7_swap 0 = .ok (.aload_n 0, 1) ∧ decode cX7_swap 1 = .ok (.iload_n 1, 1) ∧ decode cX7_swap 2 = .ok (.iload_n 2, 1) ∧ decode cX7_swap 3 = .ok (.iconst 1, 1) ∧ decode cX7_swap 4 = .ok (.invokevirtual 102, 3) ∧ decode cX7_swap 7 = .ok (.ireturn, 1) := by decide +kernel
theorem dX7_swap_0 : decode cX7_swap 0 = .ok (.aload_n 0, 1) := bdX7_swap_0.1
theorem dX7_swap_1 : decode cX7_swap 1 = .ok (.iload_n 1, 1) := bdX7_swap_0.2.1
theorem dX7_swap_2 : decode cX7_swap 2 = .ok (.iload_n 2, 1) := bdX7_swap_0.2.2.1
theorem dX7_swap_3 : decode cX7_swap 3 = .ok (.iconst 1, 1) := bdX7_swap_0.2.2.2.1
theorem dX7_swap_4 : decode cX7_swap 4 = .ok (.invokevirtual 102, 3) := bdX7_swap_0.2.2.2.2.1
theorem dX7_swap_7 : decode cX7_swap 7 = .ok (.ireturn, 1) := bdX7_swap_0.2.2.2.2.2
theorem bdX7_balance_0 : decode cX7_balance 0 = .ok (.aload_n 0, 1) ∧ decode cX7_balance 1 = .ok (.iload_n 1, 1) ∧ decode cX7_balance 2 = .ok (.bipush 15, 2) ∧ decode cX7_balance 4 = .ok (.invokevirtual 66, 3) ∧ decode cX7_balance 7 = .ok (.aload_n 0, 1) ∧ decode cX7_balance 8 = .ok (.iload_n 1, 1) ∧ decode cX7_balance 9 = .ok (.bipush 16, 2) ∧ decode cX7_balance 11 = .ok (.invokevirtual 66, 3) ∧ decode cX7_balance 14 = .ok (.isub, 1) ∧ decode cX7_balance 15 = .ok (.aload_n 0, 1) ∧ decode cX7_balance 16 = .ok (.iload_n 1, 1) ∧ decode cX7_balance 17 = .ok (.bipush 17, 2) ∧ decode cX7_balance 19 = .ok (.invokevirtual 66, 3) ∧ decode cX7_balance 22 = .ok (.isub, 1) ∧ decode cX7_balance 23 = .ok (.aload_n 0, 1) ∧ decode cX7_balance 24 = .ok (.iload_n 1, 1) := by decide +kernel
theorem dX7_balance_0 : decode cX7_balance 0 = .ok (.aload_n 0, 1) := bdX7_balance_0.1
theorem dX7_balance_1 : decode cX7_balance 1 = .ok (.iload_n 1, 1) := bdX7_balance_0.2.1
theorem dX7_balance_2 : decode cX7_balance 2 = .ok (.bipush 15, 2) := bdX7_balance_0.2.2.1
theorem dX7_balance_4 : decode cX7_balance 4 = .ok (.invokevirtual 66, 3) := bdX7_balance_0.2.2.2.1
theorem dX7_balance_7 : decode cX7_balance 7 = .ok (.aload_n 0, 1) := bdX7_balance_0.2.2.2.2.1
theorem dX7_balance_8 : decode cX7_balance 8 = .ok (.iload_n 1, 1) := bdX7_balance_0.2.2.2.2.2.1
theorem dX7_balance_9 : decode cX7_balance 9 = .ok (.bipush 16, 2) := bdX7_balance_0.2.2.2.2.2.2.1
theorem dX7_balance_11 : decode cX7_balance 11 = .ok (.invokevirtual 66, 3) := bdX7_balance_0.2.2.2.2.2.2.2.1
theorem dX7_balance_14 : decode cX7_balance 14 = .ok (.isub, 1) := bdX7_balance_0.2.2.2.2.2.2.2.2.1
theorem dX7_balance_15 : decode cX7_balance 15 = .ok (.aload_n 0, 1) := bdX7_balance_0.2.2.2.2.2.2.2.2.2.1
theorem dX7_balance_16 : decode cX7_balance 16 = .ok (.iload_n 1, 1) := bdX7_balance_0.2.2.2.2.2.2.2.2.2.2.1
theorem dX7_balance_17 : decode cX7_balance 17 = .ok (.bipush 17, 2) := bdX7_balance_0.2.2.2.2.2.2.2.2.2.2.2.1
theorem dX7_balance_19 : decode cX7_balance 19 = .ok (.invokevirtual 66, 3) := bdX7_balance_0.2.2.2.2.2.2.2.2.2.2.2.2.1
theorem dX7_balance_22 : decode cX7_balance 22 = .ok (.isub, 1) := bdX7_balance_0.2.2.2.2.2.2.2.2.2.2.2.2.2.1
theorem dX7_balance_23 : decode cX7_balance 23 = .ok (.aload_n 0, 1) := bdX7_balance_0.2.2.2.2.2.2.2.2.2.2.2.2.2.2.1
theorem dX7_balance_24 : decode cX7_balance 24 = .ok (.iload_n 1, 1) := bdX7_balance_0.2.2.2.2.2.2.2.2.2.2.2.2.2.2.2
theorem bdX7_balance_25 : decode cX7_balance 25 = .ok (.bipush 18, 2) ∧ decode cX7_balance 27 = .ok (.invokevirtual 66, 3) ∧ decode cX7_balance 30 = .ok (.isub, 1) ∧ decode cX7_balance 31 = .ok (.ireturn, 1) := by decide +kernel
theorem dX7_balance_25 : decode cX7_balance 25 = .ok (.bipush 18, 2) := bdX7_balance_25.1
theorem dX7_balance_27 : decode cX7_balance 27 = .ok (.invokevirtual 66, 3) := bdX7_balance_25.2.1
theorem dX7_balance_30 : decode cX7_balance 30 = .ok (.isub, 1) := bdX7_balance_25.2.2.1
theorem dX7_balance_31 : decode cX7_balance 31 = .ok (.ireturn, 1) := bdX7_balance_25.2.2.2
theorem bdX7_pay_0 : decode cX7_pay 0 = .ok (.aload_n 0, 1) ∧ decode cX7_pay 1 = .ok (.iload_n 1, 1) ∧ decode cX7_pay 2 = .ok (.invokevirtual 72, 3) ∧ decode cX7_pay 5 = .ok (.ifCond .ne 5, 3) ∧ decode cX7_pay 8 = .ok (.iconst (-1), 1) ∧ decode cX7_pay 9 = .ok (.ireturn, 1) ∧ decode cX7_pay 10 = .ok (.iload_n 2, 1) ∧ decode cX7_pay 11 = .ok (.iconst 1, 1) ∧ decode cX7_pay 12 = .ok (.ldc 105, 2) ∧ decode cX7_pay 14 = .ok (.invokestatic 35, 3) ∧ decode cX7_pay 17 = .ok (.ifCond .ne 6, 3) ∧ decode cX7_pay 20 = .ok (.bipush (-2), 2) ∧ decode cX7_pay 22 = .ok (.ireturn, 1) ∧ decode cX7_pay 23 = .ok (.aload_n 0, 1) ∧ decode cX7_pay 24 = .ok (.invokevirtual 43, 3) ∧ decode cX7_pay 27 = .ok (.aload_n 0, 1) := by decide +kernel
theorem dX7_pay_0 : decode cX7_pay 0 = .ok (.aload_n 0, 1) := bdX7_pay_0.1
theorem dX7_pay_1 : decode cX7_pay 1 = .ok (.iload_n 1, 1) := bdX7_pay_0.2.1
theorem dX7_pay_2 : decode cX7_pay 2 = .ok (.invokevirtual 72, 3) := bdX7_pay_0.2.2.1
theorem dX7_pay_5 : decode cX7_pay 5 = .ok (.ifCond .ne 5, 3) := bdX7_pay_0.2.2.2.1
theorem dX7_pay_8 : decode cX7_pay 8 = .ok (.iconst (-1), 1) := bdX7_pay_0.2.2.2.2.1
theorem dX7_pay_9 : decode cX7_pay 9 = .ok (.ireturn, 1) := bdX7_pay_0.2.2.2.2.2.1
theorem dX7_pay_10 : decode cX7_pay 10 = .ok (.iload_n 2, 1) := bdX7_pay_0.2.2.2.2.2.2.1
theorem dX7_pay_11 : decode cX7_pay 11 = .ok (.iconst 1, 1) := bdX7_pay_0.2.2.2.2.2.2.2.1
theorem dX7_pay_12 : decode cX7_pay 12 = .ok (.ldc 105, 2) := bdX7_pay_0.2.2.2.2.2.2.2.2.1
theorem dX7_pay_14 : decode cX7_pay 14 = .ok (.invokestatic 35, 3) := bdX7_pay_0.2.2.2.2.2.2.2.2.2.1
theorem dX7_pay_17 : decode cX7_pay 17 = .ok (.ifCond .ne 6, 3) := bdX7_pay_0.2.2.2.2.2.2.2.2.2.2.1
theorem dX7_pay_20 : decode cX7_pay 20 = .ok (.bipush (-2), 2) := bdX7_pay_0.2.2.2.2.2.2.2.2.2.2.2.1
theorem dX7_pay_22 : decode cX7_pay 22 = .ok (.ireturn, 1) := bdX7_pay_0.2.2.2.2.2.2.2.2.2.2.2.2.1
theorem dX7_pay_23 : decode cX7_pay 23 = .ok (.aload_n 0, 1) := bdX7_pay_0.2.2.2.2.2.2.2.2.2.2.2.2.2.1
theorem dX7_pay_24 : decode cX7_pay 24 = .ok (.invokevirtual 43, 3) := bdX7_pay_0.2.2.2.2.2.2.2.2.2.2.2.2.2.2.1
theorem dX7_pay_27 : decode cX7_pay 27 = .ok (.aload_n 0, 1) := bdX7_pay_0.2.2.2.2.2.2.2.2.2.2.2.2.2.2.2
theorem bdX7_pay_28 : decode cX7_pay 28 = .ok (.iload_n 1, 1) ∧ decode cX7_pay 29 = .ok (.bipush 15, 2) ∧ decode cX7_pay 31 = .ok (.aload_n 0, 1) ∧ decode cX7_pay 32 = .ok (.iload_n 1, 1) ∧ decode cX7_pay 33 = .ok (.bipush 15, 2) ∧ decode cX7_pay 35 = .ok (.invokevirtual 66, 3) ∧ decode cX7_pay 38 = .ok (.iload_n 2, 1) ∧ decode cX7_pay 39 = .ok (.iadd, 1) ∧ decode cX7_pay 40 = .ok (.invokevirtual 62, 3) ∧ decode cX7_pay 43 = .ok (.aload_n 0, 1) ∧ decode cX7_pay 44 = .ok (.iload_n 1, 1) ∧ decode cX7_pay 45 = .ok (.invokevirtual 106, 3) ∧ decode cX7_pay 48 = .ok (.ifCond .lt 7, 3) ∧ decode cX7_pay 51 = .ok (.iconst 1, 1) ∧ decode cX7_pay 52 = .ok (.goto 4, 3) ∧ decode cX7_pay 55 = .ok (.iconst 0, 1) := by decide +kernel
theorem dX7_pay_28 : decode cX7_pay 28 = .ok (.iload_n 1, 1) := bdX7_pay_28.1
theorem dX7_pay_29 : decode cX7_pay 29 = .ok (.bipush 15, 2) := bdX7_pay_28.2.1
theorem dX7_pay_31 : decode cX7_pay 31 = .ok (.aload_n 0, 1) := bdX7_pay_28.2.2.1
theorem dX7_pay_32 : decode cX7_pay 32 = .ok (.iload_n 1, 1) := bdX7_pay_28.2.2.2.1
theorem dX7_pay_33 : decode cX7_pay 33 = .ok (.bipush 15, 2) := bdX7_pay_28.2.2.2.2.1
theorem dX7_pay_35 : decode cX7_pay 35 = .ok (.invokevirtual 66, 3) := bdX7_pay_28.2.2.2.2.2.1
theorem dX7_pay_38 : decode cX7_pay 38 = .ok (.iload_n 2, 1) := bdX7_pay_28.2.2.2.2.2.2.1
theorem dX7_pay_39 : decode cX7_pay 39 = .ok (.iadd, 1) := bdX7_pay_28.2.2.2.2.2.2.2.1
theorem dX7_pay_40 : decode cX7_pay 40 = .ok (.invokevirtual 62, 3) := bdX7_pay_28.2.2.2.2.2.2.2.2.1
theorem dX7_pay_43 : decode cX7_pay 43 = .ok (.aload_n 0, 1) := bdX7_pay_28.2.2.2.2.2.2.2.2.2.1
theorem dX7_pay_44 : decode cX7_pay 44 = .ok (.iload_n 1, 1) := bdX7_pay_28.2.2.2.2.2.2.2.2.2.2.1
theorem dX7_pay_45 : decode cX7_pay 45 = .ok (.invokevirtual 106, 3) := bdX7_pay_28.2.2.2.2.2.2.2.2.2.2.2.1
theorem dX7_pay_48 : decode cX7_pay 48 = .ok (.ifCond .lt 7, 3) := bdX7_pay_28.2.2.2.2.2.2.2.2.2.2.2.2.1
theorem dX7_pay_51 : decode cX7_pay 51 = .ok (.iconst 1, 1) := bdX7_pay_28.2.2.2.2.2.2.2.2.2.2.2.2.2.1
theorem dX7_pay_52 : decode cX7_pay 52 = .ok (.goto 4, 3) := bdX7_pay_28.2.2.2.2.2.2.2.2.2.2.2.2.2.2.1
theorem dX7_pay_55 : decode cX7_pay 55 = .ok (.iconst 0, 1) := bdX7_pay_28.2.2.2.2.2.2.2.2.2.2.2.2.2.2.2
theorem dX7_pay_56 : decode cX7_pay 56 = .ok (.ireturn, 1) := by decide +kernel
theorem bdX7_nextToCheck_0 : decode cX7_nextToCheck 0 = .ok (.bipush (-6), 2) ∧ decode cX7_nextToCheck 2 = .ok (.istore_n 1, 1) ∧ decode cX7_nextToCheck 3 = .ok (.iconst 0, 1) ∧ decode cX7_nextToCheck 4 = .ok (.istore_n 2, 1) ∧ decode cX7_nextToCheck 5 = .ok (.iload_n 2, 1) ∧ decode cX7_nextToCheck 6 = .ok (.aload_n 0, 1) ∧ decode cX7_nextToCheck 7 = .ok (.getfield 7, 3) ∧ decode cX7_nextToCheck 10 = .ok (.bipush 13, 2) ∧ decode cX7_nextToCheck 12 = .ok (.iaload, 1) ∧ decode cX7_nextToCheck 13 = .ok (.if_icmp .ge 57, 3) ∧ decode cX7_nextToCheck 16 = .ok (.aload_n 0, 1) ∧ decode cX7_nextToCheck 17 = .ok (.iload_n 2, 1) ∧ decode cX7_nextToCheck 18 = .ok (.bipush 8, 2) ∧ decode cX7_nextToCheck 20 = .ok (.invokevirtual 66, 3) ∧ decode cX7_nextToCheck 23 = .ok (.iconst 1, 1) ∧ decode cX7_nextToCheck 24 = .ok (.if_icmp .ne 7, 3) := by decide +kernel
theorem dX7_nextToCheck_0 : decode cX7_nextToCheck 0 = .ok (.bipush (-6), 2) := bdX7_nextToCheck_0.1
theorem dX7_nextToCheck_2 : decode cX7_nextToCheck 2 = .ok (.istore_n 1, 1) := bdX7_nextToCheck_0.2.1
theorem dX7_nextToCheck_3 : decode cX7_nextToCheck 3 = .ok (.iconst 0, 1) := bdX7_nextToCheck_0.2.2.1
theorem dX7_nextToCheck_4 : decode cX7_nextToCheck 4 = .ok (.istore_n 2, 1) := bdX7_nextToCheck_0.2.2.2.1
theorem dX7_nextToCheck_5 : decode cX7_nextToCheck 5 = .ok (.iload_n 2, 1) := bdX7_nextToCheck_0.2.2.2.2.1
theorem dX7_nextToCheck_6 : decode cX7_nextToCheck 6 = .ok (.aload_n 0, 1) := bdX7_nextToCheck_0.2.2.2.2.2.1
theorem dX7_nextToCheck_7 : decode cX7_nextToCheck 7 = .ok (.getfield 7, 3) := bdX7_nextToCheck_0.2.2.2.2.2.2.1
theorem dX7_nextToCheck_10 : decode cX7_nextToCheck 10 = .ok (.bipush 13, 2) := bdX7_nextToCheck_0.2.2.2.2.2.2.2.1
theorem dX7_nextToCheck_12 : decode cX7_nextToCheck 12 = .ok (.iaload, 1) := bdX7_nextToCheck_0.2.2.2.2.2.2.2.2.1
theorem dX7_nextToCheck_13 : decode cX7_nextToCheck 13 = .ok (.if_icmp .ge 57, 3) := bdX7_nextToCheck_0.2.2.2.2.2.2.2.2.2.1
theorem dX7_nextToCheck_16 : decode cX7_nextToCheck 16 = .ok (.aload_n 0, 1) := bdX7_nextToCheck_0.2.2.2.2.2.2.2.2.2.2.1
theorem dX7_nextToCheck_17 : decode cX7_nextToCheck 17 = .ok (.iload_n 2, 1) := bdX7_nextToCheck_0.2.2.2.2.2.2.2.2.2.2.2.1
theorem dX7_nextToCheck_18 : decode cX7_nextToCheck 18 = .ok (.bipush 8, 2) := bdX7_nextToCheck_0.2.2.2.2.2.2.2.2.2.2.2.2.1
theorem dX7_nextToCheck_20 : decode cX7_nextToCheck 20 = .ok (.invokevirtual 66, 3) := bdX7_nextToCheck_0.2.2.2.2.2.2.2.2.2.2.2.2.2.1
theorem dX7_nextToCheck_23 : decode cX7_nextToCheck 23 = .ok (.iconst 1, 1) := bdX7_nextToCheck_0.2.2.2.2.2.2.2.2.2.2.2.2.2.2.1
theorem dX7_nextToCheck_24 : decode cX7_nextToCheck 24 = .ok (.if_icmp .ne 7, 3) := bdX7_nextToCheck_0.2.2.2.2.2.2.2.2.2.2.2.2.2.2.2
theorem bdX7_nextToCheck_27 : decode cX7_nextToCheck 27 = .ok (.iconst 1, 1) ∧ decode cX7_nextToCheck 28 = .ok (.goto 4, 3) ∧ decode cX7_nextToCheck 31 = .ok (.iconst 0, 1) ∧ decode cX7_nextToCheck 32 = .ok (.istore_n 3, 1) ∧ decode cX7_nextToCheck 33 = .ok (.iload_n 3, 1) ∧ decode cX7_nextToCheck 34 = .ok (.ifCond .eq 28, 3) ∧ decode cX7_nextToCheck 37 = .ok (.iload_n 1, 1) ∧ decode cX7_nextToCheck 38 = .ok (.ifCond .lt 20, 3) ∧ decode cX7_nextToCheck 41 = .ok (.aload_n 0, 1) ∧ decode cX7_nextToCheck 42 = .ok (.iload_n 2, 1) ∧ decode cX7_nextToCheck 43 = .ok (.bipush 7, 2) ∧ decode cX7_nextToCheck 45 = .ok (.invokevirtual 66, 3) ∧ decode cX7_nextToCheck 48 = .ok (.aload_n 0, 1) ∧ decode cX7_nextToCheck 49 = .ok (.iload_n 1, 1) ∧ decode cX7_nextToCheck 50 = .ok (.bipush 7, 2) ∧ decode cX7_nextToCheck 52 = .ok (.invokevirtual 66, 3) := by decide +kernel
theorem dX7_nextToCheck_27 : decode cX7_nextToCheck 27 = .ok (.iconst 1, 1) := bdX7_nextToCheck_27.1
theorem dX7_nextToCheck_28 : decode cX7_nextToCheck 28 = .ok (.goto 4, 3) := bdX7_nextToCheck_27.2.1
theorem dX7_nextToCheck_31 : decode cX7_nextToCheck 31 = .ok (.iconst 0, 1) := bdX7_nextToCheck_27.2.2.1
theorem dX7_nextToCheck_32 : decode cX7_nextToCheck 32 = .ok (.istore_n 3, 1) := bdX7_nextToCheck_27.2.2.2.1
theorem dX7_nextToCheck_33 : decode cX7_nextToCheck 33 = .ok (.iload_n 3, 1) := bdX7_nextToCheck_27.2.2.2.2.1
theorem dX7_nextToCheck_34 : decode cX7_nextToCheck 34 = .ok (.ifCond .eq 28, 3) := bdX7_nextToCheck_27.2.2.2.2.2.1
theorem dX7_nextToCheck_37 : decode cX7_nextToCheck 37 = .ok (.iload_n 1, 1) := bdX7_nextToCheck_27.2.2.2.2.2.2.1
theorem dX7_nextToCheck_38 : decode cX7_nextToCheck 38 = .ok (.ifCond .lt 20, 3) := bdX7_nextToCheck_27.2.2.2.2.2.2.2.1
theorem dX7_nextToCheck_41 : decode cX7_nextToCheck 41 = .ok (.aload_n 0, 1) := bdX7_nextToCheck_27.2.2.2.2.2.2.2.2.1
theorem dX7_nextToCheck_42 : decode cX7_nextToCheck 42 = .ok (.iload_n 2, 1) := bdX7_nextToCheck_27.2.2.2.2.2.2.2.2.2.1
theorem dX7_nextToCheck_43 : decode cX7_nextToCheck 43 = .ok (.bipush 7, 2) := bdX7_nextToCheck_27.2.2.2.2.2.2.2.2.2.2.1
theorem dX7_nextToCheck_45 : decode cX7_nextToCheck 45 = .ok (.invokevirtual 66, 3) := bdX7_nextToCheck_27.2.2.2.2.2.2.2.2.2.2.2.1
theorem dX7_nextToCheck_48 : decode cX7_nextToCheck 48 = .ok (.aload_n 0, 1) := bdX7_nextToCheck_27.2.2.2.2.2.2.2.2.2.2.2.2.1
theorem dX7_nextToCheck_49 : decode cX7_nextToCheck 49 = .ok (.iload_n 1, 1) := bdX7_nextToCheck_27.2.2.2.2.2.2.2.2.2.2.2.2.2.1
theorem dX7_nextToCheck_50 : decode cX7_nextToCheck 50 = .ok (.bipush 7, 2) := bdX7_nextToCheck_27.2.2.2.2.2.2.2.2.2.2.2.2.2.2.1
theorem dX7_nextToCheck_52 : decode cX7_nextToCheck 52 = .ok (.invokevirtual 66, 3) := bdX7_nextToCheck_27.2.2.2.2.2.2.2.2.2.2.2.2.2.2.2
theorem bdX7_nextToCheck_55 : decode cX7_nextToCheck 55 = .ok (.if_icmp .ge 7, 3) ∧ decode cX7_nextToCheck 58 = .ok (.iload_n 2, 1) ∧ decode cX7_nextToCheck 59 = .ok (.goto 4, 3) ∧ decode cX7_nextToCheck 62 = .ok (.iload_n 1, 1) ∧ decode cX7_nextToCheck 63 = .ok (.istore_n 1, 1) ∧ decode cX7_nextToCheck 64 = .ok (.iinc 2 1, 3) ∧ decode cX7_nextToCheck 67 = .ok (.goto (-62), 3) ∧ decode cX7_nextToCheck 70 = .ok (.iload_n 1, 1) ∧ decode cX7_nextToCheck 71 = .ok (.ireturn, 1) := by decide +kernel
theorem dX7_nextToCheck_55 : decode cX7_nextToCheck 55 = .ok (.if_icmp .ge 7, 3) := bdX7_nextToCheck_55.1
theorem dX7_nextToCheck_58 : decode cX7_nextToCheck 58 = .ok (.iload_n 2, 1) := bdX7_nextToCheck_55.2.1
theorem dX7_nextToCheck_59 : decode cX7_nextToCheck 59 = .ok (.goto 4, 3) := bdX7_nextToCheck_55.2.2.1
theorem dX7_nextToCheck_62 : decode cX7_nextToCheck 62 = .ok (.iload_n 1, 1) := bdX7_nextToCheck_55.2.2.2.1
theorem dX7_nextToCheck_63 : decode cX7_nextToCheck 63 = .ok (.istore_n 1, 1) := bdX7_nextToCheck_55.2.2.2.2.1
theorem dX7_nextToCheck_64 : decode cX7_nextToCheck 64 = .ok (.iinc 2 1, 3) := bdX7_nextToCheck_55.2.2.2.2.2.1
theorem dX7_nextToCheck_67 : decode cX7_nextToCheck 67 = .ok (.goto (-62), 3) := bdX7_nextToCheck_55.2.2.2.2.2.2.1
theorem dX7_nextToCheck_70 : decode cX7_nextToCheck 70 = .ok (.iload_n 1, 1) := bdX7_nextToCheck_55.2.2.2.2.2.2.2.1
theorem dX7_nextToCheck_71 : decode cX7_nextToCheck 71 = .ok (.ireturn, 1) := bdX7_nextToCheck_55.2.2.2.2.2.2.2.2
theorem bdX7_checkAll_0 : decode cX7_checkAll 0 = .ok (.iconst 0, 1) ∧ decode cX7_checkAll 1 = .ok (.istore_n 1, 1) ∧ decode cX7_checkAll 2 = .ok (.iload_n 1, 1) ∧ decode cX7_checkAll 3 = .ok (.aload_n 0, 1) ∧ decode cX7_checkAll 4 = .ok (.getfield 7, 3) ∧ decode cX7_checkAll 7 = .ok (.iconst 2, 1) ∧ decode cX7_checkAll 8 = .ok (.iaload, 1) ∧ decode cX7_checkAll 9 = .ok (.if_icmp .ge 47, 3) ∧ decode cX7_checkAll 12 = .ok (.aload_n 0, 1) ∧ decode cX7_checkAll 13 = .ok (.invokevirtual 109, 3) ∧ decode cX7_checkAll 16 = .ok (.istore_n 2, 1) ∧ decode cX7_checkAll 17 = .ok (.iload_n 2, 1) ∧ decode cX7_checkAll 18 = .ok (.ifCond .lt 32, 3) ∧ decode cX7_checkAll 21 = .ok (.aload_n 0, 1) ∧ decode cX7_checkAll 22 = .ok (.iload_n 2, 1) ∧ decode cX7_checkAll 23 = .ok (.bipush 7, 2) := by decide +kernel
theorem dX7_checkAll_0 : decode cX7_checkAll 0 = .ok (.iconst 0, 1) := bdX7_checkAll_0.1
theorem dX7_checkAll_1 : decode cX7_checkAll 1 = .ok (.istore_n 1, 1) := bdX7_checkAll_0.2.1
theorem dX7_checkAll_2 : decode cX7_checkAll 2 = .ok (.iload_n 1, 1) := bdX7_checkAll_0.2.2.1
theorem dX7_checkAll_3 : decode cX7_checkAll 3 = .ok (.aload_n 0, 1) := bdX7_checkAll_0.2.2.2.1
theorem dX7_checkAll_4 : decode cX7_checkAll 4 = .ok (.getfield 7, 3) := bdX7_checkAll_0.2.2.2.2.1
theorem dX7_checkAll_7 : decode cX7_checkAll 7 = .ok (.iconst 2, 1) := bdX7_checkAll_0.2.2.2.2.2.1
theorem dX7_checkAll_8 : decode cX7_checkAll 8 = .ok (.iaload, 1) := bdX7_checkAll_0.2.2.2.2.2.2.1
theorem dX7_checkAll_9 : decode cX7_checkAll 9 = .ok (.if_icmp .ge 47, 3) := bdX7_checkAll_0.2.2.2.2.2.2.2.1
theorem dX7_checkAll_12 : decode cX7_checkAll 12 = .ok (.aload_n 0, 1) := bdX7_checkAll_0.2.2.2.2.2.2.2.2.1
theorem dX7_checkAll_13 : decode cX7_checkAll 13 = .ok (.invokevirtual 109, 3) := bdX7_checkAll_0.2.2.2.2.2.2.2.2.2.1
theorem dX7_checkAll_16 : decode cX7_checkAll 16 = .ok (.istore_n 2, 1) := bdX7_checkAll_0.2.2.2.2.2.2.2.2.2.2.1
theorem dX7_checkAll_17 : decode cX7_checkAll 17 = .ok (.iload_n 2, 1) := bdX7_checkAll_0.2.2.2.2.2.2.2.2.2.2.2.1
theorem dX7_checkAll_18 : decode cX7_checkAll 18 = .ok (.ifCond .lt 32, 3) := bdX7_checkAll_0.2.2.2.2.2.2.2.2.2.2.2.2.1
theorem dX7_checkAll_21 : decode cX7_checkAll 21 = .ok (.aload_n 0, 1) := bdX7_checkAll_0.2.2.2.2.2.2.2.2.2.2.2.2.2.1
theorem dX7_checkAll_22 : decode cX7_checkAll 22 = .ok (.iload_n 2, 1) := bdX7_checkAll_0.2.2.2.2.2.2.2.2.2.2.2.2.2.2.1
theorem dX7_checkAll_23 : decode cX7_checkAll 23 = .ok (.bipush 7, 2) := bdX7_checkAll_0.2.2.2.2.2.2.2.2.2.2.2.2.2.2.2
theorem bdX7_checkAll_25 : decode cX7_checkAll 25 = .ok (.aload_n 0, 1) ∧ decode cX7_checkAll 26 = .ok (.getfield 7, 3) ∧ decode cX7_checkAll 29 = .ok (.bipush 10, 2) ∧ decode cX7_checkAll 31 = .ok (.iaload, 1) ∧ decode cX7_checkAll 32 = .ok (.aload_n 0, 1) ∧ decode cX7_checkAll 33 = .ok (.getfield 7, 3) ∧ decode cX7_checkAll 36 = .ok (.iconst 1, 1) ∧ decode cX7_checkAll 37 = .ok (.iaload, 1) ∧ decode cX7_checkAll 38 = .ok (.iadd, 1) ∧ decode cX7_checkAll 39 = .ok (.invokevirtual 62, 3) ∧ decode cX7_checkAll 42 = .ok (.aload_n 0, 1) ∧ decode cX7_checkAll 43 = .ok (.iload_n 2, 1) ∧ decode cX7_checkAll 44 = .ok (.bipush 8, 2) ∧ decode cX7_checkAll 46 = .ok (.iconst 0, 1) ∧ decode cX7_checkAll 47 = .ok (.invokevirtual 62, 3) ∧ decode cX7_checkAll 50 = .ok (.iinc 1 1, 3) := by decide +kernel
theorem dX7_checkAll_25 : decode cX7_checkAll 25 = .ok (.aload_n 0, 1) := bdX7_checkAll_25.1
theorem dX7_checkAll_26 : decode cX7_checkAll 26 = .ok (.getfield 7, 3) := bdX7_checkAll_25.2.1
theorem dX7_checkAll_29 : decode cX7_checkAll 29 = .ok (.bipush 10, 2) := bdX7_checkAll_25.2.2.1
theorem dX7_checkAll_31 : decode cX7_checkAll 31 = .ok (.iaload, 1) := bdX7_checkAll_25.2.2.2.1
theorem dX7_checkAll_32 : decode cX7_checkAll 32 = .ok (.aload_n 0, 1) := bdX7_checkAll_25.2.2.2.2.1
theorem dX7_checkAll_33 : decode cX7_checkAll 33 = .ok (.getfield 7, 3) := bdX7_checkAll_25.2.2.2.2.2.1
theorem dX7_checkAll_36 : decode cX7_checkAll 36 = .ok (.iconst 1, 1) := bdX7_checkAll_25.2.2.2.2.2.2.1
theorem dX7_checkAll_37 : decode cX7_checkAll 37 = .ok (.iaload, 1) := bdX7_checkAll_25.2.2.2.2.2.2.2.1
theorem dX7_checkAll_38 : decode cX7_checkAll 38 = .ok (.iadd, 1) := bdX7_checkAll_25.2.2.2.2.2.2.2.2.1
theorem dX7_checkAll_39 : decode cX7_checkAll 39 = .ok (.invokevirtual 62, 3) := bdX7_checkAll_25.2.2.2.2.2.2.2.2.2.1
theorem dX7_checkAll_42 : decode cX7_checkAll 42 = .ok (.aload_n 0, 1) := bdX7_checkAll_25.2.2.2.2.2.2.2.2.2.2.1
theorem dX7_checkAll_43 : decode cX7_checkAll 43 = .ok (.iload_n 2, 1) := bdX7_checkAll_25.2.2.2.2.2.2.2.2.2.2.2.1
theorem dX7_checkAll_44 : decode cX7_checkAll 44 = .ok (.bipush 8, 2) := bdX7_checkAll_25.2.2.2.2.2.2.2.2.2.2.2.2.1
theorem dX7_checkAll_46 : decode cX7_checkAll 46 = .ok (.iconst 0, 1) := bdX7_checkAll_25.2.2.2.2.2.2.2.2.2.2.2.2.2.1
theorem dX7_checkAll_47 : decode cX7_checkAll 47 = .ok (.invokevirtual 62, 3) := bdX7_checkAll_25.2.2.2.2.2.2.2.2.2.2.2.2.2.2.1
theorem dX7_checkAll_50 : decode cX7_checkAll 50 = .ok (.iinc 1 1, 3) := bdX7_checkAll_25.2.2.2.2.2.2.2.2.2.2.2.2.2.2.2
theorem bdX7_checkAll_53 : decode cX7_checkAll 53 = .ok (.goto (-51), 3) ∧ decode cX7_checkAll 56 = .ok (.return_, 1) := by decide +kernel
theorem dX7_checkAll_53 : decode cX7_checkAll 53 = .ok (.goto (-51), 3) := bdX7_checkAll_53.1
theorem dX7_checkAll_56 : decode cX7_checkAll 56 = .ok (.return_, 1) := bdX7_checkAll_53.2
theorem bdX7_whyOut_0 : decode cX7_whyOut 0 = .ok (.aload_n 0, 1) ∧ decode cX7_whyOut 1 = .ok (.iload_n 1, 1) ∧ decode cX7_whyOut 2 = .ok (.iconst 2, 1) ∧ decode cX7_whyOut 3 = .ok (.invokevirtual 66, 3) ∧ decode cX7_whyOut 6 = .ok (.ifCond .ne 7, 3) ∧ decode cX7_whyOut 9 = .ok (.iconst 1, 1) ∧ decode cX7_whyOut 10 = .ok (.goto 46, 3) ∧ decode cX7_whyOut 13 = .ok (.aload_n 0, 1) ∧ decode cX7_whyOut 14 = .ok (.iload_n 1, 1) ∧ decode cX7_whyOut 15 = .ok (.bipush 7, 2) ∧ decode cX7_whyOut 17 = .ok (.invokevirtual 66, 3) ∧ decode cX7_whyOut 20 = .ok (.aload_n 0, 1) ∧ decode cX7_whyOut 21 = .ok (.getfield 7, 3) ∧ decode cX7_whyOut 24 = .ok (.bipush 10, 2) ∧ decode cX7_whyOut 26 = .ok (.iaload, 1) ∧ decode cX7_whyOut 27 = .ok (.if_icmp .ge 7, 3) := by decide +kernel
theorem dX7_whyOut_0 : decode cX7_whyOut 0 = .ok (.aload_n 0, 1) := bdX7_whyOut_0.1
theorem dX7_whyOut_1 : decode cX7_whyOut 1 = .ok (.iload_n 1, 1) := bdX7_whyOut_0.2.1
theorem dX7_whyOut_2 : decode cX7_whyOut 2 = .ok (.iconst 2, 1) := bdX7_whyOut_0.2.2.1
theorem dX7_whyOut_3 : decode cX7_whyOut 3 = .ok (.invokevirtual 66, 3) := bdX7_whyOut_0.2.2.2.1
theorem dX7_whyOut_6 : decode cX7_whyOut 6 = .ok (.ifCond .ne 7, 3) := bdX7_whyOut_0.2.2.2.2.1
theorem dX7_whyOut_9 : decode cX7_whyOut 9 = .ok (.iconst 1, 1) := bdX7_whyOut_0.2.2.2.2.2.1
theorem dX7_whyOut_10 : decode cX7_whyOut 10 = .ok (.goto 46, 3) := bdX7_whyOut_0.2.2.2.2.2.2.1
theorem dX7_whyOut_13 : decode cX7_whyOut 13 = .ok (.aload_n 0, 1) := bdX7_whyOut_0.2.2.2.2.2.2.2.1
theorem dX7_whyOut_14 : decode cX7_whyOut 14 = .ok (.iload_n 1, 1) := bdX7_whyOut_0.2.2.2.2.2.2.2.2.1
theorem dX7_whyOut_15 : decode cX7_whyOut 15 = .ok (.bipush 7, 2) := bdX7_whyOut_0.2.2.2.2.2.2.2.2.2.1
theorem dX7_whyOut_17 : decode cX7_whyOut 17 = .ok (.invokevirtual 66, 3) := bdX7_whyOut_0.2.2.2.2.2.2.2.2.2.2.1
theorem dX7_whyOut_20 : decode cX7_whyOut 20 = .ok (.aload_n 0, 1) := bdX7_whyOut_0.2.2.2.2.2.2.2.2.2.2.2.1
theorem dX7_whyOut_21 : decode cX7_whyOut 21 = .ok (.getfield 7, 3) := bdX7_whyOut_0.2.2.2.2.2.2.2.2.2.2.2.2.1
theorem dX7_whyOut_24 : decode cX7_whyOut 24 = .ok (.bipush 10, 2) := bdX7_whyOut_0.2.2.2.2.2.2.2.2.2.2.2.2.2.1
theorem dX7_whyOut_26 : decode cX7_whyOut 26 = .ok (.iaload, 1) := bdX7_whyOut_0.2.2.2.2.2.2.2.2.2.2.2.2.2.2.1
theorem dX7_whyOut_27 : decode cX7_whyOut 27 = .ok (.if_icmp .ge 7, 3) := bdX7_whyOut_0.2.2.2.2.2.2.2.2.2.2.2.2.2.2.2
theorem bdX7_whyOut_30 : decode cX7_whyOut 30 = .ok (.iconst 2, 1) ∧ decode cX7_whyOut 31 = .ok (.goto 25, 3) ∧ decode cX7_whyOut 34 = .ok (.aload_n 0, 1) ∧ decode cX7_whyOut 35 = .ok (.iload_n 1, 1) ∧ decode cX7_whyOut 36 = .ok (.bipush 9, 2) ∧ decode cX7_whyOut 38 = .ok (.invokevirtual 66, 3) ∧ decode cX7_whyOut 41 = .ok (.aload_n 0, 1) ∧ decode cX7_whyOut 42 = .ok (.getfield 7, 3) ∧ decode cX7_whyOut 45 = .ok (.bipush 10, 2) ∧ decode cX7_whyOut 47 = .ok (.iaload, 1) ∧ decode cX7_whyOut 48 = .ok (.if_icmp .lt 7, 3) ∧ decode cX7_whyOut 51 = .ok (.iconst 3, 1) ∧ decode cX7_whyOut 52 = .ok (.goto 4, 3) ∧ decode cX7_whyOut 55 = .ok (.iconst 0, 1) ∧ decode cX7_whyOut 56 = .ok (.ireturn, 1) := by decide +kernel
theorem dX7_whyOut_30 : decode cX7_whyOut 30 = .ok (.iconst 2, 1) := bdX7_whyOut_30.1
theorem dX7_whyOut_31 : decode cX7_whyOut 31 = .ok (.goto 25, 3) := bdX7_whyOut_30.2.1
theorem dX7_whyOut_34 : decode cX7_whyOut 34 = .ok (.aload_n 0, 1) := bdX7_whyOut_30.2.2.1
theorem dX7_whyOut_35 : decode cX7_whyOut 35 = .ok (.iload_n 1, 1) := bdX7_whyOut_30.2.2.2.1
theorem dX7_whyOut_36 : decode cX7_whyOut 36 = .ok (.bipush 9, 2) := bdX7_whyOut_30.2.2.2.2.1
theorem dX7_whyOut_38 : decode cX7_whyOut 38 = .ok (.invokevirtual 66, 3) := bdX7_whyOut_30.2.2.2.2.2.1
theorem dX7_whyOut_41 : decode cX7_whyOut 41 = .ok (.aload_n 0, 1) := bdX7_whyOut_30.2.2.2.2.2.2.1
theorem dX7_whyOut_42 : decode cX7_whyOut 42 = .ok (.getfield 7, 3) := bdX7_whyOut_30.2.2.2.2.2.2.2.1
theorem dX7_whyOut_45 : decode cX7_whyOut 45 = .ok (.bipush 10, 2) := bdX7_whyOut_30.2.2.2.2.2.2.2.2.1
theorem dX7_whyOut_47 : decode cX7_whyOut 47 = .ok (.iaload, 1) := bdX7_whyOut_30.2.2.2.2.2.2.2.2.2.1
theorem dX7_whyOut_48 : decode cX7_whyOut 48 = .ok (.if_icmp .lt 7, 3) := bdX7_whyOut_30.2.2.2.2.2.2.2.2.2.2.1
theorem dX7_whyOut_51 : decode cX7_whyOut 51 = .ok (.iconst 3, 1) := bdX7_whyOut_30.2.2.2.2.2.2.2.2.2.2.2.1
theorem dX7_whyOut_52 : decode cX7_whyOut 52 = .ok (.goto 4, 3) := bdX7_whyOut_30.2.2.2.2.2.2.2.2.2.2.2.2.1
theorem dX7_whyOut_55 : decode cX7_whyOut 55 = .ok (.iconst 0, 1) := bdX7_whyOut_30.2.2.2.2.2.2.2.2.2.2.2.2.2.1
theorem dX7_whyOut_56 : decode cX7_whyOut 56 = .ok (.ireturn, 1) := bdX7_whyOut_30.2.2.2.2.2.2.2.2.2.2.2.2.2.2
theorem bdX7_beginDay_0 : decode cX7_beginDay 0 = .ok (.iconst 0, 1) ∧ decode cX7_beginDay 1 = .ok (.istore_n 1, 1) ∧ decode cX7_beginDay 2 = .ok (.iload_n 1, 1) ∧ decode cX7_beginDay 3 = .ok (.aload_n 0, 1) ∧ decode cX7_beginDay 4 = .ok (.getfield 7, 3) ∧ decode cX7_beginDay 7 = .ok (.bipush 13, 2) ∧ decode cX7_beginDay 9 = .ok (.iaload, 1) ∧ decode cX7_beginDay 10 = .ok (.if_icmp .ge 68, 3) ∧ decode cX7_beginDay 13 = .ok (.aload_n 0, 1) ∧ decode cX7_beginDay 14 = .ok (.iload_n 1, 1) ∧ decode cX7_beginDay 15 = .ok (.bipush 13, 2) ∧ decode cX7_beginDay 17 = .ok (.aload_n 0, 1) ∧ decode cX7_beginDay 18 = .ok (.iload_n 1, 1) ∧ decode cX7_beginDay 19 = .ok (.invokevirtual 112, 3) ∧ decode cX7_beginDay 22 = .ok (.invokevirtual 62, 3) ∧ decode cX7_beginDay 25 = .ok (.aload_n 0, 1) := by decide +kernel
theorem dX7_beginDay_0 : decode cX7_beginDay 0 = .ok (.iconst 0, 1) := bdX7_beginDay_0.1
theorem dX7_beginDay_1 : decode cX7_beginDay 1 = .ok (.istore_n 1, 1) := bdX7_beginDay_0.2.1
theorem dX7_beginDay_2 : decode cX7_beginDay 2 = .ok (.iload_n 1, 1) := bdX7_beginDay_0.2.2.1
theorem dX7_beginDay_3 : decode cX7_beginDay 3 = .ok (.aload_n 0, 1) := bdX7_beginDay_0.2.2.2.1
theorem dX7_beginDay_4 : decode cX7_beginDay 4 = .ok (.getfield 7, 3) := bdX7_beginDay_0.2.2.2.2.1
theorem dX7_beginDay_7 : decode cX7_beginDay 7 = .ok (.bipush 13, 2) := bdX7_beginDay_0.2.2.2.2.2.1
theorem dX7_beginDay_9 : decode cX7_beginDay 9 = .ok (.iaload, 1) := bdX7_beginDay_0.2.2.2.2.2.2.1
theorem dX7_beginDay_10 : decode cX7_beginDay 10 = .ok (.if_icmp .ge 68, 3) := bdX7_beginDay_0.2.2.2.2.2.2.2.1
theorem dX7_beginDay_13 : decode cX7_beginDay 13 = .ok (.aload_n 0, 1) := bdX7_beginDay_0.2.2.2.2.2.2.2.2.1
theorem dX7_beginDay_14 : decode cX7_beginDay 14 = .ok (.iload_n 1, 1) := bdX7_beginDay_0.2.2.2.2.2.2.2.2.2.1
theorem dX7_beginDay_15 : decode cX7_beginDay 15 = .ok (.bipush 13, 2) := bdX7_beginDay_0.2.2.2.2.2.2.2.2.2.2.1
theorem dX7_beginDay_17 : decode cX7_beginDay 17 = .ok (.aload_n 0, 1) := bdX7_beginDay_0.2.2.2.2.2.2.2.2.2.2.2.1
theorem dX7_beginDay_18 : decode cX7_beginDay 18 = .ok (.iload_n 1, 1) := bdX7_beginDay_0.2.2.2.2.2.2.2.2.2.2.2.2.1
theorem dX7_beginDay_19 : decode cX7_beginDay 19 = .ok (.invokevirtual 112, 3) := bdX7_beginDay_0.2.2.2.2.2.2.2.2.2.2.2.2.2.1
theorem dX7_beginDay_22 : decode cX7_beginDay 22 = .ok (.invokevirtual 62, 3) := bdX7_beginDay_0.2.2.2.2.2.2.2.2.2.2.2.2.2.2.1
theorem dX7_beginDay_25 : decode cX7_beginDay 25 = .ok (.aload_n 0, 1) := bdX7_beginDay_0.2.2.2.2.2.2.2.2.2.2.2.2.2.2.2
theorem bdX7_beginDay_26 : decode cX7_beginDay 26 = .ok (.iload_n 1, 1) ∧ decode cX7_beginDay 27 = .ok (.bipush 19, 2) ∧ decode cX7_beginDay 29 = .ok (.aload_n 0, 1) ∧ decode cX7_beginDay 30 = .ok (.iload_n 1, 1) ∧ decode cX7_beginDay 31 = .ok (.invokevirtual 112, 3) ∧ decode cX7_beginDay 34 = .ok (.ifCond .ne 7, 3) ∧ decode cX7_beginDay 37 = .ok (.iconst 1, 1) ∧ decode cX7_beginDay 38 = .ok (.goto 4, 3) ∧ decode cX7_beginDay 41 = .ok (.iconst 0, 1) ∧ decode cX7_beginDay 42 = .ok (.invokevirtual 62, 3) ∧ decode cX7_beginDay 45 = .ok (.aload_n 0, 1) ∧ decode cX7_beginDay 46 = .ok (.iload_n 1, 1) ∧ decode cX7_beginDay 47 = .ok (.bipush 11, 2) ∧ decode cX7_beginDay 49 = .ok (.bipush (-6), 2) ∧ decode cX7_beginDay 51 = .ok (.invokevirtual 62, 3) ∧ decode cX7_beginDay 54 = .ok (.aload_n 0, 1) := by decide +kernel
theorem dX7_beginDay_26 : decode cX7_beginDay 26 = .ok (.iload_n 1, 1) := bdX7_beginDay_26.1
theorem dX7_beginDay_27 : decode cX7_beginDay 27 = .ok (.bipush 19, 2) := bdX7_beginDay_26.2.1
theorem dX7_beginDay_29 : decode cX7_beginDay 29 = .ok (.aload_n 0, 1) := bdX7_beginDay_26.2.2.1
theorem dX7_beginDay_30 : decode cX7_beginDay 30 = .ok (.iload_n 1, 1) := bdX7_beginDay_26.2.2.2.1
theorem dX7_beginDay_31 : decode cX7_beginDay 31 = .ok (.invokevirtual 112, 3) := bdX7_beginDay_26.2.2.2.2.1
theorem dX7_beginDay_34 : decode cX7_beginDay 34 = .ok (.ifCond .ne 7, 3) := bdX7_beginDay_26.2.2.2.2.2.1
theorem dX7_beginDay_37 : decode cX7_beginDay 37 = .ok (.iconst 1, 1) := bdX7_beginDay_26.2.2.2.2.2.2.1
theorem dX7_beginDay_38 : decode cX7_beginDay 38 = .ok (.goto 4, 3) := bdX7_beginDay_26.2.2.2.2.2.2.2.1
theorem dX7_beginDay_41 : decode cX7_beginDay 41 = .ok (.iconst 0, 1) := bdX7_beginDay_26.2.2.2.2.2.2.2.2.1
theorem dX7_beginDay_42 : decode cX7_beginDay 42 = .ok (.invokevirtual 62, 3) := bdX7_beginDay_26.2.2.2.2.2.2.2.2.2.1
theorem dX7_beginDay_45 : decode cX7_beginDay 45 = .ok (.aload_n 0, 1) := bdX7_beginDay_26.2.2.2.2.2.2.2.2.2.2.1
theorem dX7_beginDay_46 : decode cX7_beginDay 46 = .ok (.iload_n 1, 1) := bdX7_beginDay_26.2.2.2.2.2.2.2.2.2.2.2.1
theorem dX7_beginDay_47 : decode cX7_beginDay 47 = .ok (.bipush 11, 2) := bdX7_beginDay_26.2.2.2.2.2.2.2.2.2.2.2.2.1
theorem dX7_beginDay_49 : decode cX7_beginDay 49 = .ok (.bipush (-6), 2) := bdX7_beginDay_26.2.2.2.2.2.2.2.2.2.2.2.2.2.1
theorem dX7_beginDay_51 : decode cX7_beginDay 51 = .ok (.invokevirtual 62, 3) := bdX7_beginDay_26.2.2.2.2.2.2.2.2.2.2.2.2.2.2.1
theorem dX7_beginDay_54 : decode cX7_beginDay 54 = .ok (.aload_n 0, 1) := bdX7_beginDay_26.2.2.2.2.2.2.2.2.2.2.2.2.2.2.2
theorem bdX7_beginDay_55 : decode cX7_beginDay 55 = .ok (.iload_n 1, 1) ∧ decode cX7_beginDay 56 = .ok (.bipush 12, 2) ∧ decode cX7_beginDay 58 = .ok (.bipush (-6), 2) ∧ decode cX7_beginDay 60 = .ok (.invokevirtual 62, 3) ∧ decode cX7_beginDay 63 = .ok (.aload_n 0, 1) ∧ decode cX7_beginDay 64 = .ok (.iload_n 1, 1) ∧ decode cX7_beginDay 65 = .ok (.bipush 14, 2) ∧ decode cX7_beginDay 67 = .ok (.bipush (-6), 2) ∧ decode cX7_beginDay 69 = .ok (.invokevirtual 62, 3) ∧ decode cX7_beginDay 72 = .ok (.iinc 1 1, 3) ∧ decode cX7_beginDay 75 = .ok (.goto (-73), 3) ∧ decode cX7_beginDay 78 = .ok (.iconst 0, 1) ∧ decode cX7_beginDay 79 = .ok (.istore_n 1, 1) ∧ decode cX7_beginDay 80 = .ok (.iload_n 1, 1) ∧ decode cX7_beginDay 81 = .ok (.aload_n 0, 1) ∧ decode cX7_beginDay 82 = .ok (.getfield 7, 3) := by decide +kernel
theorem dX7_beginDay_55 : decode cX7_beginDay 55 = .ok (.iload_n 1, 1) := bdX7_beginDay_55.1
theorem dX7_beginDay_56 : decode cX7_beginDay 56 = .ok (.bipush 12, 2) := bdX7_beginDay_55.2.1
theorem dX7_beginDay_58 : decode cX7_beginDay 58 = .ok (.bipush (-6), 2) := bdX7_beginDay_55.2.2.1
theorem dX7_beginDay_60 : decode cX7_beginDay 60 = .ok (.invokevirtual 62, 3) := bdX7_beginDay_55.2.2.2.1
theorem dX7_beginDay_63 : decode cX7_beginDay 63 = .ok (.aload_n 0, 1) := bdX7_beginDay_55.2.2.2.2.1
theorem dX7_beginDay_64 : decode cX7_beginDay 64 = .ok (.iload_n 1, 1) := bdX7_beginDay_55.2.2.2.2.2.1
theorem dX7_beginDay_65 : decode cX7_beginDay 65 = .ok (.bipush 14, 2) := bdX7_beginDay_55.2.2.2.2.2.2.1
theorem dX7_beginDay_67 : decode cX7_beginDay 67 = .ok (.bipush (-6), 2) := bdX7_beginDay_55.2.2.2.2.2.2.2.1
theorem dX7_beginDay_69 : decode cX7_beginDay 69 = .ok (.invokevirtual 62, 3) := bdX7_beginDay_55.2.2.2.2.2.2.2.2.1
theorem dX7_beginDay_72 : decode cX7_beginDay 72 = .ok (.iinc 1 1, 3) := bdX7_beginDay_55.2.2.2.2.2.2.2.2.2.1
theorem dX7_beginDay_75 : decode cX7_beginDay 75 = .ok (.goto (-73), 3) := bdX7_beginDay_55.2.2.2.2.2.2.2.2.2.2.1
theorem dX7_beginDay_78 : decode cX7_beginDay 78 = .ok (.iconst 0, 1) := bdX7_beginDay_55.2.2.2.2.2.2.2.2.2.2.2.1
theorem dX7_beginDay_79 : decode cX7_beginDay 79 = .ok (.istore_n 1, 1) := bdX7_beginDay_55.2.2.2.2.2.2.2.2.2.2.2.2.1
theorem dX7_beginDay_80 : decode cX7_beginDay 80 = .ok (.iload_n 1, 1) := bdX7_beginDay_55.2.2.2.2.2.2.2.2.2.2.2.2.2.1
theorem dX7_beginDay_81 : decode cX7_beginDay 81 = .ok (.aload_n 0, 1) := bdX7_beginDay_55.2.2.2.2.2.2.2.2.2.2.2.2.2.2.1
theorem dX7_beginDay_82 : decode cX7_beginDay 82 = .ok (.getfield 7, 3) := bdX7_beginDay_55.2.2.2.2.2.2.2.2.2.2.2.2.2.2.2
theorem bdX7_beginDay_85 : decode cX7_beginDay 85 = .ok (.bipush 12, 2) ∧ decode cX7_beginDay 87 = .ok (.iaload, 1) ∧ decode cX7_beginDay 88 = .ok (.if_icmp .ge 24, 3) ∧ decode cX7_beginDay 91 = .ok (.aload_n 0, 1) ∧ decode cX7_beginDay 92 = .ok (.getfield 7, 3) ∧ decode cX7_beginDay 95 = .ok (.bipush 32, 2) ∧ decode cX7_beginDay 97 = .ok (.iconst 4, 1) ∧ decode cX7_beginDay 98 = .ok (.iload_n 1, 1) ∧ decode cX7_beginDay 99 = .ok (.imul, 1) ∧ decode cX7_beginDay 100 = .ok (.iadd, 1) ∧ decode cX7_beginDay 101 = .ok (.iconst 3, 1) ∧ decode cX7_beginDay 102 = .ok (.iadd, 1) ∧ decode cX7_beginDay 103 = .ok (.bipush (-6), 2) ∧ decode cX7_beginDay 105 = .ok (.iastore, 1) ∧ decode cX7_beginDay 106 = .ok (.iinc 1 1, 3) ∧ decode cX7_beginDay 109 = .ok (.goto (-29), 3) := by decide +kernel
theorem dX7_beginDay_85 : decode cX7_beginDay 85 = .ok (.bipush 12, 2) := bdX7_beginDay_85.1
theorem dX7_beginDay_87 : decode cX7_beginDay 87 = .ok (.iaload, 1) := bdX7_beginDay_85.2.1
theorem dX7_beginDay_88 : decode cX7_beginDay 88 = .ok (.if_icmp .ge 24, 3) := bdX7_beginDay_85.2.2.1
theorem dX7_beginDay_91 : decode cX7_beginDay 91 = .ok (.aload_n 0, 1) := bdX7_beginDay_85.2.2.2.1
theorem dX7_beginDay_92 : decode cX7_beginDay 92 = .ok (.getfield 7, 3) := bdX7_beginDay_85.2.2.2.2.1
theorem dX7_beginDay_95 : decode cX7_beginDay 95 = .ok (.bipush 32, 2) := bdX7_beginDay_85.2.2.2.2.2.1
theorem dX7_beginDay_97 : decode cX7_beginDay 97 = .ok (.iconst 4, 1) := bdX7_beginDay_85.2.2.2.2.2.2.1
theorem dX7_beginDay_98 : decode cX7_beginDay 98 = .ok (.iload_n 1, 1) := bdX7_beginDay_85.2.2.2.2.2.2.2.1
theorem dX7_beginDay_99 : decode cX7_beginDay 99 = .ok (.imul, 1) := bdX7_beginDay_85.2.2.2.2.2.2.2.2.1
theorem dX7_beginDay_100 : decode cX7_beginDay 100 = .ok (.iadd, 1) := bdX7_beginDay_85.2.2.2.2.2.2.2.2.2.1
theorem dX7_beginDay_101 : decode cX7_beginDay 101 = .ok (.iconst 3, 1) := bdX7_beginDay_85.2.2.2.2.2.2.2.2.2.2.1
theorem dX7_beginDay_102 : decode cX7_beginDay 102 = .ok (.iadd, 1) := bdX7_beginDay_85.2.2.2.2.2.2.2.2.2.2.2.1
theorem dX7_beginDay_103 : decode cX7_beginDay 103 = .ok (.bipush (-6), 2) := bdX7_beginDay_85.2.2.2.2.2.2.2.2.2.2.2.2.1
theorem dX7_beginDay_105 : decode cX7_beginDay 105 = .ok (.iastore, 1) := bdX7_beginDay_85.2.2.2.2.2.2.2.2.2.2.2.2.2.1
theorem dX7_beginDay_106 : decode cX7_beginDay 106 = .ok (.iinc 1 1, 3) := bdX7_beginDay_85.2.2.2.2.2.2.2.2.2.2.2.2.2.2.1
theorem dX7_beginDay_109 : decode cX7_beginDay 109 = .ok (.goto (-29), 3) := bdX7_beginDay_85.2.2.2.2.2.2.2.2.2.2.2.2.2.2.2
theorem dX7_beginDay_112 : decode cX7_beginDay 112 = .ok (.return_, 1) := by decide +kernel
theorem bdX7_isKindAt_0 : decode cX7_isKindAt 0 = .ok (.aload_n 0, 1) ∧ decode cX7_isKindAt 1 = .ok (.iload_n 1, 1) ∧ decode cX7_isKindAt 2 = .ok (.invokevirtual 54, 3) ∧ decode cX7_isKindAt 5 = .ok (.ifCond .eq 12, 3) ∧ decode cX7_isKindAt 8 = .ok (.aload_n 0, 1) ∧ decode cX7_isKindAt 9 = .ok (.iload_n 1, 1) ∧ decode cX7_isKindAt 10 = .ok (.iconst 3, 1) ∧ decode cX7_isKindAt 11 = .ok (.invokevirtual 58, 3) ∧ decode cX7_isKindAt 14 = .ok (.goto 5, 3) ∧ decode cX7_isKindAt 17 = .ok (.bipush (-6), 2) ∧ decode cX7_isKindAt 19 = .ok (.istore 4, 2) ∧ decode cX7_isKindAt 21 = .ok (.iload 4, 2) ∧ decode cX7_isKindAt 23 = .ok (.ifCond .lt 24, 3) ∧ decode cX7_isKindAt 26 = .ok (.iload 4, 2) ∧ decode cX7_isKindAt 28 = .ok (.iload_n 3, 1) ∧ decode cX7_isKindAt 29 = .ok (.if_icmp .eq 18, 3) := by decide +kernel
theorem dX7_isKindAt_0 : decode cX7_isKindAt 0 = .ok (.aload_n 0, 1) := bdX7_isKindAt_0.1
theorem dX7_isKindAt_1 : decode cX7_isKindAt 1 = .ok (.iload_n 1, 1) := bdX7_isKindAt_0.2.1
theorem dX7_isKindAt_2 : decode cX7_isKindAt 2 = .ok (.invokevirtual 54, 3) := bdX7_isKindAt_0.2.2.1
theorem dX7_isKindAt_5 : decode cX7_isKindAt 5 = .ok (.ifCond .eq 12, 3) := bdX7_isKindAt_0.2.2.2.1
theorem dX7_isKindAt_8 : decode cX7_isKindAt 8 = .ok (.aload_n 0, 1) := bdX7_isKindAt_0.2.2.2.2.1
theorem dX7_isKindAt_9 : decode cX7_isKindAt 9 = .ok (.iload_n 1, 1) := bdX7_isKindAt_0.2.2.2.2.2.1
theorem dX7_isKindAt_10 : decode cX7_isKindAt 10 = .ok (.iconst 3, 1) := bdX7_isKindAt_0.2.2.2.2.2.2.1
theorem dX7_isKindAt_11 : decode cX7_isKindAt 11 = .ok (.invokevirtual 58, 3) := bdX7_isKindAt_0.2.2.2.2.2.2.2.1
theorem dX7_isKindAt_14 : decode cX7_isKindAt 14 = .ok (.goto 5, 3) := bdX7_isKindAt_0.2.2.2.2.2.2.2.2.1
theorem dX7_isKindAt_17 : decode cX7_isKindAt 17 = .ok (.bipush (-6), 2) := bdX7_isKindAt_0.2.2.2.2.2.2.2.2.2.1
theorem dX7_isKindAt_19 : decode cX7_isKindAt 19 = .ok (.istore 4, 2) := bdX7_isKindAt_0.2.2.2.2.2.2.2.2.2.2.1
theorem dX7_isKindAt_21 : decode cX7_isKindAt 21 = .ok (.iload 4, 2) := bdX7_isKindAt_0.2.2.2.2.2.2.2.2.2.2.2.1
theorem dX7_isKindAt_23 : decode cX7_isKindAt 23 = .ok (.ifCond .lt 24, 3) := bdX7_isKindAt_0.2.2.2.2.2.2.2.2.2.2.2.2.1
theorem dX7_isKindAt_26 : decode cX7_isKindAt 26 = .ok (.iload 4, 2) := bdX7_isKindAt_0.2.2.2.2.2.2.2.2.2.2.2.2.2.1
theorem dX7_isKindAt_28 : decode cX7_isKindAt 28 = .ok (.iload_n 3, 1) := bdX7_isKindAt_0.2.2.2.2.2.2.2.2.2.2.2.2.2.2.1
theorem dX7_isKindAt_29 : decode cX7_isKindAt 29 = .ok (.if_icmp .eq 18, 3) := bdX7_isKindAt_0.2.2.2.2.2.2.2.2.2.2.2.2.2.2.2
theorem bdX7_isKindAt_32 : decode cX7_isKindAt 32 = .ok (.aload_n 0, 1) ∧ decode cX7_isKindAt 33 = .ok (.iload 4, 2) ∧ decode cX7_isKindAt 35 = .ok (.iconst 0, 1) ∧ decode cX7_isKindAt 36 = .ok (.invokevirtual 66, 3) ∧ decode cX7_isKindAt 39 = .ok (.iload_n 2, 1) ∧ decode cX7_isKindAt 40 = .ok (.if_icmp .ne 7, 3) ∧ decode cX7_isKindAt 43 = .ok (.iconst 1, 1) ∧ decode cX7_isKindAt 44 = .ok (.goto 4, 3) ∧ decode cX7_isKindAt 47 = .ok (.iconst 0, 1) ∧ decode cX7_isKindAt 48 = .ok (.ireturn, 1) := by decide +kernel
theorem dX7_isKindAt_32 : decode cX7_isKindAt 32 = .ok (.aload_n 0, 1) := bdX7_isKindAt_32.1
theorem dX7_isKindAt_33 : decode cX7_isKindAt 33 = .ok (.iload 4, 2) := bdX7_isKindAt_32.2.1
theorem dX7_isKindAt_35 : decode cX7_isKindAt 35 = .ok (.iconst 0, 1) := bdX7_isKindAt_32.2.2.1
theorem dX7_isKindAt_36 : decode cX7_isKindAt 36 = .ok (.invokevirtual 66, 3) := bdX7_isKindAt_32.2.2.2.1
theorem dX7_isKindAt_39 : decode cX7_isKindAt 39 = .ok (.iload_n 2, 1) := bdX7_isKindAt_32.2.2.2.2.1
theorem dX7_isKindAt_40 : decode cX7_isKindAt 40 = .ok (.if_icmp .ne 7, 3) := bdX7_isKindAt_32.2.2.2.2.2.1
theorem dX7_isKindAt_43 : decode cX7_isKindAt 43 = .ok (.iconst 1, 1) := bdX7_isKindAt_32.2.2.2.2.2.2.1
theorem dX7_isKindAt_44 : decode cX7_isKindAt 44 = .ok (.goto 4, 3) := bdX7_isKindAt_32.2.2.2.2.2.2.2.1
theorem dX7_isKindAt_47 : decode cX7_isKindAt 47 = .ok (.iconst 0, 1) := bdX7_isKindAt_32.2.2.2.2.2.2.2.2.1
theorem dX7_isKindAt_48 : decode cX7_isKindAt 48 = .ok (.ireturn, 1) := bdX7_isKindAt_32.2.2.2.2.2.2.2.2.2
theorem bdX7_isApart_0 : decode cX7_isApart 0 = .ok (.aload_n 0, 1) ∧ decode cX7_isApart 1 = .ok (.iload_n 2, 1) ∧ decode cX7_isApart 2 = .ok (.iconst 1, 1) ∧ decode cX7_isApart 3 = .ok (.isub, 1) ∧ decode cX7_isApart 4 = .ok (.aload_n 0, 1) ∧ decode cX7_isApart 5 = .ok (.iload_n 1, 1) ∧ decode cX7_isApart 6 = .ok (.iconst 0, 1) ∧ decode cX7_isApart 7 = .ok (.invokevirtual 66, 3) ∧ decode cX7_isApart 10 = .ok (.iload_n 1, 1) ∧ decode cX7_isApart 11 = .ok (.invokevirtual 115, 3) ∧ decode cX7_isApart 14 = .ok (.ifCond .ne 24, 3) ∧ decode cX7_isApart 17 = .ok (.aload_n 0, 1) ∧ decode cX7_isApart 18 = .ok (.iload_n 2, 1) ∧ decode cX7_isApart 19 = .ok (.iconst 1, 1) ∧ decode cX7_isApart 20 = .ok (.iadd, 1) ∧ decode cX7_isApart 21 = .ok (.aload_n 0, 1) := by decide +kernel
theorem dX7_isApart_0 : decode cX7_isApart 0 = .ok (.aload_n 0, 1) := bdX7_isApart_0.1
theorem dX7_isApart_1 : decode cX7_isApart 1 = .ok (.iload_n 2, 1) := bdX7_isApart_0.2.1
theorem dX7_isApart_2 : decode cX7_isApart 2 = .ok (.iconst 1, 1) := bdX7_isApart_0.2.2.1
theorem dX7_isApart_3 : decode cX7_isApart 3 = .ok (.isub, 1) := bdX7_isApart_0.2.2.2.1
theorem dX7_isApart_4 : decode cX7_isApart 4 = .ok (.aload_n 0, 1) := bdX7_isApart_0.2.2.2.2.1
theorem dX7_isApart_5 : decode cX7_isApart 5 = .ok (.iload_n 1, 1) := bdX7_isApart_0.2.2.2.2.2.1
theorem dX7_isApart_6 : decode cX7_isApart 6 = .ok (.iconst 0, 1) := bdX7_isApart_0.2.2.2.2.2.2.1
theorem dX7_isApart_7 : decode cX7_isApart 7 = .ok (.invokevirtual 66, 3) := bdX7_isApart_0.2.2.2.2.2.2.2.1
theorem dX7_isApart_10 : decode cX7_isApart 10 = .ok (.iload_n 1, 1) := bdX7_isApart_0.2.2.2.2.2.2.2.2.1
theorem dX7_isApart_11 : decode cX7_isApart 11 = .ok (.invokevirtual 115, 3) := bdX7_isApart_0.2.2.2.2.2.2.2.2.2.1
theorem dX7_isApart_14 : decode cX7_isApart 14 = .ok (.ifCond .ne 24, 3) := bdX7_isApart_0.2.2.2.2.2.2.2.2.2.2.1
theorem dX7_isApart_17 : decode cX7_isApart 17 = .ok (.aload_n 0, 1) := bdX7_isApart_0.2.2.2.2.2.2.2.2.2.2.2.1
theorem dX7_isApart_18 : decode cX7_isApart 18 = .ok (.iload_n 2, 1) := bdX7_isApart_0.2.2.2.2.2.2.2.2.2.2.2.2.1
theorem dX7_isApart_19 : decode cX7_isApart 19 = .ok (.iconst 1, 1) := bdX7_isApart_0.2.2.2.2.2.2.2.2.2.2.2.2.2.1
theorem dX7_isApart_20 : decode cX7_isApart 20 = .ok (.iadd, 1) := bdX7_isApart_0.2.2.2.2.2.2.2.2.2.2.2.2.2.2.1
theorem dX7_isApart_21 : decode cX7_isApart 21 = .ok (.aload_n 0, 1) := bdX7_isApart_0.2.2.2.2.2.2.2.2.2.2.2.2.2.2.2
theorem bdX7_isApart_22 : decode cX7_isApart 22 = .ok (.iload_n 1, 1) ∧ decode cX7_isApart 23 = .ok (.iconst 0, 1) ∧ decode cX7_isApart 24 = .ok (.invokevirtual 66, 3) ∧ decode cX7_isApart 27 = .ok (.iload_n 1, 1) ∧ decode cX7_isApart 28 = .ok (.invokevirtual 115, 3) ∧ decode cX7_isApart 31 = .ok (.ifCond .ne 7, 3) ∧ decode cX7_isApart 34 = .ok (.iconst 1, 1) ∧ decode cX7_isApart 35 = .ok (.goto 4, 3) ∧ decode cX7_isApart 38 = .ok (.iconst 0, 1) ∧ decode cX7_isApart 39 = .ok (.ireturn, 1) := by decide +kernel
theorem dX7_isApart_22 : decode cX7_isApart 22 = .ok (.iload_n 1, 1) := bdX7_isApart_22.1
theorem dX7_isApart_23 : decode cX7_isApart 23 = .ok (.iconst 0, 1) := bdX7_isApart_22.2.1
theorem dX7_isApart_24 : decode cX7_isApart 24 = .ok (.invokevirtual 66, 3) := bdX7_isApart_22.2.2.1
theorem dX7_isApart_27 : decode cX7_isApart 27 = .ok (.iload_n 1, 1) := bdX7_isApart_22.2.2.2.1
theorem dX7_isApart_28 : decode cX7_isApart 28 = .ok (.invokevirtual 115, 3) := bdX7_isApart_22.2.2.2.2.1
theorem dX7_isApart_31 : decode cX7_isApart 31 = .ok (.ifCond .ne 7, 3) := bdX7_isApart_22.2.2.2.2.2.1
theorem dX7_isApart_34 : decode cX7_isApart 34 = .ok (.iconst 1, 1) := bdX7_isApart_22.2.2.2.2.2.2.1
theorem dX7_isApart_35 : decode cX7_isApart 35 = .ok (.goto 4, 3) := bdX7_isApart_22.2.2.2.2.2.2.2.1
theorem dX7_isApart_38 : decode cX7_isApart 38 = .ok (.iconst 0, 1) := bdX7_isApart_22.2.2.2.2.2.2.2.2.1
theorem dX7_isApart_39 : decode cX7_isApart 39 = .ok (.ireturn, 1) := bdX7_isApart_22.2.2.2.2.2.2.2.2.2
theorem bdX7_put_0 : decode cX7_put 0 = .ok (.aload_n 0, 1) ∧ decode cX7_put 1 = .ok (.iload_n 1, 1) ∧ decode cX7_put 2 = .ok (.bipush 11, 2) ∧ decode cX7_put 4 = .ok (.iload_n 2, 1) ∧ decode cX7_put 5 = .ok (.invokevirtual 62, 3) ∧ decode cX7_put 8 = .ok (.aload_n 0, 1) ∧ decode cX7_put 9 = .ok (.getfield 7, 3) ∧ decode cX7_put 12 = .ok (.bipush 32, 2) ∧ decode cX7_put 14 = .ok (.iconst 4, 1) ∧ decode cX7_put 15 = .ok (.iload_n 2, 1) ∧ decode cX7_put 16 = .ok (.imul, 1) ∧ decode cX7_put 17 = .ok (.iadd, 1) ∧ decode cX7_put 18 = .ok (.iconst 3, 1) ∧ decode cX7_put 19 = .ok (.iadd, 1) ∧ decode cX7_put 20 = .ok (.iload_n 1, 1) ∧ decode cX7_put 21 = .ok (.iastore, 1) := by decide +kernel
theorem dX7_put_0 : decode cX7_put 0 = .ok (.aload_n 0, 1) := bdX7_put_0.1
theorem dX7_put_1 : decode cX7_put 1 = .ok (.iload_n 1, 1) := bdX7_put_0.2.1
theorem dX7_put_2 : decode cX7_put 2 = .ok (.bipush 11, 2) := bdX7_put_0.2.2.1
theorem dX7_put_4 : decode cX7_put 4 = .ok (.iload_n 2, 1) := bdX7_put_0.2.2.2.1
theorem dX7_put_5 : decode cX7_put 5 = .ok (.invokevirtual 62, 3) := bdX7_put_0.2.2.2.2.1
theorem dX7_put_8 : decode cX7_put 8 = .ok (.aload_n 0, 1) := bdX7_put_0.2.2.2.2.2.1
theorem dX7_put_9 : decode cX7_put 9 = .ok (.getfield 7, 3) := bdX7_put_0.2.2.2.2.2.2.1
theorem dX7_put_12 : decode cX7_put 12 = .ok (.bipush 32, 2) := bdX7_put_0.2.2.2.2.2.2.2.1
theorem dX7_put_14 : decode cX7_put 14 = .ok (.iconst 4, 1) := bdX7_put_0.2.2.2.2.2.2.2.2.1
theorem dX7_put_15 : decode cX7_put 15 = .ok (.iload_n 2, 1) := bdX7_put_0.2.2.2.2.2.2.2.2.2.1
theorem dX7_put_16 : decode cX7_put 16 = .ok (.imul, 1) := bdX7_put_0.2.2.2.2.2.2.2.2.2.2.1
theorem dX7_put_17 : decode cX7_put 17 = .ok (.iadd, 1) := bdX7_put_0.2.2.2.2.2.2.2.2.2.2.2.1
theorem dX7_put_18 : decode cX7_put 18 = .ok (.iconst 3, 1) := bdX7_put_0.2.2.2.2.2.2.2.2.2.2.2.2.1
theorem dX7_put_19 : decode cX7_put 19 = .ok (.iadd, 1) := bdX7_put_0.2.2.2.2.2.2.2.2.2.2.2.2.2.1
theorem dX7_put_20 : decode cX7_put 20 = .ok (.iload_n 1, 1) := bdX7_put_0.2.2.2.2.2.2.2.2.2.2.2.2.2.2.1
theorem dX7_put_21 : decode cX7_put 21 = .ok (.iastore, 1) := bdX7_put_0.2.2.2.2.2.2.2.2.2.2.2.2.2.2.2
theorem dX7_put_22 : decode cX7_put 22 = .ok (.return_, 1) := by decide +kernel
theorem bdX7_choose_0 : decode cX7_choose 0 = .ok (.iconst 0, 1) ∧ decode cX7_choose 1 = .ok (.istore_n 2, 1) ∧ decode cX7_choose 2 = .ok (.iload_n 2, 1) ∧ decode cX7_choose 3 = .ok (.aload_n 0, 1) ∧ decode cX7_choose 4 = .ok (.iload_n 1, 1) ∧ decode cX7_choose 5 = .ok (.iconst 2, 1) ∧ decode cX7_choose 6 = .ok (.invokevirtual 66, 3) ∧ decode cX7_choose 9 = .ok (.if_icmp .ge 43, 3) ∧ decode cX7_choose 12 = .ok (.aload_n 0, 1) ∧ decode cX7_choose 13 = .ok (.iload_n 1, 1) ∧ decode cX7_choose 14 = .ok (.iconst 3, 1) ∧ decode cX7_choose 15 = .ok (.iload_n 2, 1) ∧ decode cX7_choose 16 = .ok (.iadd, 1) ∧ decode cX7_choose 17 = .ok (.invokevirtual 66, 3) ∧ decode cX7_choose 20 = .ok (.istore_n 3, 1) ∧ decode cX7_choose 21 = .ok (.aload_n 0, 1) := by decide +kernel
theorem dX7_choose_0 : decode cX7_choose 0 = .ok (.iconst 0, 1) := bdX7_choose_0.1
theorem dX7_choose_1 : decode cX7_choose 1 = .ok (.istore_n 2, 1) := bdX7_choose_0.2.1
theorem dX7_choose_2 : decode cX7_choose 2 = .ok (.iload_n 2, 1) := bdX7_choose_0.2.2.1
theorem dX7_choose_3 : decode cX7_choose 3 = .ok (.aload_n 0, 1) := bdX7_choose_0.2.2.2.1
theorem dX7_choose_4 : decode cX7_choose 4 = .ok (.iload_n 1, 1) := bdX7_choose_0.2.2.2.2.1
theorem dX7_choose_5 : decode cX7_choose 5 = .ok (.iconst 2, 1) := bdX7_choose_0.2.2.2.2.2.1
theorem dX7_choose_6 : decode cX7_choose 6 = .ok (.invokevirtual 66, 3) := bdX7_choose_0.2.2.2.2.2.2.1
theorem dX7_choose_9 : decode cX7_choose 9 = .ok (.if_icmp .ge 43, 3) := bdX7_choose_0.2.2.2.2.2.2.2.1
theorem dX7_choose_12 : decode cX7_choose 12 = .ok (.aload_n 0, 1) := bdX7_choose_0.2.2.2.2.2.2.2.2.1
theorem dX7_choose_13 : decode cX7_choose 13 = .ok (.iload_n 1, 1) := bdX7_choose_0.2.2.2.2.2.2.2.2.2.1
theorem dX7_choose_14 : decode cX7_choose 14 = .ok (.iconst 3, 1) := bdX7_choose_0.2.2.2.2.2.2.2.2.2.2.1
theorem dX7_choose_15 : decode cX7_choose 15 = .ok (.iload_n 2, 1) := bdX7_choose_0.2.2.2.2.2.2.2.2.2.2.2.1
theorem dX7_choose_16 : decode cX7_choose 16 = .ok (.iadd, 1) := bdX7_choose_0.2.2.2.2.2.2.2.2.2.2.2.2.1
theorem dX7_choose_17 : decode cX7_choose 17 = .ok (.invokevirtual 66, 3) := bdX7_choose_0.2.2.2.2.2.2.2.2.2.2.2.2.2.1
theorem dX7_choose_20 : decode cX7_choose 20 = .ok (.istore_n 3, 1) := bdX7_choose_0.2.2.2.2.2.2.2.2.2.2.2.2.2.2.1
theorem dX7_choose_21 : decode cX7_choose 21 = .ok (.aload_n 0, 1) := bdX7_choose_0.2.2.2.2.2.2.2.2.2.2.2.2.2.2.2
theorem bdX7_choose_22 : decode cX7_choose 22 = .ok (.iload_n 3, 1) ∧ decode cX7_choose 23 = .ok (.iconst 3, 1) ∧ decode cX7_choose 24 = .ok (.invokevirtual 58, 3) ∧ decode cX7_choose 27 = .ok (.ifCond .ge 19, 3) ∧ decode cX7_choose 30 = .ok (.aload_n 0, 1) ∧ decode cX7_choose 31 = .ok (.iload_n 1, 1) ∧ decode cX7_choose 32 = .ok (.iload_n 3, 1) ∧ decode cX7_choose 33 = .ok (.invokevirtual 118, 3) ∧ decode cX7_choose 36 = .ok (.ifCond .eq 10, 3) ∧ decode cX7_choose 39 = .ok (.aload_n 0, 1) ∧ decode cX7_choose 40 = .ok (.iload_n 1, 1) ∧ decode cX7_choose 41 = .ok (.iload_n 3, 1) ∧ decode cX7_choose 42 = .ok (.invokevirtual 122, 3) ∧ decode cX7_choose 45 = .ok (.return_, 1) ∧ decode cX7_choose 46 = .ok (.iinc 2 1, 3) ∧ decode cX7_choose 49 = .ok (.goto (-47), 3) := by decide +kernel
theorem dX7_choose_22 : decode cX7_choose 22 = .ok (.iload_n 3, 1) := bdX7_choose_22.1
theorem dX7_choose_23 : decode cX7_choose 23 = .ok (.iconst 3, 1) := bdX7_choose_22.2.1
theorem dX7_choose_24 : decode cX7_choose 24 = .ok (.invokevirtual 58, 3) := bdX7_choose_22.2.2.1
theorem dX7_choose_27 : decode cX7_choose 27 = .ok (.ifCond .ge 19, 3) := bdX7_choose_22.2.2.2.1
theorem dX7_choose_30 : decode cX7_choose 30 = .ok (.aload_n 0, 1) := bdX7_choose_22.2.2.2.2.1
theorem dX7_choose_31 : decode cX7_choose 31 = .ok (.iload_n 1, 1) := bdX7_choose_22.2.2.2.2.2.1
theorem dX7_choose_32 : decode cX7_choose 32 = .ok (.iload_n 3, 1) := bdX7_choose_22.2.2.2.2.2.2.1
theorem dX7_choose_33 : decode cX7_choose 33 = .ok (.invokevirtual 118, 3) := bdX7_choose_22.2.2.2.2.2.2.2.1
theorem dX7_choose_36 : decode cX7_choose 36 = .ok (.ifCond .eq 10, 3) := bdX7_choose_22.2.2.2.2.2.2.2.2.1
theorem dX7_choose_39 : decode cX7_choose 39 = .ok (.aload_n 0, 1) := bdX7_choose_22.2.2.2.2.2.2.2.2.2.1
theorem dX7_choose_40 : decode cX7_choose 40 = .ok (.iload_n 1, 1) := bdX7_choose_22.2.2.2.2.2.2.2.2.2.2.1
theorem dX7_choose_41 : decode cX7_choose 41 = .ok (.iload_n 3, 1) := bdX7_choose_22.2.2.2.2.2.2.2.2.2.2.2.1
theorem dX7_choose_42 : decode cX7_choose 42 = .ok (.invokevirtual 122, 3) := bdX7_choose_22.2.2.2.2.2.2.2.2.2.2.2.2.1
theorem dX7_choose_45 : decode cX7_choose 45 = .ok (.return_, 1) := bdX7_choose_22.2.2.2.2.2.2.2.2.2.2.2.2.2.1
theorem dX7_choose_46 : decode cX7_choose 46 = .ok (.iinc 2 1, 3) := bdX7_choose_22.2.2.2.2.2.2.2.2.2.2.2.2.2.2.1
theorem dX7_choose_49 : decode cX7_choose 49 = .ok (.goto (-47), 3) := bdX7_choose_22.2.2.2.2.2.2.2.2.2.2.2.2.2.2.2
theorem bdX7_choose_52 : decode cX7_choose 52 = .ok (.aload_n 0, 1) ∧ decode cX7_choose 53 = .ok (.iload_n 1, 1) ∧ decode cX7_choose 54 = .ok (.bipush 13, 2) ∧ decode cX7_choose 56 = .ok (.iconst 4, 1) ∧ decode cX7_choose 57 = .ok (.invokevirtual 62, 3) ∧ decode cX7_choose 60 = .ok (.return_, 1) := by decide +kernel
theorem dX7_choose_52 : decode cX7_choose 52 = .ok (.aload_n 0, 1) := bdX7_choose_52.1
theorem dX7_choose_53 : decode cX7_choose 53 = .ok (.iload_n 1, 1) := bdX7_choose_52.2.1
theorem dX7_choose_54 : decode cX7_choose 54 = .ok (.bipush 13, 2) := bdX7_choose_52.2.2.1
theorem dX7_choose_56 : decode cX7_choose 56 = .ok (.iconst 4, 1) := bdX7_choose_52.2.2.2.1
theorem dX7_choose_57 : decode cX7_choose 57 = .ok (.invokevirtual 62, 3) := bdX7_choose_52.2.2.2.2.1
theorem dX7_choose_60 : decode cX7_choose 60 = .ok (.return_, 1) := bdX7_choose_52.2.2.2.2.2
theorem bdX7_isToDraw_0 : decode cX7_isToDraw 0 = .ok (.aload_n 0, 1) ∧ decode cX7_isToDraw 1 = .ok (.iload_n 1, 1) ∧ decode cX7_isToDraw 2 = .ok (.bipush 19, 2) ∧ decode cX7_isToDraw 4 = .ok (.invokevirtual 66, 3) ∧ decode cX7_isToDraw 7 = .ok (.iconst 1, 1) ∧ decode cX7_isToDraw 8 = .ok (.if_icmp .ne 17, 3) ∧ decode cX7_isToDraw 11 = .ok (.aload_n 0, 1) ∧ decode cX7_isToDraw 12 = .ok (.iload_n 1, 1) ∧ decode cX7_isToDraw 13 = .ok (.bipush 14, 2) ∧ decode cX7_isToDraw 15 = .ok (.invokevirtual 66, 3) ∧ decode cX7_isToDraw 18 = .ok (.ifCond .ge 7, 3) ∧ decode cX7_isToDraw 21 = .ok (.iconst 1, 1) ∧ decode cX7_isToDraw 22 = .ok (.goto 4, 3) ∧ decode cX7_isToDraw 25 = .ok (.iconst 0, 1) ∧ decode cX7_isToDraw 26 = .ok (.ireturn, 1) := by decide +kernel
theorem dX7_isToDraw_0 : decode cX7_isToDraw 0 = .ok (.aload_n 0, 1) := bdX7_isToDraw_0.1
theorem dX7_isToDraw_1 : decode cX7_isToDraw 1 = .ok (.iload_n 1, 1) := bdX7_isToDraw_0.2.1
theorem dX7_isToDraw_2 : decode cX7_isToDraw 2 = .ok (.bipush 19, 2) := bdX7_isToDraw_0.2.2.1
theorem dX7_isToDraw_4 : decode cX7_isToDraw 4 = .ok (.invokevirtual 66, 3) := bdX7_isToDraw_0.2.2.2.1
theorem dX7_isToDraw_7 : decode cX7_isToDraw 7 = .ok (.iconst 1, 1) := bdX7_isToDraw_0.2.2.2.2.1
theorem dX7_isToDraw_8 : decode cX7_isToDraw 8 = .ok (.if_icmp .ne 17, 3) := bdX7_isToDraw_0.2.2.2.2.2.1
theorem dX7_isToDraw_11 : decode cX7_isToDraw 11 = .ok (.aload_n 0, 1) := bdX7_isToDraw_0.2.2.2.2.2.2.1
theorem dX7_isToDraw_12 : decode cX7_isToDraw 12 = .ok (.iload_n 1, 1) := bdX7_isToDraw_0.2.2.2.2.2.2.2.1
theorem dX7_isToDraw_13 : decode cX7_isToDraw 13 = .ok (.bipush 14, 2) := bdX7_isToDraw_0.2.2.2.2.2.2.2.2.1
theorem dX7_isToDraw_15 : decode cX7_isToDraw 15 = .ok (.invokevirtual 66, 3) := bdX7_isToDraw_0.2.2.2.2.2.2.2.2.2.1
theorem dX7_isToDraw_18 : decode cX7_isToDraw 18 = .ok (.ifCond .ge 7, 3) := bdX7_isToDraw_0.2.2.2.2.2.2.2.2.2.2.1
theorem dX7_isToDraw_21 : decode cX7_isToDraw 21 = .ok (.iconst 1, 1) := bdX7_isToDraw_0.2.2.2.2.2.2.2.2.2.2.2.1
theorem dX7_isToDraw_22 : decode cX7_isToDraw 22 = .ok (.goto 4, 3) := bdX7_isToDraw_0.2.2.2.2.2.2.2.2.2.2.2.2.1
theorem dX7_isToDraw_25 : decode cX7_isToDraw 25 = .ok (.iconst 0, 1) := bdX7_isToDraw_0.2.2.2.2.2.2.2.2.2.2.2.2.2.1
theorem dX7_isToDraw_26 : decode cX7_isToDraw 26 = .ok (.ireturn, 1) := bdX7_isToDraw_0.2.2.2.2.2.2.2.2.2.2.2.2.2.2
theorem bdX7_ticketsOf_0 : decode cX7_ticketsOf 0 = .ok (.iconst 1, 1) ∧ decode cX7_ticketsOf 1 = .ok (.aload_n 0, 1) ∧ decode cX7_ticketsOf 2 = .ok (.iload_n 1, 1) ∧ decode cX7_ticketsOf 3 = .ok (.bipush 6, 2) ∧ decode cX7_ticketsOf 5 = .ok (.invokevirtual 66, 3) ∧ decode cX7_ticketsOf 8 = .ok (.iadd, 1) ∧ decode cX7_ticketsOf 9 = .ok (.istore_n 2, 1) ∧ decode cX7_ticketsOf 10 = .ok (.iload_n 2, 1) ∧ decode cX7_ticketsOf 11 = .ok (.aload_n 0, 1) ∧ decode cX7_ticketsOf 12 = .ok (.getfield 7, 3) ∧ decode cX7_ticketsOf 15 = .ok (.iconst 0, 1) ∧ decode cX7_ticketsOf 16 = .ok (.iaload, 1) ∧ decode cX7_ticketsOf 17 = .ok (.if_icmp .ge 7, 3) ∧ decode cX7_ticketsOf 20 = .ok (.iload_n 2, 1) ∧ decode cX7_ticketsOf 21 = .ok (.goto 9, 3) ∧ decode cX7_ticketsOf 24 = .ok (.aload_n 0, 1) := by decide +kernel
theorem dX7_ticketsOf_0 : decode cX7_ticketsOf 0 = .ok (.iconst 1, 1) := bdX7_ticketsOf_0.1
theorem dX7_ticketsOf_1 : decode cX7_ticketsOf 1 = .ok (.aload_n 0, 1) := bdX7_ticketsOf_0.2.1
theorem dX7_ticketsOf_2 : decode cX7_ticketsOf 2 = .ok (.iload_n 1, 1) := bdX7_ticketsOf_0.2.2.1
theorem dX7_ticketsOf_3 : decode cX7_ticketsOf 3 = .ok (.bipush 6, 2) := bdX7_ticketsOf_0.2.2.2.1
theorem dX7_ticketsOf_5 : decode cX7_ticketsOf 5 = .ok (.invokevirtual 66, 3) := bdX7_ticketsOf_0.2.2.2.2.1
theorem dX7_ticketsOf_8 : decode cX7_ticketsOf 8 = .ok (.iadd, 1) := bdX7_ticketsOf_0.2.2.2.2.2.1
theorem dX7_ticketsOf_9 : decode cX7_ticketsOf 9 = .ok (.istore_n 2, 1) := bdX7_ticketsOf_0.2.2.2.2.2.2.1
theorem dX7_ticketsOf_10 : decode cX7_ticketsOf 10 = .ok (.iload_n 2, 1) := bdX7_ticketsOf_0.2.2.2.2.2.2.2.1
theorem dX7_ticketsOf_11 : decode cX7_ticketsOf 11 = .ok (.aload_n 0, 1) := bdX7_ticketsOf_0.2.2.2.2.2.2.2.2.1
theorem dX7_ticketsOf_12 : decode cX7_ticketsOf 12 = .ok (.getfield 7, 3) := bdX7_ticketsOf_0.2.2.2.2.2.2.2.2.2.1
theorem dX7_ticketsOf_15 : decode cX7_ticketsOf 15 = .ok (.iconst 0, 1) := bdX7_ticketsOf_0.2.2.2.2.2.2.2.2.2.2.1
theorem dX7_ticketsOf_16 : decode cX7_ticketsOf 16 = .ok (.iaload, 1) := bdX7_ticketsOf_0.2.2.2.2.2.2.2.2.2.2.2.1
theorem dX7_ticketsOf_17 : decode cX7_ticketsOf 17 = .ok (.if_icmp .ge 7, 3) := bdX7_ticketsOf_0.2.2.2.2.2.2.2.2.2.2.2.2.1
theorem dX7_ticketsOf_20 : decode cX7_ticketsOf 20 = .ok (.iload_n 2, 1) := bdX7_ticketsOf_0.2.2.2.2.2.2.2.2.2.2.2.2.2.1
theorem dX7_ticketsOf_21 : decode cX7_ticketsOf 21 = .ok (.goto 9, 3) := bdX7_ticketsOf_0.2.2.2.2.2.2.2.2.2.2.2.2.2.2.1
theorem dX7_ticketsOf_24 : decode cX7_ticketsOf 24 = .ok (.aload_n 0, 1) := bdX7_ticketsOf_0.2.2.2.2.2.2.2.2.2.2.2.2.2.2.2
theorem bdX7_ticketsOf_25 : decode cX7_ticketsOf 25 = .ok (.getfield 7, 3) ∧ decode cX7_ticketsOf 28 = .ok (.iconst 0, 1) ∧ decode cX7_ticketsOf 29 = .ok (.iaload, 1) ∧ decode cX7_ticketsOf 30 = .ok (.ireturn, 1) := by decide +kernel
theorem dX7_ticketsOf_25 : decode cX7_ticketsOf 25 = .ok (.getfield 7, 3) := bdX7_ticketsOf_25.1
theorem dX7_ticketsOf_28 : decode cX7_ticketsOf 28 = .ok (.iconst 0, 1) := bdX7_ticketsOf_25.2.1
theorem dX7_ticketsOf_29 : decode cX7_ticketsOf 29 = .ok (.iaload, 1) := bdX7_ticketsOf_25.2.2.1
theorem dX7_ticketsOf_30 : decode cX7_ticketsOf 30 = .ok (.ireturn, 1) := bdX7_ticketsOf_25.2.2.2
theorem bdX7_drawOne_0 : decode cX7_drawOne 0 = .ok (.aload_n 0, 1) ∧ decode cX7_drawOne 1 = .ok (.getfield 7, 3) ∧ decode cX7_drawOne 4 = .ok (.bipush 11, 2) ∧ decode cX7_drawOne 6 = .ok (.bipush 75, 2) ∧ decode cX7_drawOne 8 = .ok (.aload_n 0, 1) ∧ decode cX7_drawOne 9 = .ok (.getfield 7, 3) ∧ decode cX7_drawOne 12 = .ok (.bipush 11, 2) ∧ decode cX7_drawOne 14 = .ok (.iaload, 1) ∧ decode cX7_drawOne 15 = .ok (.imul, 1) ∧ decode cX7_drawOne 16 = .ok (.bipush 74, 2) ∧ decode cX7_drawOne 18 = .ok (.iadd, 1) ∧ decode cX7_drawOne 19 = .ok (.ldc 125, 2) ∧ decode cX7_drawOne 21 = .ok (.irem, 1) ∧ decode cX7_drawOne 22 = .ok (.iastore, 1) ∧ decode cX7_drawOne 23 = .ok (.aload_n 0, 1) ∧ decode cX7_drawOne 24 = .ok (.getfield 7, 3) := by decide +kernel
theorem dX7_drawOne_0 : decode cX7_drawOne 0 = .ok (.aload_n 0, 1) := bdX7_drawOne_0.1
theorem dX7_drawOne_1 : decode cX7_drawOne 1 = .ok (.getfield 7, 3) := bdX7_drawOne_0.2.1
theorem dX7_drawOne_4 : decode cX7_drawOne 4 = .ok (.bipush 11, 2) := bdX7_drawOne_0.2.2.1
theorem dX7_drawOne_6 : decode cX7_drawOne 6 = .ok (.bipush 75, 2) := bdX7_drawOne_0.2.2.2.1
theorem dX7_drawOne_8 : decode cX7_drawOne 8 = .ok (.aload_n 0, 1) := bdX7_drawOne_0.2.2.2.2.1
theorem dX7_drawOne_9 : decode cX7_drawOne 9 = .ok (.getfield 7, 3) := bdX7_drawOne_0.2.2.2.2.2.1
theorem dX7_drawOne_12 : decode cX7_drawOne 12 = .ok (.bipush 11, 2) := bdX7_drawOne_0.2.2.2.2.2.2.1
theorem dX7_drawOne_14 : decode cX7_drawOne 14 = .ok (.iaload, 1) := bdX7_drawOne_0.2.2.2.2.2.2.2.1
theorem dX7_drawOne_15 : decode cX7_drawOne 15 = .ok (.imul, 1) := bdX7_drawOne_0.2.2.2.2.2.2.2.2.1
theorem dX7_drawOne_16 : decode cX7_drawOne 16 = .ok (.bipush 74, 2) := bdX7_drawOne_0.2.2.2.2.2.2.2.2.2.1
theorem dX7_drawOne_18 : decode cX7_drawOne 18 = .ok (.iadd, 1) := bdX7_drawOne_0.2.2.2.2.2.2.2.2.2.2.1
theorem dX7_drawOne_19 : decode cX7_drawOne 19 = .ok (.ldc 125, 2) := bdX7_drawOne_0.2.2.2.2.2.2.2.2.2.2.2.1
theorem dX7_drawOne_21 : decode cX7_drawOne 21 = .ok (.irem, 1) := bdX7_drawOne_0.2.2.2.2.2.2.2.2.2.2.2.2.1
theorem dX7_drawOne_22 : decode cX7_drawOne 22 = .ok (.iastore, 1) := bdX7_drawOne_0.2.2.2.2.2.2.2.2.2.2.2.2.2.1
theorem dX7_drawOne_23 : decode cX7_drawOne 23 = .ok (.aload_n 0, 1) := bdX7_drawOne_0.2.2.2.2.2.2.2.2.2.2.2.2.2.2.1
theorem dX7_drawOne_24 : decode cX7_drawOne 24 = .ok (.getfield 7, 3) := bdX7_drawOne_0.2.2.2.2.2.2.2.2.2.2.2.2.2.2.2
theorem bdX7_drawOne_27 : decode cX7_drawOne 27 = .ok (.bipush 11, 2) ∧ decode cX7_drawOne 29 = .ok (.iaload, 1) ∧ decode cX7_drawOne 30 = .ok (.iload_n 1, 1) ∧ decode cX7_drawOne 31 = .ok (.irem, 1) ∧ decode cX7_drawOne 32 = .ok (.istore_n 2, 1) ∧ decode cX7_drawOne 33 = .ok (.iconst 0, 1) ∧ decode cX7_drawOne 34 = .ok (.istore_n 3, 1) ∧ decode cX7_drawOne 35 = .ok (.aload_n 0, 1) ∧ decode cX7_drawOne 36 = .ok (.iload_n 3, 1) ∧ decode cX7_drawOne 37 = .ok (.invokevirtual 126, 3) ∧ decode cX7_drawOne 40 = .ok (.ifCond .eq 12, 3) ∧ decode cX7_drawOne 43 = .ok (.iload_n 2, 1) ∧ decode cX7_drawOne 44 = .ok (.aload_n 0, 1) ∧ decode cX7_drawOne 45 = .ok (.iload_n 3, 1) ∧ decode cX7_drawOne 46 = .ok (.invokevirtual 129, 3) ∧ decode cX7_drawOne 49 = .ok (.if_icmp .lt 29, 3) := by decide +kernel
theorem dX7_drawOne_27 : decode cX7_drawOne 27 = .ok (.bipush 11, 2) := bdX7_drawOne_27.1
theorem dX7_drawOne_29 : decode cX7_drawOne 29 = .ok (.iaload, 1) := bdX7_drawOne_27.2.1
theorem dX7_drawOne_30 : decode cX7_drawOne 30 = .ok (.iload_n 1, 1) := bdX7_drawOne_27.2.2.1
theorem dX7_drawOne_31 : decode cX7_drawOne 31 = .ok (.irem, 1) := bdX7_drawOne_27.2.2.2.1
theorem dX7_drawOne_32 : decode cX7_drawOne 32 = .ok (.istore_n 2, 1) := bdX7_drawOne_27.2.2.2.2.1
theorem dX7_drawOne_33 : decode cX7_drawOne 33 = .ok (.iconst 0, 1) := bdX7_drawOne_27.2.2.2.2.2.1
theorem dX7_drawOne_34 : decode cX7_drawOne 34 = .ok (.istore_n 3, 1) := bdX7_drawOne_27.2.2.2.2.2.2.1
theorem dX7_drawOne_35 : decode cX7_drawOne 35 = .ok (.aload_n 0, 1) := bdX7_drawOne_27.2.2.2.2.2.2.2.1
theorem dX7_drawOne_36 : decode cX7_drawOne 36 = .ok (.iload_n 3, 1) := bdX7_drawOne_27.2.2.2.2.2.2.2.2.1
theorem dX7_drawOne_37 : decode cX7_drawOne 37 = .ok (.invokevirtual 126, 3) := bdX7_drawOne_27.2.2.2.2.2.2.2.2.2.1
theorem dX7_drawOne_40 : decode cX7_drawOne 40 = .ok (.ifCond .eq 12, 3) := bdX7_drawOne_27.2.2.2.2.2.2.2.2.2.2.1
theorem dX7_drawOne_43 : decode cX7_drawOne 43 = .ok (.iload_n 2, 1) := bdX7_drawOne_27.2.2.2.2.2.2.2.2.2.2.2.1
theorem dX7_drawOne_44 : decode cX7_drawOne 44 = .ok (.aload_n 0, 1) := bdX7_drawOne_27.2.2.2.2.2.2.2.2.2.2.2.2.1
theorem dX7_drawOne_45 : decode cX7_drawOne 45 = .ok (.iload_n 3, 1) := bdX7_drawOne_27.2.2.2.2.2.2.2.2.2.2.2.2.2.1
theorem dX7_drawOne_46 : decode cX7_drawOne 46 = .ok (.invokevirtual 129, 3) := bdX7_drawOne_27.2.2.2.2.2.2.2.2.2.2.2.2.2.2.1
theorem dX7_drawOne_49 : decode cX7_drawOne 49 = .ok (.if_icmp .lt 29, 3) := bdX7_drawOne_27.2.2.2.2.2.2.2.2.2.2.2.2.2.2.2
theorem bdX7_drawOne_52 : decode cX7_drawOne 52 = .ok (.iload_n 2, 1) ∧ decode cX7_drawOne 53 = .ok (.aload_n 0, 1) ∧ decode cX7_drawOne 54 = .ok (.iload_n 3, 1) ∧ decode cX7_drawOne 55 = .ok (.invokevirtual 126, 3) ∧ decode cX7_drawOne 58 = .ok (.ifCond .eq 11, 3) ∧ decode cX7_drawOne 61 = .ok (.aload_n 0, 1) ∧ decode cX7_drawOne 62 = .ok (.iload_n 3, 1) ∧ decode cX7_drawOne 63 = .ok (.invokevirtual 129, 3) ∧ decode cX7_drawOne 66 = .ok (.goto 4, 3) ∧ decode cX7_drawOne 69 = .ok (.iconst 0, 1) ∧ decode cX7_drawOne 70 = .ok (.isub, 1) ∧ decode cX7_drawOne 71 = .ok (.istore_n 2, 1) ∧ decode cX7_drawOne 72 = .ok (.iinc 3 1, 3) ∧ decode cX7_drawOne 75 = .ok (.goto (-40), 3) ∧ decode cX7_drawOne 78 = .ok (.iload_n 3, 1) ∧ decode cX7_drawOne 79 = .ok (.ireturn, 1) := by decide +kernel
theorem dX7_drawOne_52 : decode cX7_drawOne 52 = .ok (.iload_n 2, 1) := bdX7_drawOne_52.1
theorem dX7_drawOne_53 : decode cX7_drawOne 53 = .ok (.aload_n 0, 1) := bdX7_drawOne_52.2.1
theorem dX7_drawOne_54 : decode cX7_drawOne 54 = .ok (.iload_n 3, 1) := bdX7_drawOne_52.2.2.1
theorem dX7_drawOne_55 : decode cX7_drawOne 55 = .ok (.invokevirtual 126, 3) := bdX7_drawOne_52.2.2.2.1
theorem dX7_drawOne_58 : decode cX7_drawOne 58 = .ok (.ifCond .eq 11, 3) := bdX7_drawOne_52.2.2.2.2.1
theorem dX7_drawOne_61 : decode cX7_drawOne 61 = .ok (.aload_n 0, 1) := bdX7_drawOne_52.2.2.2.2.2.1
theorem dX7_drawOne_62 : decode cX7_drawOne 62 = .ok (.iload_n 3, 1) := bdX7_drawOne_52.2.2.2.2.2.2.1
theorem dX7_drawOne_63 : decode cX7_drawOne 63 = .ok (.invokevirtual 129, 3) := bdX7_drawOne_52.2.2.2.2.2.2.2.1
theorem dX7_drawOne_66 : decode cX7_drawOne 66 = .ok (.goto 4, 3) := bdX7_drawOne_52.2.2.2.2.2.2.2.2.1
theorem dX7_drawOne_69 : decode cX7_drawOne 69 = .ok (.iconst 0, 1) := bdX7_drawOne_52.2.2.2.2.2.2.2.2.2.1
theorem dX7_drawOne_70 : decode cX7_drawOne 70 = .ok (.isub, 1) := bdX7_drawOne_52.2.2.2.2.2.2.2.2.2.2.1
theorem dX7_drawOne_71 : decode cX7_drawOne 71 = .ok (.istore_n 2, 1) := bdX7_drawOne_52.2.2.2.2.2.2.2.2.2.2.2.1
theorem dX7_drawOne_72 : decode cX7_drawOne 72 = .ok (.iinc 3 1, 3) := bdX7_drawOne_52.2.2.2.2.2.2.2.2.2.2.2.2.1
theorem dX7_drawOne_75 : decode cX7_drawOne 75 = .ok (.goto (-40), 3) := bdX7_drawOne_52.2.2.2.2.2.2.2.2.2.2.2.2.2.1
theorem dX7_drawOne_78 : decode cX7_drawOne 78 = .ok (.iload_n 3, 1) := bdX7_drawOne_52.2.2.2.2.2.2.2.2.2.2.2.2.2.2.1
theorem dX7_drawOne_79 : decode cX7_drawOne 79 = .ok (.ireturn, 1) := bdX7_drawOne_52.2.2.2.2.2.2.2.2.2.2.2.2.2.2.2
theorem bdX7_drawAll_0 : decode cX7_drawAll 0 = .ok (.iconst 0, 1) ∧ decode cX7_drawAll 1 = .ok (.istore_n 1, 1) ∧ decode cX7_drawAll 2 = .ok (.iconst 1, 1) ∧ decode cX7_drawAll 3 = .ok (.istore_n 2, 1) ∧ decode cX7_drawAll 4 = .ok (.iload_n 2, 1) ∧ decode cX7_drawAll 5 = .ok (.ifCond .eq 90, 3) ∧ decode cX7_drawAll 8 = .ok (.iconst 0, 1) ∧ decode cX7_drawAll 9 = .ok (.istore_n 3, 1) ∧ decode cX7_drawAll 10 = .ok (.iconst 0, 1) ∧ decode cX7_drawAll 11 = .ok (.istore 4, 2) ∧ decode cX7_drawAll 13 = .ok (.iload 4, 2) ∧ decode cX7_drawAll 15 = .ok (.aload_n 0, 1) ∧ decode cX7_drawAll 16 = .ok (.getfield 7, 3) ∧ decode cX7_drawAll 19 = .ok (.bipush 13, 2) ∧ decode cX7_drawAll 21 = .ok (.iaload, 1) ∧ decode cX7_drawAll 22 = .ok (.if_icmp .ge 31, 3) := by decide +kernel
theorem dX7_drawAll_0 : decode cX7_drawAll 0 = .ok (.iconst 0, 1) := bdX7_drawAll_0.1
theorem dX7_drawAll_1 : decode cX7_drawAll 1 = .ok (.istore_n 1, 1) := bdX7_drawAll_0.2.1
theorem dX7_drawAll_2 : decode cX7_drawAll 2 = .ok (.iconst 1, 1) := bdX7_drawAll_0.2.2.1
theorem dX7_drawAll_3 : decode cX7_drawAll 3 = .ok (.istore_n 2, 1) := bdX7_drawAll_0.2.2.2.1
theorem dX7_drawAll_4 : decode cX7_drawAll 4 = .ok (.iload_n 2, 1) := bdX7_drawAll_0.2.2.2.2.1
theorem dX7_drawAll_5 : decode cX7_drawAll 5 = .ok (.ifCond .eq 90, 3) := bdX7_drawAll_0.2.2.2.2.2.1
theorem dX7_drawAll_8 : decode cX7_drawAll 8 = .ok (.iconst 0, 1) := bdX7_drawAll_0.2.2.2.2.2.2.1
theorem dX7_drawAll_9 : decode cX7_drawAll 9 = .ok (.istore_n 3, 1) := bdX7_drawAll_0.2.2.2.2.2.2.2.1
theorem dX7_drawAll_10 : decode cX7_drawAll 10 = .ok (.iconst 0, 1) := bdX7_drawAll_0.2.2.2.2.2.2.2.2.1
theorem dX7_drawAll_11 : decode cX7_drawAll 11 = .ok (.istore 4, 2) := bdX7_drawAll_0.2.2.2.2.2.2.2.2.2.1
theorem dX7_drawAll_13 : decode cX7_drawAll 13 = .ok (.iload 4, 2) := bdX7_drawAll_0.2.2.2.2.2.2.2.2.2.2.1
theorem dX7_drawAll_15 : decode cX7_drawAll 15 = .ok (.aload_n 0, 1) := bdX7_drawAll_0.2.2.2.2.2.2.2.2.2.2.2.1
theorem dX7_drawAll_16 : decode cX7_drawAll 16 = .ok (.getfield 7, 3) := bdX7_drawAll_0.2.2.2.2.2.2.2.2.2.2.2.2.1
theorem dX7_drawAll_19 : decode cX7_drawAll 19 = .ok (.bipush 13, 2) := bdX7_drawAll_0.2.2.2.2.2.2.2.2.2.2.2.2.2.1
theorem dX7_drawAll_21 : decode cX7_drawAll 21 = .ok (.iaload, 1) := bdX7_drawAll_0.2.2.2.2.2.2.2.2.2.2.2.2.2.2.1
theorem dX7_drawAll_22 : decode cX7_drawAll 22 = .ok (.if_icmp .ge 31, 3) := bdX7_drawAll_0.2.2.2.2.2.2.2.2.2.2.2.2.2.2.2
theorem bdX7_drawAll_25 : decode cX7_drawAll 25 = .ok (.iload_n 3, 1) ∧ decode cX7_drawAll 26 = .ok (.aload_n 0, 1) ∧ decode cX7_drawAll 27 = .ok (.iload 4, 2) ∧ decode cX7_drawAll 29 = .ok (.invokevirtual 126, 3) ∧ decode cX7_drawAll 32 = .ok (.ifCond .eq 12, 3) ∧ decode cX7_drawAll 35 = .ok (.aload_n 0, 1) ∧ decode cX7_drawAll 36 = .ok (.iload 4, 2) ∧ decode cX7_drawAll 38 = .ok (.invokevirtual 129, 3) ∧ decode cX7_drawAll 41 = .ok (.goto 4, 3) ∧ decode cX7_drawAll 44 = .ok (.iconst 0, 1) ∧ decode cX7_drawAll 45 = .ok (.iadd, 1) ∧ decode cX7_drawAll 46 = .ok (.istore_n 3, 1) ∧ decode cX7_drawAll 47 = .ok (.iinc 4 1, 3) ∧ decode cX7_drawAll 50 = .ok (.goto (-37), 3) ∧ decode cX7_drawAll 53 = .ok (.iload_n 3, 1) ∧ decode cX7_drawAll 54 = .ok (.ifCond .le 7, 3) := by decide +kernel
theorem dX7_drawAll_25 : decode cX7_drawAll 25 = .ok (.iload_n 3, 1) := bdX7_drawAll_25.1
theorem dX7_drawAll_26 : decode cX7_drawAll 26 = .ok (.aload_n 0, 1) := bdX7_drawAll_25.2.1
theorem dX7_drawAll_27 : decode cX7_drawAll 27 = .ok (.iload 4, 2) := bdX7_drawAll_25.2.2.1
theorem dX7_drawAll_29 : decode cX7_drawAll 29 = .ok (.invokevirtual 126, 3) := bdX7_drawAll_25.2.2.2.1
theorem dX7_drawAll_32 : decode cX7_drawAll 32 = .ok (.ifCond .eq 12, 3) := bdX7_drawAll_25.2.2.2.2.1
theorem dX7_drawAll_35 : decode cX7_drawAll 35 = .ok (.aload_n 0, 1) := bdX7_drawAll_25.2.2.2.2.2.1
theorem dX7_drawAll_36 : decode cX7_drawAll 36 = .ok (.iload 4, 2) := bdX7_drawAll_25.2.2.2.2.2.2.1
theorem dX7_drawAll_38 : decode cX7_drawAll 38 = .ok (.invokevirtual 129, 3) := bdX7_drawAll_25.2.2.2.2.2.2.2.1
theorem dX7_drawAll_41 : decode cX7_drawAll 41 = .ok (.goto 4, 3) := bdX7_drawAll_25.2.2.2.2.2.2.2.2.1
theorem dX7_drawAll_44 : decode cX7_drawAll 44 = .ok (.iconst 0, 1) := bdX7_drawAll_25.2.2.2.2.2.2.2.2.2.1
theorem dX7_drawAll_45 : decode cX7_drawAll 45 = .ok (.iadd, 1) := bdX7_drawAll_25.2.2.2.2.2.2.2.2.2.2.1
theorem dX7_drawAll_46 : decode cX7_drawAll 46 = .ok (.istore_n 3, 1) := bdX7_drawAll_25.2.2.2.2.2.2.2.2.2.2.2.1
theorem dX7_drawAll_47 : decode cX7_drawAll 47 = .ok (.iinc 4 1, 3) := bdX7_drawAll_25.2.2.2.2.2.2.2.2.2.2.2.2.1
theorem dX7_drawAll_50 : decode cX7_drawAll 50 = .ok (.goto (-37), 3) := bdX7_drawAll_25.2.2.2.2.2.2.2.2.2.2.2.2.2.1
theorem dX7_drawAll_53 : decode cX7_drawAll 53 = .ok (.iload_n 3, 1) := bdX7_drawAll_25.2.2.2.2.2.2.2.2.2.2.2.2.2.2.1
theorem dX7_drawAll_54 : decode cX7_drawAll 54 = .ok (.ifCond .le 7, 3) := bdX7_drawAll_25.2.2.2.2.2.2.2.2.2.2.2.2.2.2.2
theorem bdX7_drawAll_57 : decode cX7_drawAll 57 = .ok (.iconst 1, 1) ∧ decode cX7_drawAll 58 = .ok (.goto 4, 3) ∧ decode cX7_drawAll 61 = .ok (.iconst 0, 1) ∧ decode cX7_drawAll 62 = .ok (.istore_n 2, 1) ∧ decode cX7_drawAll 63 = .ok (.iload_n 2, 1) ∧ decode cX7_drawAll 64 = .ok (.ifCond .eq 28, 3) ∧ decode cX7_drawAll 67 = .ok (.aload_n 0, 1) ∧ decode cX7_drawAll 68 = .ok (.iload_n 3, 1) ∧ decode cX7_drawAll 69 = .ok (.invokevirtual 132, 3) ∧ decode cX7_drawAll 72 = .ok (.istore 4, 2) ∧ decode cX7_drawAll 74 = .ok (.aload_n 0, 1) ∧ decode cX7_drawAll 75 = .ok (.iload 4, 2) ∧ decode cX7_drawAll 77 = .ok (.bipush 14, 2) ∧ decode cX7_drawAll 79 = .ok (.iload_n 1, 1) ∧ decode cX7_drawAll 80 = .ok (.invokevirtual 62, 3) ∧ decode cX7_drawAll 83 = .ok (.iinc 1 1, 3) := by decide +kernel
theorem dX7_drawAll_57 : decode cX7_drawAll 57 = .ok (.iconst 1, 1) := bdX7_drawAll_57.1
theorem dX7_drawAll_58 : decode cX7_drawAll 58 = .ok (.goto 4, 3) := bdX7_drawAll_57.2.1
theorem dX7_drawAll_61 : decode cX7_drawAll 61 = .ok (.iconst 0, 1) := bdX7_drawAll_57.2.2.1
theorem dX7_drawAll_62 : decode cX7_drawAll 62 = .ok (.istore_n 2, 1) := bdX7_drawAll_57.2.2.2.1
theorem dX7_drawAll_63 : decode cX7_drawAll 63 = .ok (.iload_n 2, 1) := bdX7_drawAll_57.2.2.2.2.1
theorem dX7_drawAll_64 : decode cX7_drawAll 64 = .ok (.ifCond .eq 28, 3) := bdX7_drawAll_57.2.2.2.2.2.1
theorem dX7_drawAll_67 : decode cX7_drawAll 67 = .ok (.aload_n 0, 1) := bdX7_drawAll_57.2.2.2.2.2.2.1
theorem dX7_drawAll_68 : decode cX7_drawAll 68 = .ok (.iload_n 3, 1) := bdX7_drawAll_57.2.2.2.2.2.2.2.1
theorem dX7_drawAll_69 : decode cX7_drawAll 69 = .ok (.invokevirtual 132, 3) := bdX7_drawAll_57.2.2.2.2.2.2.2.2.1
theorem dX7_drawAll_72 : decode cX7_drawAll 72 = .ok (.istore 4, 2) := bdX7_drawAll_57.2.2.2.2.2.2.2.2.2.1
theorem dX7_drawAll_74 : decode cX7_drawAll 74 = .ok (.aload_n 0, 1) := bdX7_drawAll_57.2.2.2.2.2.2.2.2.2.2.1
theorem dX7_drawAll_75 : decode cX7_drawAll 75 = .ok (.iload 4, 2) := bdX7_drawAll_57.2.2.2.2.2.2.2.2.2.2.2.1
theorem dX7_drawAll_77 : decode cX7_drawAll 77 = .ok (.bipush 14, 2) := bdX7_drawAll_57.2.2.2.2.2.2.2.2.2.2.2.2.1
theorem dX7_drawAll_79 : decode cX7_drawAll 79 = .ok (.iload_n 1, 1) := bdX7_drawAll_57.2.2.2.2.2.2.2.2.2.2.2.2.2.1
theorem dX7_drawAll_80 : decode cX7_drawAll 80 = .ok (.invokevirtual 62, 3) := bdX7_drawAll_57.2.2.2.2.2.2.2.2.2.2.2.2.2.2.1
theorem dX7_drawAll_83 : decode cX7_drawAll 83 = .ok (.iinc 1 1, 3) := bdX7_drawAll_57.2.2.2.2.2.2.2.2.2.2.2.2.2.2.2
theorem bdX7_drawAll_86 : decode cX7_drawAll 86 = .ok (.aload_n 0, 1) ∧ decode cX7_drawAll 87 = .ok (.iload 4, 2) ∧ decode cX7_drawAll 89 = .ok (.invokevirtual 135, 3) ∧ decode cX7_drawAll 92 = .ok (.goto (-88), 3) ∧ decode cX7_drawAll 95 = .ok (.return_, 1) := by decide +kernel
theorem dX7_drawAll_86 : decode cX7_drawAll 86 = .ok (.aload_n 0, 1) := bdX7_drawAll_86.1
theorem dX7_drawAll_87 : decode cX7_drawAll 87 = .ok (.iload 4, 2) := bdX7_drawAll_86.2.1
theorem dX7_drawAll_89 : decode cX7_drawAll 89 = .ok (.invokevirtual 135, 3) := bdX7_drawAll_86.2.2.1
theorem dX7_drawAll_92 : decode cX7_drawAll 92 = .ok (.goto (-88), 3) := bdX7_drawAll_86.2.2.2.1
theorem dX7_drawAll_95 : decode cX7_drawAll 95 = .ok (.return_, 1) := bdX7_drawAll_86.2.2.2.2
theorem bdX7_drawnAt_0 : decode cX7_drawnAt 0 = .ok (.iconst 0, 1) ∧ decode cX7_drawnAt 1 = .ok (.istore_n 2, 1) ∧ decode cX7_drawnAt 2 = .ok (.iload_n 2, 1) ∧ decode cX7_drawnAt 3 = .ok (.aload_n 0, 1) ∧ decode cX7_drawnAt 4 = .ok (.getfield 7, 3) ∧ decode cX7_drawnAt 7 = .ok (.bipush 13, 2) ∧ decode cX7_drawnAt 9 = .ok (.iaload, 1) ∧ decode cX7_drawnAt 10 = .ok (.if_icmp .ge 22, 3) ∧ decode cX7_drawnAt 13 = .ok (.aload_n 0, 1) ∧ decode cX7_drawnAt 14 = .ok (.iload_n 2, 1) ∧ decode cX7_drawnAt 15 = .ok (.bipush 14, 2) ∧ decode cX7_drawnAt 17 = .ok (.invokevirtual 66, 3) ∧ decode cX7_drawnAt 20 = .ok (.iload_n 1, 1) ∧ decode cX7_drawnAt 21 = .ok (.if_icmp .ne 5, 3) ∧ decode cX7_drawnAt 24 = .ok (.iload_n 2, 1) ∧ decode cX7_drawnAt 25 = .ok (.ireturn, 1) := by decide +kernel
theorem dX7_drawnAt_0 : decode cX7_drawnAt 0 = .ok (.iconst 0, 1) := bdX7_drawnAt_0.1
theorem dX7_drawnAt_1 : decode cX7_drawnAt 1 = .ok (.istore_n 2, 1) := bdX7_drawnAt_0.2.1
theorem dX7_drawnAt_2 : decode cX7_drawnAt 2 = .ok (.iload_n 2, 1) := bdX7_drawnAt_0.2.2.1
theorem dX7_drawnAt_3 : decode cX7_drawnAt 3 = .ok (.aload_n 0, 1) := bdX7_drawnAt_0.2.2.2.1
theorem dX7_drawnAt_4 : decode cX7_drawnAt 4 = .ok (.getfield 7, 3) := bdX7_drawnAt_0.2.2.2.2.1
theorem dX7_drawnAt_7 : decode cX7_drawnAt 7 = .ok (.bipush 13, 2) := bdX7_drawnAt_0.2.2.2.2.2.1
theorem dX7_drawnAt_9 : decode cX7_drawnAt 9 = .ok (.iaload, 1) := bdX7_drawnAt_0.2.2.2.2.2.2.1
theorem dX7_drawnAt_10 : decode cX7_drawnAt 10 = .ok (.if_icmp .ge 22, 3) := bdX7_drawnAt_0.2.2.2.2.2.2.2.1
theorem dX7_drawnAt_13 : decode cX7_drawnAt 13 = .ok (.aload_n 0, 1) := bdX7_drawnAt_0.2.2.2.2.2.2.2.2.1
theorem dX7_drawnAt_14 : decode cX7_drawnAt 14 = .ok (.iload_n 2, 1) := bdX7_drawnAt_0.2.2.2.2.2.2.2.2.2.1
theorem dX7_drawnAt_15 : decode cX7_drawnAt 15 = .ok (.bipush 14, 2) := bdX7_drawnAt_0.2.2.2.2.2.2.2.2.2.2.1
theorem dX7_drawnAt_17 : decode cX7_drawnAt 17 = .ok (.invokevirtual 66, 3) := bdX7_drawnAt_0.2.2.2.2.2.2.2.2.2.2.2.1
theorem dX7_drawnAt_20 : decode cX7_drawnAt 20 = .ok (.iload_n 1, 1) := bdX7_drawnAt_0.2.2.2.2.2.2.2.2.2.2.2.2.1
theorem dX7_drawnAt_21 : decode cX7_drawnAt 21 = .ok (.if_icmp .ne 5, 3) := bdX7_drawnAt_0.2.2.2.2.2.2.2.2.2.2.2.2.2.1
theorem dX7_drawnAt_24 : decode cX7_drawnAt 24 = .ok (.iload_n 2, 1) := bdX7_drawnAt_0.2.2.2.2.2.2.2.2.2.2.2.2.2.2.1
theorem dX7_drawnAt_25 : decode cX7_drawnAt 25 = .ok (.ireturn, 1) := bdX7_drawnAt_0.2.2.2.2.2.2.2.2.2.2.2.2.2.2.2
theorem bdX7_drawnAt_26 : decode cX7_drawnAt 26 = .ok (.iinc 2 1, 3) ∧ decode cX7_drawnAt 29 = .ok (.goto (-27), 3) ∧ decode cX7_drawnAt 32 = .ok (.bipush (-6), 2) ∧ decode cX7_drawnAt 34 = .ok (.ireturn, 1) := by decide +kernel
theorem dX7_drawnAt_26 : decode cX7_drawnAt 26 = .ok (.iinc 2 1, 3) := bdX7_drawnAt_26.1
theorem dX7_drawnAt_29 : decode cX7_drawnAt 29 = .ok (.goto (-27), 3) := bdX7_drawnAt_26.2.1
theorem dX7_drawnAt_32 : decode cX7_drawnAt 32 = .ok (.bipush (-6), 2) := bdX7_drawnAt_26.2.2.1
theorem dX7_drawnAt_34 : decode cX7_drawnAt 34 = .ok (.ireturn, 1) := bdX7_drawnAt_26.2.2.2
theorem bdX7_cook_0 : decode cX7_cook 0 = .ok (.aload_n 0, 1) ∧ decode cX7_cook 1 = .ok (.iload_n 1, 1) ∧ decode cX7_cook 2 = .ok (.iconst 1, 1) ∧ decode cX7_cook 3 = .ok (.invokevirtual 66, 3) ∧ decode cX7_cook 6 = .ok (.istore_n 2, 1) ∧ decode cX7_cook 7 = .ok (.iconst 0, 1) ∧ decode cX7_cook 8 = .ok (.istore_n 3, 1) ∧ decode cX7_cook 9 = .ok (.iload_n 3, 1) ∧ decode cX7_cook 10 = .ok (.iload_n 2, 1) ∧ decode cX7_cook 11 = .ok (.iadd, 1) ∧ decode cX7_cook 12 = .ok (.aload_n 0, 1) ∧ decode cX7_cook 13 = .ok (.getfield 7, 3) ∧ decode cX7_cook 16 = .ok (.bipush 8, 2) ∧ decode cX7_cook 18 = .ok (.iaload, 1) ∧ decode cX7_cook 19 = .ok (.if_icmp .gt 89, 3) ∧ decode cX7_cook 22 = .ok (.aload_n 0, 1) := by decide +kernel
theorem dX7_cook_0 : decode cX7_cook 0 = .ok (.aload_n 0, 1) := bdX7_cook_0.1
theorem dX7_cook_1 : decode cX7_cook 1 = .ok (.iload_n 1, 1) := bdX7_cook_0.2.1
theorem dX7_cook_2 : decode cX7_cook 2 = .ok (.iconst 1, 1) := bdX7_cook_0.2.2.1
theorem dX7_cook_3 : decode cX7_cook 3 = .ok (.invokevirtual 66, 3) := bdX7_cook_0.2.2.2.1
theorem dX7_cook_6 : decode cX7_cook 6 = .ok (.istore_n 2, 1) := bdX7_cook_0.2.2.2.2.1
theorem dX7_cook_7 : decode cX7_cook 7 = .ok (.iconst 0, 1) := bdX7_cook_0.2.2.2.2.2.1
theorem dX7_cook_8 : decode cX7_cook 8 = .ok (.istore_n 3, 1) := bdX7_cook_0.2.2.2.2.2.2.1
theorem dX7_cook_9 : decode cX7_cook 9 = .ok (.iload_n 3, 1) := bdX7_cook_0.2.2.2.2.2.2.2.1
theorem dX7_cook_10 : decode cX7_cook 10 = .ok (.iload_n 2, 1) := bdX7_cook_0.2.2.2.2.2.2.2.2.1
theorem dX7_cook_11 : decode cX7_cook 11 = .ok (.iadd, 1) := bdX7_cook_0.2.2.2.2.2.2.2.2.2.1
theorem dX7_cook_12 : decode cX7_cook 12 = .ok (.aload_n 0, 1) := bdX7_cook_0.2.2.2.2.2.2.2.2.2.2.1
theorem dX7_cook_13 : decode cX7_cook 13 = .ok (.getfield 7, 3) := bdX7_cook_0.2.2.2.2.2.2.2.2.2.2.2.1
theorem dX7_cook_16 : decode cX7_cook 16 = .ok (.bipush 8, 2) := bdX7_cook_0.2.2.2.2.2.2.2.2.2.2.2.2.1
theorem dX7_cook_18 : decode cX7_cook 18 = .ok (.iaload, 1) := bdX7_cook_0.2.2.2.2.2.2.2.2.2.2.2.2.2.1
theorem dX7_cook_19 : decode cX7_cook 19 = .ok (.if_icmp .gt 89, 3) := bdX7_cook_0.2.2.2.2.2.2.2.2.2.2.2.2.2.2.1
theorem dX7_cook_22 : decode cX7_cook 22 = .ok (.aload_n 0, 1) := bdX7_cook_0.2.2.2.2.2.2.2.2.2.2.2.2.2.2.2
theorem bdX7_cook_23 : decode cX7_cook 23 = .ok (.iload_n 1, 1) ∧ decode cX7_cook 24 = .ok (.bipush 12, 2) ∧ decode cX7_cook 26 = .ok (.invokevirtual 66, 3) ∧ decode cX7_cook 29 = .ok (.ifCond .ge 79, 3) ∧ decode cX7_cook 32 = .ok (.iconst 1, 1) ∧ decode cX7_cook 33 = .ok (.iload_n 2, 1) ∧ decode cX7_cook 34 = .ok (.ishl, 1) ∧ decode cX7_cook 35 = .ok (.iconst 1, 1) ∧ decode cX7_cook 36 = .ok (.isub, 1) ∧ decode cX7_cook 37 = .ok (.iload_n 3, 1) ∧ decode cX7_cook 38 = .ok (.ishl, 1) ∧ decode cX7_cook 39 = .ok (.istore 4, 2) ∧ decode cX7_cook 41 = .ok (.aload_n 0, 1) ∧ decode cX7_cook 42 = .ok (.getfield 139, 3) ∧ decode cX7_cook 45 = .ok (.iload 4, 2) ∧ decode cX7_cook 47 = .ok (.iand, 1) := by decide +kernel
theorem dX7_cook_23 : decode cX7_cook 23 = .ok (.iload_n 1, 1) := bdX7_cook_23.1
theorem dX7_cook_24 : decode cX7_cook 24 = .ok (.bipush 12, 2) := bdX7_cook_23.2.1
theorem dX7_cook_26 : decode cX7_cook 26 = .ok (.invokevirtual 66, 3) := bdX7_cook_23.2.2.1
theorem dX7_cook_29 : decode cX7_cook 29 = .ok (.ifCond .ge 79, 3) := bdX7_cook_23.2.2.2.1
theorem dX7_cook_32 : decode cX7_cook 32 = .ok (.iconst 1, 1) := bdX7_cook_23.2.2.2.2.1
theorem dX7_cook_33 : decode cX7_cook 33 = .ok (.iload_n 2, 1) := bdX7_cook_23.2.2.2.2.2.1
theorem dX7_cook_34 : decode cX7_cook 34 = .ok (.ishl, 1) := bdX7_cook_23.2.2.2.2.2.2.1
theorem dX7_cook_35 : decode cX7_cook 35 = .ok (.iconst 1, 1) := bdX7_cook_23.2.2.2.2.2.2.2.1
theorem dX7_cook_36 : decode cX7_cook 36 = .ok (.isub, 1) := bdX7_cook_23.2.2.2.2.2.2.2.2.1
theorem dX7_cook_37 : decode cX7_cook 37 = .ok (.iload_n 3, 1) := bdX7_cook_23.2.2.2.2.2.2.2.2.2.1
theorem dX7_cook_38 : decode cX7_cook 38 = .ok (.ishl, 1) := bdX7_cook_23.2.2.2.2.2.2.2.2.2.2.1
theorem dX7_cook_39 : decode cX7_cook 39 = .ok (.istore 4, 2) := bdX7_cook_23.2.2.2.2.2.2.2.2.2.2.2.1
theorem dX7_cook_41 : decode cX7_cook 41 = .ok (.aload_n 0, 1) := bdX7_cook_23.2.2.2.2.2.2.2.2.2.2.2.2.1
theorem dX7_cook_42 : decode cX7_cook 42 = .ok (.getfield 139, 3) := bdX7_cook_23.2.2.2.2.2.2.2.2.2.2.2.2.2.1
theorem dX7_cook_45 : decode cX7_cook 45 = .ok (.iload 4, 2) := bdX7_cook_23.2.2.2.2.2.2.2.2.2.2.2.2.2.2.1
theorem dX7_cook_47 : decode cX7_cook 47 = .ok (.iand, 1) := bdX7_cook_23.2.2.2.2.2.2.2.2.2.2.2.2.2.2.2
theorem bdX7_cook_48 : decode cX7_cook 48 = .ok (.ifCond .ne 25, 3) ∧ decode cX7_cook 51 = .ok (.aload_n 0, 1) ∧ decode cX7_cook 52 = .ok (.dup, 1) ∧ decode cX7_cook 53 = .ok (.getfield 139, 3) ∧ decode cX7_cook 56 = .ok (.iload 4, 2) ∧ decode cX7_cook 58 = .ok (.ior, 1) ∧ decode cX7_cook 59 = .ok (.putfield 139, 3) ∧ decode cX7_cook 62 = .ok (.aload_n 0, 1) ∧ decode cX7_cook 63 = .ok (.iload_n 1, 1) ∧ decode cX7_cook 64 = .ok (.bipush 12, 2) ∧ decode cX7_cook 66 = .ok (.iload_n 3, 1) ∧ decode cX7_cook 67 = .ok (.invokevirtual 62, 3) ∧ decode cX7_cook 70 = .ok (.goto 32, 3) ∧ decode cX7_cook 73 = .ok (.aload_n 0, 1) ∧ decode cX7_cook 74 = .ok (.getfield 142, 3) ∧ decode cX7_cook 77 = .ok (.iload 4, 2) := by decide +kernel
theorem dX7_cook_48 : decode cX7_cook 48 = .ok (.ifCond .ne 25, 3) := bdX7_cook_48.1
theorem dX7_cook_51 : decode cX7_cook 51 = .ok (.aload_n 0, 1) := bdX7_cook_48.2.1
theorem dX7_cook_52 : decode cX7_cook 52 = .ok (.dup, 1) := bdX7_cook_48.2.2.1
theorem dX7_cook_53 : decode cX7_cook 53 = .ok (.getfield 139, 3) := bdX7_cook_48.2.2.2.1
theorem dX7_cook_56 : decode cX7_cook 56 = .ok (.iload 4, 2) := bdX7_cook_48.2.2.2.2.1
theorem dX7_cook_58 : decode cX7_cook 58 = .ok (.ior, 1) := bdX7_cook_48.2.2.2.2.2.1
theorem dX7_cook_59 : decode cX7_cook 59 = .ok (.putfield 139, 3) := bdX7_cook_48.2.2.2.2.2.2.1
theorem dX7_cook_62 : decode cX7_cook 62 = .ok (.aload_n 0, 1) := bdX7_cook_48.2.2.2.2.2.2.2.1
theorem dX7_cook_63 : decode cX7_cook 63 = .ok (.iload_n 1, 1) := bdX7_cook_48.2.2.2.2.2.2.2.2.1
theorem dX7_cook_64 : decode cX7_cook 64 = .ok (.bipush 12, 2) := bdX7_cook_48.2.2.2.2.2.2.2.2.2.1
theorem dX7_cook_66 : decode cX7_cook 66 = .ok (.iload_n 3, 1) := bdX7_cook_48.2.2.2.2.2.2.2.2.2.2.1
theorem dX7_cook_67 : decode cX7_cook 67 = .ok (.invokevirtual 62, 3) := bdX7_cook_48.2.2.2.2.2.2.2.2.2.2.2.1
theorem dX7_cook_70 : decode cX7_cook 70 = .ok (.goto 32, 3) := bdX7_cook_48.2.2.2.2.2.2.2.2.2.2.2.2.1
theorem dX7_cook_73 : decode cX7_cook 73 = .ok (.aload_n 0, 1) := bdX7_cook_48.2.2.2.2.2.2.2.2.2.2.2.2.2.1
theorem dX7_cook_74 : decode cX7_cook 74 = .ok (.getfield 142, 3) := bdX7_cook_48.2.2.2.2.2.2.2.2.2.2.2.2.2.2.1
theorem dX7_cook_77 : decode cX7_cook 77 = .ok (.iload 4, 2) := bdX7_cook_48.2.2.2.2.2.2.2.2.2.2.2.2.2.2.2
theorem bdX7_cook_79 : decode cX7_cook 79 = .ok (.iand, 1) ∧ decode cX7_cook 80 = .ok (.ifCond .ne 22, 3) ∧ decode cX7_cook 83 = .ok (.aload_n 0, 1) ∧ decode cX7_cook 84 = .ok (.dup, 1) ∧ decode cX7_cook 85 = .ok (.getfield 142, 3) ∧ decode cX7_cook 88 = .ok (.iload 4, 2) ∧ decode cX7_cook 90 = .ok (.ior, 1) ∧ decode cX7_cook 91 = .ok (.putfield 142, 3) ∧ decode cX7_cook 94 = .ok (.aload_n 0, 1) ∧ decode cX7_cook 95 = .ok (.iload_n 1, 1) ∧ decode cX7_cook 96 = .ok (.bipush 12, 2) ∧ decode cX7_cook 98 = .ok (.iload_n 3, 1) ∧ decode cX7_cook 99 = .ok (.invokevirtual 62, 3) ∧ decode cX7_cook 102 = .ok (.iinc 3 1, 3) ∧ decode cX7_cook 105 = .ok (.goto (-96), 3) ∧ decode cX7_cook 108 = .ok (.aload_n 0, 1) := by decide +kernel
theorem dX7_cook_79 : decode cX7_cook 79 = .ok (.iand, 1) := bdX7_cook_79.1
theorem dX7_cook_80 : decode cX7_cook 80 = .ok (.ifCond .ne 22, 3) := bdX7_cook_79.2.1
theorem dX7_cook_83 : decode cX7_cook 83 = .ok (.aload_n 0, 1) := bdX7_cook_79.2.2.1
theorem dX7_cook_84 : decode cX7_cook 84 = .ok (.dup, 1) := bdX7_cook_79.2.2.2.1
theorem dX7_cook_85 : decode cX7_cook 85 = .ok (.getfield 142, 3) := bdX7_cook_79.2.2.2.2.1
theorem dX7_cook_88 : decode cX7_cook 88 = .ok (.iload 4, 2) := bdX7_cook_79.2.2.2.2.2.1
theorem dX7_cook_90 : decode cX7_cook 90 = .ok (.ior, 1) := bdX7_cook_79.2.2.2.2.2.2.1
theorem dX7_cook_91 : decode cX7_cook 91 = .ok (.putfield 142, 3) := bdX7_cook_79.2.2.2.2.2.2.2.1
theorem dX7_cook_94 : decode cX7_cook 94 = .ok (.aload_n 0, 1) := bdX7_cook_79.2.2.2.2.2.2.2.2.1
theorem dX7_cook_95 : decode cX7_cook 95 = .ok (.iload_n 1, 1) := bdX7_cook_79.2.2.2.2.2.2.2.2.2.1
theorem dX7_cook_96 : decode cX7_cook 96 = .ok (.bipush 12, 2) := bdX7_cook_79.2.2.2.2.2.2.2.2.2.2.1
theorem dX7_cook_98 : decode cX7_cook 98 = .ok (.iload_n 3, 1) := bdX7_cook_79.2.2.2.2.2.2.2.2.2.2.2.1
theorem dX7_cook_99 : decode cX7_cook 99 = .ok (.invokevirtual 62, 3) := bdX7_cook_79.2.2.2.2.2.2.2.2.2.2.2.2.1
theorem dX7_cook_102 : decode cX7_cook 102 = .ok (.iinc 3 1, 3) := bdX7_cook_79.2.2.2.2.2.2.2.2.2.2.2.2.2.1
theorem dX7_cook_105 : decode cX7_cook 105 = .ok (.goto (-96), 3) := bdX7_cook_79.2.2.2.2.2.2.2.2.2.2.2.2.2.2.1
theorem dX7_cook_108 : decode cX7_cook 108 = .ok (.aload_n 0, 1) := bdX7_cook_79.2.2.2.2.2.2.2.2.2.2.2.2.2.2.2
theorem bdX7_cook_109 : decode cX7_cook 109 = .ok (.iload_n 1, 1) ∧ decode cX7_cook 110 = .ok (.bipush 12, 2) ∧ decode cX7_cook 112 = .ok (.invokevirtual 66, 3) ∧ decode cX7_cook 115 = .ok (.ifCond .ge 63, 3) ∧ decode cX7_cook 118 = .ok (.aload_n 0, 1) ∧ decode cX7_cook 119 = .ok (.getfield 7, 3) ∧ decode cX7_cook 122 = .ok (.bipush 32, 2) ∧ decode cX7_cook 124 = .ok (.iconst 4, 1) ∧ decode cX7_cook 125 = .ok (.aload_n 0, 1) ∧ decode cX7_cook 126 = .ok (.iload_n 1, 1) ∧ decode cX7_cook 127 = .ok (.bipush 11, 2) ∧ decode cX7_cook 129 = .ok (.invokevirtual 66, 3) ∧ decode cX7_cook 132 = .ok (.imul, 1) ∧ decode cX7_cook 133 = .ok (.iadd, 1) ∧ decode cX7_cook 134 = .ok (.iconst 3, 1) ∧ decode cX7_cook 135 = .ok (.iadd, 1) := by decide +kernel
theorem dX7_cook_109 : decode cX7_cook 109 = .ok (.iload_n 1, 1) := bdX7_cook_109.1
theorem dX7_cook_110 : decode cX7_cook 110 = .ok (.bipush 12, 2) := bdX7_cook_109.2.1
theorem dX7_cook_112 : decode cX7_cook 112 = .ok (.invokevirtual 66, 3) := bdX7_cook_109.2.2.1
theorem dX7_cook_115 : decode cX7_cook 115 = .ok (.ifCond .ge 63, 3) := bdX7_cook_109.2.2.2.1
theorem dX7_cook_118 : decode cX7_cook 118 = .ok (.aload_n 0, 1) := bdX7_cook_109.2.2.2.2.1
theorem dX7_cook_119 : decode cX7_cook 119 = .ok (.getfield 7, 3) := bdX7_cook_109.2.2.2.2.2.1
theorem dX7_cook_122 : decode cX7_cook 122 = .ok (.bipush 32, 2) := bdX7_cook_109.2.2.2.2.2.2.1
theorem dX7_cook_124 : decode cX7_cook 124 = .ok (.iconst 4, 1) := bdX7_cook_109.2.2.2.2.2.2.2.1
theorem dX7_cook_125 : decode cX7_cook 125 = .ok (.aload_n 0, 1) := bdX7_cook_109.2.2.2.2.2.2.2.2.1
theorem dX7_cook_126 : decode cX7_cook 126 = .ok (.iload_n 1, 1) := bdX7_cook_109.2.2.2.2.2.2.2.2.2.1
theorem dX7_cook_127 : decode cX7_cook 127 = .ok (.bipush 11, 2) := bdX7_cook_109.2.2.2.2.2.2.2.2.2.2.1
theorem dX7_cook_129 : decode cX7_cook 129 = .ok (.invokevirtual 66, 3) := bdX7_cook_109.2.2.2.2.2.2.2.2.2.2.2.1
theorem dX7_cook_132 : decode cX7_cook 132 = .ok (.imul, 1) := bdX7_cook_109.2.2.2.2.2.2.2.2.2.2.2.2.1
theorem dX7_cook_133 : decode cX7_cook 133 = .ok (.iadd, 1) := bdX7_cook_109.2.2.2.2.2.2.2.2.2.2.2.2.2.1
theorem dX7_cook_134 : decode cX7_cook 134 = .ok (.iconst 3, 1) := bdX7_cook_109.2.2.2.2.2.2.2.2.2.2.2.2.2.2.1
theorem dX7_cook_135 : decode cX7_cook 135 = .ok (.iadd, 1) := bdX7_cook_109.2.2.2.2.2.2.2.2.2.2.2.2.2.2.2
theorem bdX7_cook_136 : decode cX7_cook 136 = .ok (.bipush (-6), 2) ∧ decode cX7_cook 138 = .ok (.iastore, 1) ∧ decode cX7_cook 139 = .ok (.aload_n 0, 1) ∧ decode cX7_cook 140 = .ok (.iload_n 1, 1) ∧ decode cX7_cook 141 = .ok (.bipush 11, 2) ∧ decode cX7_cook 143 = .ok (.bipush (-6), 2) ∧ decode cX7_cook 145 = .ok (.invokevirtual 62, 3) ∧ decode cX7_cook 148 = .ok (.aload_n 0, 1) ∧ decode cX7_cook 149 = .ok (.iload_n 1, 1) ∧ decode cX7_cook 150 = .ok (.bipush 13, 2) ∧ decode cX7_cook 152 = .ok (.iconst 5, 1) ∧ decode cX7_cook 153 = .ok (.invokevirtual 62, 3) ∧ decode cX7_cook 156 = .ok (.aload_n 0, 1) ∧ decode cX7_cook 157 = .ok (.getfield 7, 3) ∧ decode cX7_cook 160 = .ok (.bipush 7, 2) ∧ decode cX7_cook 162 = .ok (.iaload, 1) := by decide +kernel
theorem dX7_cook_136 : decode cX7_cook 136 = .ok (.bipush (-6), 2) := bdX7_cook_136.1
theorem dX7_cook_138 : decode cX7_cook 138 = .ok (.iastore, 1) := bdX7_cook_136.2.1
theorem dX7_cook_139 : decode cX7_cook 139 = .ok (.aload_n 0, 1) := bdX7_cook_136.2.2.1
theorem dX7_cook_140 : decode cX7_cook 140 = .ok (.iload_n 1, 1) := bdX7_cook_136.2.2.2.1
theorem dX7_cook_141 : decode cX7_cook 141 = .ok (.bipush 11, 2) := bdX7_cook_136.2.2.2.2.1
theorem dX7_cook_143 : decode cX7_cook 143 = .ok (.bipush (-6), 2) := bdX7_cook_136.2.2.2.2.2.1
theorem dX7_cook_145 : decode cX7_cook 145 = .ok (.invokevirtual 62, 3) := bdX7_cook_136.2.2.2.2.2.2.1
theorem dX7_cook_148 : decode cX7_cook 148 = .ok (.aload_n 0, 1) := bdX7_cook_136.2.2.2.2.2.2.2.1
theorem dX7_cook_149 : decode cX7_cook 149 = .ok (.iload_n 1, 1) := bdX7_cook_136.2.2.2.2.2.2.2.2.1
theorem dX7_cook_150 : decode cX7_cook 150 = .ok (.bipush 13, 2) := bdX7_cook_136.2.2.2.2.2.2.2.2.2.1
theorem dX7_cook_152 : decode cX7_cook 152 = .ok (.iconst 5, 1) := bdX7_cook_136.2.2.2.2.2.2.2.2.2.2.1
theorem dX7_cook_153 : decode cX7_cook 153 = .ok (.invokevirtual 62, 3) := bdX7_cook_136.2.2.2.2.2.2.2.2.2.2.2.1
theorem dX7_cook_156 : decode cX7_cook 156 = .ok (.aload_n 0, 1) := bdX7_cook_136.2.2.2.2.2.2.2.2.2.2.2.2.1
theorem dX7_cook_157 : decode cX7_cook 157 = .ok (.getfield 7, 3) := bdX7_cook_136.2.2.2.2.2.2.2.2.2.2.2.2.2.1
theorem dX7_cook_160 : decode cX7_cook 160 = .ok (.bipush 7, 2) := bdX7_cook_136.2.2.2.2.2.2.2.2.2.2.2.2.2.2.1
theorem dX7_cook_162 : decode cX7_cook 162 = .ok (.iaload, 1) := bdX7_cook_136.2.2.2.2.2.2.2.2.2.2.2.2.2.2.2
theorem bdX7_cook_163 : decode cX7_cook 163 = .ok (.ifCond .le 15, 3) ∧ decode cX7_cook 166 = .ok (.aload_n 0, 1) ∧ decode cX7_cook 167 = .ok (.iload_n 1, 1) ∧ decode cX7_cook 168 = .ok (.aload_n 0, 1) ∧ decode cX7_cook 169 = .ok (.getfield 7, 3) ∧ decode cX7_cook 172 = .ok (.bipush 7, 2) ∧ decode cX7_cook 174 = .ok (.iaload, 1) ∧ decode cX7_cook 175 = .ok (.invokevirtual 86, 3) ∧ decode cX7_cook 178 = .ok (.return_, 1) := by decide +kernel
theorem dX7_cook_163 : decode cX7_cook 163 = .ok (.ifCond .le 15, 3) := bdX7_cook_163.1
theorem dX7_cook_166 : decode cX7_cook 166 = .ok (.aload_n 0, 1) := bdX7_cook_163.2.1
theorem dX7_cook_167 : decode cX7_cook 167 = .ok (.iload_n 1, 1) := bdX7_cook_163.2.2.1
theorem dX7_cook_168 : decode cX7_cook 168 = .ok (.aload_n 0, 1) := bdX7_cook_163.2.2.2.1
theorem dX7_cook_169 : decode cX7_cook 169 = .ok (.getfield 7, 3) := bdX7_cook_163.2.2.2.2.1
theorem dX7_cook_172 : decode cX7_cook 172 = .ok (.bipush 7, 2) := bdX7_cook_163.2.2.2.2.2.1
theorem dX7_cook_174 : decode cX7_cook 174 = .ok (.iaload, 1) := bdX7_cook_163.2.2.2.2.2.2.1
theorem dX7_cook_175 : decode cX7_cook 175 = .ok (.invokevirtual 86, 3) := bdX7_cook_163.2.2.2.2.2.2.2.1
theorem dX7_cook_178 : decode cX7_cook 178 = .ok (.return_, 1) := bdX7_cook_163.2.2.2.2.2.2.2.2
theorem bdX7_cookAll_0 : decode cX7_cookAll 0 = .ok (.aload_n 0, 1) ∧ decode cX7_cookAll 1 = .ok (.iconst 0, 1) ∧ decode cX7_cookAll 2 = .ok (.putfield 139, 3) ∧ decode cX7_cookAll 5 = .ok (.aload_n 0, 1) ∧ decode cX7_cookAll 6 = .ok (.iconst 0, 1) ∧ decode cX7_cookAll 7 = .ok (.putfield 142, 3) ∧ decode cX7_cookAll 10 = .ok (.iconst 0, 1) ∧ decode cX7_cookAll 11 = .ok (.istore_n 1, 1) ∧ decode cX7_cookAll 12 = .ok (.aload_n 0, 1) ∧ decode cX7_cookAll 13 = .ok (.iload_n 1, 1) ∧ decode cX7_cookAll 14 = .ok (.invokevirtual 145, 3) ∧ decode cX7_cookAll 17 = .ok (.istore_n 2, 1) ∧ decode cX7_cookAll 18 = .ok (.iload_n 2, 1) ∧ decode cX7_cookAll 19 = .ok (.ifCond .lt 30, 3) ∧ decode cX7_cookAll 22 = .ok (.aload_n 0, 1) ∧ decode cX7_cookAll 23 = .ok (.iload_n 2, 1) := by decide +kernel
theorem dX7_cookAll_0 : decode cX7_cookAll 0 = .ok (.aload_n 0, 1) := bdX7_cookAll_0.1
theorem dX7_cookAll_1 : decode cX7_cookAll 1 = .ok (.iconst 0, 1) := bdX7_cookAll_0.2.1
theorem dX7_cookAll_2 : decode cX7_cookAll 2 = .ok (.putfield 139, 3) := bdX7_cookAll_0.2.2.1
theorem dX7_cookAll_5 : decode cX7_cookAll 5 = .ok (.aload_n 0, 1) := bdX7_cookAll_0.2.2.2.1
theorem dX7_cookAll_6 : decode cX7_cookAll 6 = .ok (.iconst 0, 1) := bdX7_cookAll_0.2.2.2.2.1
theorem dX7_cookAll_7 : decode cX7_cookAll 7 = .ok (.putfield 142, 3) := bdX7_cookAll_0.2.2.2.2.2.1
theorem dX7_cookAll_10 : decode cX7_cookAll 10 = .ok (.iconst 0, 1) := bdX7_cookAll_0.2.2.2.2.2.2.1
theorem dX7_cookAll_11 : decode cX7_cookAll 11 = .ok (.istore_n 1, 1) := bdX7_cookAll_0.2.2.2.2.2.2.2.1
theorem dX7_cookAll_12 : decode cX7_cookAll 12 = .ok (.aload_n 0, 1) := bdX7_cookAll_0.2.2.2.2.2.2.2.2.1
theorem dX7_cookAll_13 : decode cX7_cookAll 13 = .ok (.iload_n 1, 1) := bdX7_cookAll_0.2.2.2.2.2.2.2.2.2.1
theorem dX7_cookAll_14 : decode cX7_cookAll 14 = .ok (.invokevirtual 145, 3) := bdX7_cookAll_0.2.2.2.2.2.2.2.2.2.2.1
theorem dX7_cookAll_17 : decode cX7_cookAll 17 = .ok (.istore_n 2, 1) := bdX7_cookAll_0.2.2.2.2.2.2.2.2.2.2.2.1
theorem dX7_cookAll_18 : decode cX7_cookAll 18 = .ok (.iload_n 2, 1) := bdX7_cookAll_0.2.2.2.2.2.2.2.2.2.2.2.2.1
theorem dX7_cookAll_19 : decode cX7_cookAll 19 = .ok (.ifCond .lt 30, 3) := bdX7_cookAll_0.2.2.2.2.2.2.2.2.2.2.2.2.2.1
theorem dX7_cookAll_22 : decode cX7_cookAll 22 = .ok (.aload_n 0, 1) := bdX7_cookAll_0.2.2.2.2.2.2.2.2.2.2.2.2.2.2.1
theorem dX7_cookAll_23 : decode cX7_cookAll 23 = .ok (.iload_n 2, 1) := bdX7_cookAll_0.2.2.2.2.2.2.2.2.2.2.2.2.2.2.2
theorem bdX7_cookAll_24 : decode cX7_cookAll 24 = .ok (.bipush 11, 2) ∧ decode cX7_cookAll 26 = .ok (.invokevirtual 66, 3) ∧ decode cX7_cookAll 29 = .ok (.ifCond .lt 8, 3) ∧ decode cX7_cookAll 32 = .ok (.aload_n 0, 1) ∧ decode cX7_cookAll 33 = .ok (.iload_n 2, 1) ∧ decode cX7_cookAll 34 = .ok (.invokevirtual 148, 3) ∧ decode cX7_cookAll 37 = .ok (.iinc 1 1, 3) ∧ decode cX7_cookAll 40 = .ok (.aload_n 0, 1) ∧ decode cX7_cookAll 41 = .ok (.iload_n 1, 1) ∧ decode cX7_cookAll 42 = .ok (.invokevirtual 145, 3) ∧ decode cX7_cookAll 45 = .ok (.istore_n 2, 1) ∧ decode cX7_cookAll 46 = .ok (.goto (-28), 3) ∧ decode cX7_cookAll 49 = .ok (.return_, 1) := by decide +kernel
theorem dX7_cookAll_24 : decode cX7_cookAll 24 = .ok (.bipush 11, 2) := bdX7_cookAll_24.1
theorem dX7_cookAll_26 : decode cX7_cookAll 26 = .ok (.invokevirtual 66, 3) := bdX7_cookAll_24.2.1
theorem dX7_cookAll_29 : decode cX7_cookAll 29 = .ok (.ifCond .lt 8, 3) := bdX7_cookAll_24.2.2.1
theorem dX7_cookAll_32 : decode cX7_cookAll 32 = .ok (.aload_n 0, 1) := bdX7_cookAll_24.2.2.2.1
theorem dX7_cookAll_33 : decode cX7_cookAll 33 = .ok (.iload_n 2, 1) := bdX7_cookAll_24.2.2.2.2.1
theorem dX7_cookAll_34 : decode cX7_cookAll 34 = .ok (.invokevirtual 148, 3) := bdX7_cookAll_24.2.2.2.2.2.1
theorem dX7_cookAll_37 : decode cX7_cookAll 37 = .ok (.iinc 1 1, 3) := bdX7_cookAll_24.2.2.2.2.2.2.1
theorem dX7_cookAll_40 : decode cX7_cookAll 40 = .ok (.aload_n 0, 1) := bdX7_cookAll_24.2.2.2.2.2.2.2.1
theorem dX7_cookAll_41 : decode cX7_cookAll 41 = .ok (.iload_n 1, 1) := bdX7_cookAll_24.2.2.2.2.2.2.2.2.1
theorem dX7_cookAll_42 : decode cX7_cookAll 42 = .ok (.invokevirtual 145, 3) := bdX7_cookAll_24.2.2.2.2.2.2.2.2.2.1
theorem dX7_cookAll_45 : decode cX7_cookAll 45 = .ok (.istore_n 2, 1) := bdX7_cookAll_24.2.2.2.2.2.2.2.2.2.2.1
theorem dX7_cookAll_46 : decode cX7_cookAll 46 = .ok (.goto (-28), 3) := bdX7_cookAll_24.2.2.2.2.2.2.2.2.2.2.2.1
theorem dX7_cookAll_49 : decode cX7_cookAll 49 = .ok (.return_, 1) := bdX7_cookAll_24.2.2.2.2.2.2.2.2.2.2.2.2
theorem bdX7_swapAll_0 : decode cX7_swapAll 0 = .ok (.iconst 0, 1) ∧ decode cX7_swapAll 1 = .ok (.istore_n 1, 1) ∧ decode cX7_swapAll 2 = .ok (.iload_n 1, 1) ∧ decode cX7_swapAll 3 = .ok (.aload_n 0, 1) ∧ decode cX7_swapAll 4 = .ok (.getfield 7, 3) ∧ decode cX7_swapAll 7 = .ok (.bipush 14, 2) ∧ decode cX7_swapAll 9 = .ok (.iaload, 1) ∧ decode cX7_swapAll 10 = .ok (.if_icmp .ge 181, 3) ∧ decode cX7_swapAll 13 = .ok (.aload_n 0, 1) ∧ decode cX7_swapAll 14 = .ok (.getfield 7, 3) ∧ decode cX7_swapAll 17 = .ok (.bipush 16, 2) ∧ decode cX7_swapAll 19 = .ok (.iconst 2, 1) ∧ decode cX7_swapAll 20 = .ok (.iload_n 1, 1) ∧ decode cX7_swapAll 21 = .ok (.imul, 1) ∧ decode cX7_swapAll 22 = .ok (.iadd, 1) ∧ decode cX7_swapAll 23 = .ok (.iaload, 1) := by decide +kernel
theorem dX7_swapAll_0 : decode cX7_swapAll 0 = .ok (.iconst 0, 1) := bdX7_swapAll_0.1
theorem dX7_swapAll_1 : decode cX7_swapAll 1 = .ok (.istore_n 1, 1) := bdX7_swapAll_0.2.1
theorem dX7_swapAll_2 : decode cX7_swapAll 2 = .ok (.iload_n 1, 1) := bdX7_swapAll_0.2.2.1
theorem dX7_swapAll_3 : decode cX7_swapAll 3 = .ok (.aload_n 0, 1) := bdX7_swapAll_0.2.2.2.1
theorem dX7_swapAll_4 : decode cX7_swapAll 4 = .ok (.getfield 7, 3) := bdX7_swapAll_0.2.2.2.2.1
theorem dX7_swapAll_7 : decode cX7_swapAll 7 = .ok (.bipush 14, 2) := bdX7_swapAll_0.2.2.2.2.2.1
theorem dX7_swapAll_9 : decode cX7_swapAll 9 = .ok (.iaload, 1) := bdX7_swapAll_0.2.2.2.2.2.2.1
theorem dX7_swapAll_10 : decode cX7_swapAll 10 = .ok (.if_icmp .ge 181, 3) := bdX7_swapAll_0.2.2.2.2.2.2.2.1
theorem dX7_swapAll_13 : decode cX7_swapAll 13 = .ok (.aload_n 0, 1) := bdX7_swapAll_0.2.2.2.2.2.2.2.2.1
theorem dX7_swapAll_14 : decode cX7_swapAll 14 = .ok (.getfield 7, 3) := bdX7_swapAll_0.2.2.2.2.2.2.2.2.2.1
theorem dX7_swapAll_17 : decode cX7_swapAll 17 = .ok (.bipush 16, 2) := bdX7_swapAll_0.2.2.2.2.2.2.2.2.2.2.1
theorem dX7_swapAll_19 : decode cX7_swapAll 19 = .ok (.iconst 2, 1) := bdX7_swapAll_0.2.2.2.2.2.2.2.2.2.2.2.1
theorem dX7_swapAll_20 : decode cX7_swapAll 20 = .ok (.iload_n 1, 1) := bdX7_swapAll_0.2.2.2.2.2.2.2.2.2.2.2.2.1
theorem dX7_swapAll_21 : decode cX7_swapAll 21 = .ok (.imul, 1) := bdX7_swapAll_0.2.2.2.2.2.2.2.2.2.2.2.2.2.1
theorem dX7_swapAll_22 : decode cX7_swapAll 22 = .ok (.iadd, 1) := bdX7_swapAll_0.2.2.2.2.2.2.2.2.2.2.2.2.2.2.1
theorem dX7_swapAll_23 : decode cX7_swapAll 23 = .ok (.iaload, 1) := bdX7_swapAll_0.2.2.2.2.2.2.2.2.2.2.2.2.2.2.2
theorem bdX7_swapAll_24 : decode cX7_swapAll 24 = .ok (.istore_n 2, 1) ∧ decode cX7_swapAll 25 = .ok (.aload_n 0, 1) ∧ decode cX7_swapAll 26 = .ok (.getfield 7, 3) ∧ decode cX7_swapAll 29 = .ok (.bipush 16, 2) ∧ decode cX7_swapAll 31 = .ok (.iconst 2, 1) ∧ decode cX7_swapAll 32 = .ok (.iload_n 1, 1) ∧ decode cX7_swapAll 33 = .ok (.imul, 1) ∧ decode cX7_swapAll 34 = .ok (.iadd, 1) ∧ decode cX7_swapAll 35 = .ok (.iconst 1, 1) ∧ decode cX7_swapAll 36 = .ok (.iadd, 1) ∧ decode cX7_swapAll 37 = .ok (.iaload, 1) ∧ decode cX7_swapAll 38 = .ok (.istore_n 3, 1) ∧ decode cX7_swapAll 39 = .ok (.aload_n 0, 1) ∧ decode cX7_swapAll 40 = .ok (.iload_n 2, 1) ∧ decode cX7_swapAll 41 = .ok (.bipush 11, 2) ∧ decode cX7_swapAll 43 = .ok (.invokevirtual 66, 3) := by decide +kernel
theorem dX7_swapAll_24 : decode cX7_swapAll 24 = .ok (.istore_n 2, 1) := bdX7_swapAll_24.1
theorem dX7_swapAll_25 : decode cX7_swapAll 25 = .ok (.aload_n 0, 1) := bdX7_swapAll_24.2.1
theorem dX7_swapAll_26 : decode cX7_swapAll 26 = .ok (.getfield 7, 3) := bdX7_swapAll_24.2.2.1
theorem dX7_swapAll_29 : decode cX7_swapAll 29 = .ok (.bipush 16, 2) := bdX7_swapAll_24.2.2.2.1
theorem dX7_swapAll_31 : decode cX7_swapAll 31 = .ok (.iconst 2, 1) := bdX7_swapAll_24.2.2.2.2.1
theorem dX7_swapAll_32 : decode cX7_swapAll 32 = .ok (.iload_n 1, 1) := bdX7_swapAll_24.2.2.2.2.2.1
theorem dX7_swapAll_33 : decode cX7_swapAll 33 = .ok (.imul, 1) := bdX7_swapAll_24.2.2.2.2.2.2.1
theorem dX7_swapAll_34 : decode cX7_swapAll 34 = .ok (.iadd, 1) := bdX7_swapAll_24.2.2.2.2.2.2.2.1
theorem dX7_swapAll_35 : decode cX7_swapAll 35 = .ok (.iconst 1, 1) := bdX7_swapAll_24.2.2.2.2.2.2.2.2.1
theorem dX7_swapAll_36 : decode cX7_swapAll 36 = .ok (.iadd, 1) := bdX7_swapAll_24.2.2.2.2.2.2.2.2.2.1
theorem dX7_swapAll_37 : decode cX7_swapAll 37 = .ok (.iaload, 1) := bdX7_swapAll_24.2.2.2.2.2.2.2.2.2.2.1
theorem dX7_swapAll_38 : decode cX7_swapAll 38 = .ok (.istore_n 3, 1) := bdX7_swapAll_24.2.2.2.2.2.2.2.2.2.2.2.1
theorem dX7_swapAll_39 : decode cX7_swapAll 39 = .ok (.aload_n 0, 1) := bdX7_swapAll_24.2.2.2.2.2.2.2.2.2.2.2.2.1
theorem dX7_swapAll_40 : decode cX7_swapAll 40 = .ok (.iload_n 2, 1) := bdX7_swapAll_24.2.2.2.2.2.2.2.2.2.2.2.2.2.1
theorem dX7_swapAll_41 : decode cX7_swapAll 41 = .ok (.bipush 11, 2) := bdX7_swapAll_24.2.2.2.2.2.2.2.2.2.2.2.2.2.2.1
theorem dX7_swapAll_43 : decode cX7_swapAll 43 = .ok (.invokevirtual 66, 3) := bdX7_swapAll_24.2.2.2.2.2.2.2.2.2.2.2.2.2.2.2
theorem bdX7_swapAll_46 : decode cX7_swapAll 46 = .ok (.istore 4, 2) ∧ decode cX7_swapAll 48 = .ok (.aload_n 0, 1) ∧ decode cX7_swapAll 49 = .ok (.iload_n 3, 1) ∧ decode cX7_swapAll 50 = .ok (.bipush 11, 2) ∧ decode cX7_swapAll 52 = .ok (.invokevirtual 66, 3) ∧ decode cX7_swapAll 55 = .ok (.istore 5, 2) ∧ decode cX7_swapAll 57 = .ok (.iload 4, 2) ∧ decode cX7_swapAll 59 = .ok (.ifCond .lt 126, 3) ∧ decode cX7_swapAll 62 = .ok (.iload 5, 2) ∧ decode cX7_swapAll 64 = .ok (.ifCond .lt 121, 3) ∧ decode cX7_swapAll 67 = .ok (.aload_n 0, 1) ∧ decode cX7_swapAll 68 = .ok (.iload_n 2, 1) ∧ decode cX7_swapAll 69 = .ok (.iload 5, 2) ∧ decode cX7_swapAll 71 = .ok (.invokevirtual 122, 3) ∧ decode cX7_swapAll 74 = .ok (.aload_n 0, 1) ∧ decode cX7_swapAll 75 = .ok (.iload_n 3, 1) := by decide +kernel
theorem dX7_swapAll_46 : decode cX7_swapAll 46 = .ok (.istore 4, 2) := bdX7_swapAll_46.1
theorem dX7_swapAll_48 : decode cX7_swapAll 48 = .ok (.aload_n 0, 1) := bdX7_swapAll_46.2.1
theorem dX7_swapAll_49 : decode cX7_swapAll 49 = .ok (.iload_n 3, 1) := bdX7_swapAll_46.2.2.1
theorem dX7_swapAll_50 : decode cX7_swapAll 50 = .ok (.bipush 11, 2) := bdX7_swapAll_46.2.2.2.1
theorem dX7_swapAll_52 : decode cX7_swapAll 52 = .ok (.invokevirtual 66, 3) := bdX7_swapAll_46.2.2.2.2.1
theorem dX7_swapAll_55 : decode cX7_swapAll 55 = .ok (.istore 5, 2) := bdX7_swapAll_46.2.2.2.2.2.1
theorem dX7_swapAll_57 : decode cX7_swapAll 57 = .ok (.iload 4, 2) := bdX7_swapAll_46.2.2.2.2.2.2.1
theorem dX7_swapAll_59 : decode cX7_swapAll 59 = .ok (.ifCond .lt 126, 3) := bdX7_swapAll_46.2.2.2.2.2.2.2.1
theorem dX7_swapAll_62 : decode cX7_swapAll 62 = .ok (.iload 5, 2) := bdX7_swapAll_46.2.2.2.2.2.2.2.2.1
theorem dX7_swapAll_64 : decode cX7_swapAll 64 = .ok (.ifCond .lt 121, 3) := bdX7_swapAll_46.2.2.2.2.2.2.2.2.2.1
theorem dX7_swapAll_67 : decode cX7_swapAll 67 = .ok (.aload_n 0, 1) := bdX7_swapAll_46.2.2.2.2.2.2.2.2.2.2.1
theorem dX7_swapAll_68 : decode cX7_swapAll 68 = .ok (.iload_n 2, 1) := bdX7_swapAll_46.2.2.2.2.2.2.2.2.2.2.2.1
theorem dX7_swapAll_69 : decode cX7_swapAll 69 = .ok (.iload 5, 2) := bdX7_swapAll_46.2.2.2.2.2.2.2.2.2.2.2.2.1
theorem dX7_swapAll_71 : decode cX7_swapAll 71 = .ok (.invokevirtual 122, 3) := bdX7_swapAll_46.2.2.2.2.2.2.2.2.2.2.2.2.2.1
theorem dX7_swapAll_74 : decode cX7_swapAll 74 = .ok (.aload_n 0, 1) := bdX7_swapAll_46.2.2.2.2.2.2.2.2.2.2.2.2.2.2.1
theorem dX7_swapAll_75 : decode cX7_swapAll 75 = .ok (.iload_n 3, 1) := bdX7_swapAll_46.2.2.2.2.2.2.2.2.2.2.2.2.2.2.2
theorem bdX7_swapAll_76 : decode cX7_swapAll 76 = .ok (.iload 4, 2) ∧ decode cX7_swapAll 78 = .ok (.invokevirtual 122, 3) ∧ decode cX7_swapAll 81 = .ok (.aload_n 0, 1) ∧ decode cX7_swapAll 82 = .ok (.iload_n 2, 1) ∧ decode cX7_swapAll 83 = .ok (.iload 5, 2) ∧ decode cX7_swapAll 85 = .ok (.invokevirtual 118, 3) ∧ decode cX7_swapAll 88 = .ok (.ifCond .eq 17, 3) ∧ decode cX7_swapAll 91 = .ok (.aload_n 0, 1) ∧ decode cX7_swapAll 92 = .ok (.iload_n 3, 1) ∧ decode cX7_swapAll 93 = .ok (.iload 4, 2) ∧ decode cX7_swapAll 95 = .ok (.invokevirtual 118, 3) ∧ decode cX7_swapAll 98 = .ok (.ifCond .eq 7, 3) ∧ decode cX7_swapAll 101 = .ok (.iconst 1, 1) ∧ decode cX7_swapAll 102 = .ok (.goto 4, 3) ∧ decode cX7_swapAll 105 = .ok (.iconst 0, 1) ∧ decode cX7_swapAll 106 = .ok (.istore 6, 2) := by decide +kernel
theorem dX7_swapAll_76 : decode cX7_swapAll 76 = .ok (.iload 4, 2) := bdX7_swapAll_76.1
theorem dX7_swapAll_78 : decode cX7_swapAll 78 = .ok (.invokevirtual 122, 3) := bdX7_swapAll_76.2.1
theorem dX7_swapAll_81 : decode cX7_swapAll 81 = .ok (.aload_n 0, 1) := bdX7_swapAll_76.2.2.1
theorem dX7_swapAll_82 : decode cX7_swapAll 82 = .ok (.iload_n 2, 1) := bdX7_swapAll_76.2.2.2.1
theorem dX7_swapAll_83 : decode cX7_swapAll 83 = .ok (.iload 5, 2) := bdX7_swapAll_76.2.2.2.2.1
theorem dX7_swapAll_85 : decode cX7_swapAll 85 = .ok (.invokevirtual 118, 3) := bdX7_swapAll_76.2.2.2.2.2.1
theorem dX7_swapAll_88 : decode cX7_swapAll 88 = .ok (.ifCond .eq 17, 3) := bdX7_swapAll_76.2.2.2.2.2.2.1
theorem dX7_swapAll_91 : decode cX7_swapAll 91 = .ok (.aload_n 0, 1) := bdX7_swapAll_76.2.2.2.2.2.2.2.1
theorem dX7_swapAll_92 : decode cX7_swapAll 92 = .ok (.iload_n 3, 1) := bdX7_swapAll_76.2.2.2.2.2.2.2.2.1
theorem dX7_swapAll_93 : decode cX7_swapAll 93 = .ok (.iload 4, 2) := bdX7_swapAll_76.2.2.2.2.2.2.2.2.2.1
theorem dX7_swapAll_95 : decode cX7_swapAll 95 = .ok (.invokevirtual 118, 3) := bdX7_swapAll_76.2.2.2.2.2.2.2.2.2.2.1
theorem dX7_swapAll_98 : decode cX7_swapAll 98 = .ok (.ifCond .eq 7, 3) := bdX7_swapAll_76.2.2.2.2.2.2.2.2.2.2.2.1
theorem dX7_swapAll_101 : decode cX7_swapAll 101 = .ok (.iconst 1, 1) := bdX7_swapAll_76.2.2.2.2.2.2.2.2.2.2.2.2.1
theorem dX7_swapAll_102 : decode cX7_swapAll 102 = .ok (.goto 4, 3) := bdX7_swapAll_76.2.2.2.2.2.2.2.2.2.2.2.2.2.1
theorem dX7_swapAll_105 : decode cX7_swapAll 105 = .ok (.iconst 0, 1) := bdX7_swapAll_76.2.2.2.2.2.2.2.2.2.2.2.2.2.2.1
theorem dX7_swapAll_106 : decode cX7_swapAll 106 = .ok (.istore 6, 2) := bdX7_swapAll_76.2.2.2.2.2.2.2.2.2.2.2.2.2.2.2
theorem bdX7_swapAll_108 : decode cX7_swapAll 108 = .ok (.iload 6, 2) ∧ decode cX7_swapAll 110 = .ok (.ifCond .eq 61, 3) ∧ decode cX7_swapAll 113 = .ok (.aload_n 0, 1) ∧ decode cX7_swapAll 114 = .ok (.iload_n 2, 1) ∧ decode cX7_swapAll 115 = .ok (.bipush 18, 2) ∧ decode cX7_swapAll 117 = .ok (.aload_n 0, 1) ∧ decode cX7_swapAll 118 = .ok (.iload_n 2, 1) ∧ decode cX7_swapAll 119 = .ok (.bipush 18, 2) ∧ decode cX7_swapAll 121 = .ok (.invokevirtual 66, 3) ∧ decode cX7_swapAll 124 = .ok (.aload_n 0, 1) ∧ decode cX7_swapAll 125 = .ok (.getfield 7, 3) ∧ decode cX7_swapAll 128 = .ok (.bipush 9, 2) ∧ decode cX7_swapAll 130 = .ok (.iaload, 1) ∧ decode cX7_swapAll 131 = .ok (.iadd, 1) ∧ decode cX7_swapAll 132 = .ok (.invokevirtual 62, 3) ∧ decode cX7_swapAll 135 = .ok (.aload_n 0, 1) := by decide +kernel
theorem dX7_swapAll_108 : decode cX7_swapAll 108 = .ok (.iload 6, 2) := bdX7_swapAll_108.1
theorem dX7_swapAll_110 : decode cX7_swapAll 110 = .ok (.ifCond .eq 61, 3) := bdX7_swapAll_108.2.1
theorem dX7_swapAll_113 : decode cX7_swapAll 113 = .ok (.aload_n 0, 1) := bdX7_swapAll_108.2.2.1
theorem dX7_swapAll_114 : decode cX7_swapAll 114 = .ok (.iload_n 2, 1) := bdX7_swapAll_108.2.2.2.1
theorem dX7_swapAll_115 : decode cX7_swapAll 115 = .ok (.bipush 18, 2) := bdX7_swapAll_108.2.2.2.2.1
theorem dX7_swapAll_117 : decode cX7_swapAll 117 = .ok (.aload_n 0, 1) := bdX7_swapAll_108.2.2.2.2.2.1
theorem dX7_swapAll_118 : decode cX7_swapAll 118 = .ok (.iload_n 2, 1) := bdX7_swapAll_108.2.2.2.2.2.2.1
theorem dX7_swapAll_119 : decode cX7_swapAll 119 = .ok (.bipush 18, 2) := bdX7_swapAll_108.2.2.2.2.2.2.2.1
theorem dX7_swapAll_121 : decode cX7_swapAll 121 = .ok (.invokevirtual 66, 3) := bdX7_swapAll_108.2.2.2.2.2.2.2.2.1
theorem dX7_swapAll_124 : decode cX7_swapAll 124 = .ok (.aload_n 0, 1) := bdX7_swapAll_108.2.2.2.2.2.2.2.2.2.1
theorem dX7_swapAll_125 : decode cX7_swapAll 125 = .ok (.getfield 7, 3) := bdX7_swapAll_108.2.2.2.2.2.2.2.2.2.2.1
theorem dX7_swapAll_128 : decode cX7_swapAll 128 = .ok (.bipush 9, 2) := bdX7_swapAll_108.2.2.2.2.2.2.2.2.2.2.2.1
theorem dX7_swapAll_130 : decode cX7_swapAll 130 = .ok (.iaload, 1) := bdX7_swapAll_108.2.2.2.2.2.2.2.2.2.2.2.2.1
theorem dX7_swapAll_131 : decode cX7_swapAll 131 = .ok (.iadd, 1) := bdX7_swapAll_108.2.2.2.2.2.2.2.2.2.2.2.2.2.1
theorem dX7_swapAll_132 : decode cX7_swapAll 132 = .ok (.invokevirtual 62, 3) := bdX7_swapAll_108.2.2.2.2.2.2.2.2.2.2.2.2.2.2.1
theorem dX7_swapAll_135 : decode cX7_swapAll 135 = .ok (.aload_n 0, 1) := bdX7_swapAll_108.2.2.2.2.2.2.2.2.2.2.2.2.2.2.2
theorem bdX7_swapAll_136 : decode cX7_swapAll 136 = .ok (.iload_n 3, 1) ∧ decode cX7_swapAll 137 = .ok (.bipush 18, 2) ∧ decode cX7_swapAll 139 = .ok (.aload_n 0, 1) ∧ decode cX7_swapAll 140 = .ok (.iload_n 3, 1) ∧ decode cX7_swapAll 141 = .ok (.bipush 18, 2) ∧ decode cX7_swapAll 143 = .ok (.invokevirtual 66, 3) ∧ decode cX7_swapAll 146 = .ok (.aload_n 0, 1) ∧ decode cX7_swapAll 147 = .ok (.getfield 7, 3) ∧ decode cX7_swapAll 150 = .ok (.bipush 9, 2) ∧ decode cX7_swapAll 152 = .ok (.iaload, 1) ∧ decode cX7_swapAll 153 = .ok (.iadd, 1) ∧ decode cX7_swapAll 154 = .ok (.invokevirtual 62, 3) ∧ decode cX7_swapAll 157 = .ok (.aload_n 0, 1) ∧ decode cX7_swapAll 158 = .ok (.getfield 7, 3) ∧ decode cX7_swapAll 161 = .ok (.bipush 15, 2) ∧ decode cX7_swapAll 163 = .ok (.dup2, 1) := by decide +kernel
theorem dX7_swapAll_136 : decode cX7_swapAll 136 = .ok (.iload_n 3, 1) := bdX7_swapAll_136.1
theorem dX7_swapAll_137 : decode cX7_swapAll 137 = .ok (.bipush 18, 2) := bdX7_swapAll_136.2.1
theorem dX7_swapAll_139 : decode cX7_swapAll 139 = .ok (.aload_n 0, 1) := bdX7_swapAll_136.2.2.1
theorem dX7_swapAll_140 : decode cX7_swapAll 140 = .ok (.iload_n 3, 1) := bdX7_swapAll_136.2.2.2.1
theorem dX7_swapAll_141 : decode cX7_swapAll 141 = .ok (.bipush 18, 2) := bdX7_swapAll_136.2.2.2.2.1
theorem dX7_swapAll_143 : decode cX7_swapAll 143 = .ok (.invokevirtual 66, 3) := bdX7_swapAll_136.2.2.2.2.2.1
theorem dX7_swapAll_146 : decode cX7_swapAll 146 = .ok (.aload_n 0, 1) := bdX7_swapAll_136.2.2.2.2.2.2.1
theorem dX7_swapAll_147 : decode cX7_swapAll 147 = .ok (.getfield 7, 3) := bdX7_swapAll_136.2.2.2.2.2.2.2.1
theorem dX7_swapAll_150 : decode cX7_swapAll 150 = .ok (.bipush 9, 2) := bdX7_swapAll_136.2.2.2.2.2.2.2.2.1
theorem dX7_swapAll_152 : decode cX7_swapAll 152 = .ok (.iaload, 1) := bdX7_swapAll_136.2.2.2.2.2.2.2.2.2.1
theorem dX7_swapAll_153 : decode cX7_swapAll 153 = .ok (.iadd, 1) := bdX7_swapAll_136.2.2.2.2.2.2.2.2.2.2.1
theorem dX7_swapAll_154 : decode cX7_swapAll 154 = .ok (.invokevirtual 62, 3) := bdX7_swapAll_136.2.2.2.2.2.2.2.2.2.2.2.1
theorem dX7_swapAll_157 : decode cX7_swapAll 157 = .ok (.aload_n 0, 1) := bdX7_swapAll_136.2.2.2.2.2.2.2.2.2.2.2.2.1
theorem dX7_swapAll_158 : decode cX7_swapAll 158 = .ok (.getfield 7, 3) := bdX7_swapAll_136.2.2.2.2.2.2.2.2.2.2.2.2.2.1
theorem dX7_swapAll_161 : decode cX7_swapAll 161 = .ok (.bipush 15, 2) := bdX7_swapAll_136.2.2.2.2.2.2.2.2.2.2.2.2.2.2.1
theorem dX7_swapAll_163 : decode cX7_swapAll 163 = .ok (.dup2, 1) := bdX7_swapAll_136.2.2.2.2.2.2.2.2.2.2.2.2.2.2.2
theorem bdX7_swapAll_164 : decode cX7_swapAll 164 = .ok (.iaload, 1) ∧ decode cX7_swapAll 165 = .ok (.iconst 1, 1) ∧ decode cX7_swapAll 166 = .ok (.iadd, 1) ∧ decode cX7_swapAll 167 = .ok (.iastore, 1) ∧ decode cX7_swapAll 168 = .ok (.goto 17, 3) ∧ decode cX7_swapAll 171 = .ok (.aload_n 0, 1) ∧ decode cX7_swapAll 172 = .ok (.iload_n 2, 1) ∧ decode cX7_swapAll 173 = .ok (.iload 4, 2) ∧ decode cX7_swapAll 175 = .ok (.invokevirtual 122, 3) ∧ decode cX7_swapAll 178 = .ok (.aload_n 0, 1) ∧ decode cX7_swapAll 179 = .ok (.iload_n 3, 1) ∧ decode cX7_swapAll 180 = .ok (.iload 5, 2) ∧ decode cX7_swapAll 182 = .ok (.invokevirtual 122, 3) ∧ decode cX7_swapAll 185 = .ok (.iinc 1 1, 3) ∧ decode cX7_swapAll 188 = .ok (.goto (-186), 3) ∧ decode cX7_swapAll 191 = .ok (.aload_n 0, 1) := by decide +kernel
theorem dX7_swapAll_164 : decode cX7_swapAll 164 = .ok (.iaload, 1) := bdX7_swapAll_164.1
theorem dX7_swapAll_165 : decode cX7_swapAll 165 = .ok (.iconst 1, 1) := bdX7_swapAll_164.2.1
theorem dX7_swapAll_166 : decode cX7_swapAll 166 = .ok (.iadd, 1) := bdX7_swapAll_164.2.2.1
theorem dX7_swapAll_167 : decode cX7_swapAll 167 = .ok (.iastore, 1) := bdX7_swapAll_164.2.2.2.1
theorem dX7_swapAll_168 : decode cX7_swapAll 168 = .ok (.goto 17, 3) := bdX7_swapAll_164.2.2.2.2.1
theorem dX7_swapAll_171 : decode cX7_swapAll 171 = .ok (.aload_n 0, 1) := bdX7_swapAll_164.2.2.2.2.2.1
theorem dX7_swapAll_172 : decode cX7_swapAll 172 = .ok (.iload_n 2, 1) := bdX7_swapAll_164.2.2.2.2.2.2.1
theorem dX7_swapAll_173 : decode cX7_swapAll 173 = .ok (.iload 4, 2) := bdX7_swapAll_164.2.2.2.2.2.2.2.1
theorem dX7_swapAll_175 : decode cX7_swapAll 175 = .ok (.invokevirtual 122, 3) := bdX7_swapAll_164.2.2.2.2.2.2.2.2.1
theorem dX7_swapAll_178 : decode cX7_swapAll 178 = .ok (.aload_n 0, 1) := bdX7_swapAll_164.2.2.2.2.2.2.2.2.2.1
theorem dX7_swapAll_179 : decode cX7_swapAll 179 = .ok (.iload_n 3, 1) := bdX7_swapAll_164.2.2.2.2.2.2.2.2.2.2.1
theorem dX7_swapAll_180 : decode cX7_swapAll 180 = .ok (.iload 5, 2) := bdX7_swapAll_164.2.2.2.2.2.2.2.2.2.2.2.1
theorem dX7_swapAll_182 : decode cX7_swapAll 182 = .ok (.invokevirtual 122, 3) := bdX7_swapAll_164.2.2.2.2.2.2.2.2.2.2.2.2.1
theorem dX7_swapAll_185 : decode cX7_swapAll 185 = .ok (.iinc 1 1, 3) := bdX7_swapAll_164.2.2.2.2.2.2.2.2.2.2.2.2.2.1
theorem dX7_swapAll_188 : decode cX7_swapAll 188 = .ok (.goto (-186), 3) := bdX7_swapAll_164.2.2.2.2.2.2.2.2.2.2.2.2.2.2.1
theorem dX7_swapAll_191 : decode cX7_swapAll 191 = .ok (.aload_n 0, 1) := bdX7_swapAll_164.2.2.2.2.2.2.2.2.2.2.2.2.2.2.2
theorem bdX7_swapAll_192 : decode cX7_swapAll 192 = .ok (.getfield 7, 3) ∧ decode cX7_swapAll 195 = .ok (.bipush 14, 2) ∧ decode cX7_swapAll 197 = .ok (.iconst 0, 1) ∧ decode cX7_swapAll 198 = .ok (.iastore, 1) ∧ decode cX7_swapAll 199 = .ok (.return_, 1) := by decide +kernel
theorem dX7_swapAll_192 : decode cX7_swapAll 192 = .ok (.getfield 7, 3) := bdX7_swapAll_192.1
theorem dX7_swapAll_195 : decode cX7_swapAll 195 = .ok (.bipush 14, 2) := bdX7_swapAll_192.2.1
theorem dX7_swapAll_197 : decode cX7_swapAll 197 = .ok (.iconst 0, 1) := bdX7_swapAll_192.2.2.1
theorem dX7_swapAll_198 : decode cX7_swapAll 198 = .ok (.iastore, 1) := bdX7_swapAll_192.2.2.2.1
theorem dX7_swapAll_199 : decode cX7_swapAll 199 = .ok (.return_, 1) := bdX7_swapAll_192.2.2.2.2
theorem bdX7_trade_0 : decode cX7_trade 0 = .ok (.iconst 0, 1) ∧ decode cX7_trade 1 = .ok (.istore_n 1, 1) ∧ decode cX7_trade 2 = .ok (.iload_n 1, 1) ∧ decode cX7_trade 3 = .ok (.aload_n 0, 1) ∧ decode cX7_trade 4 = .ok (.getfield 7, 3) ∧ decode cX7_trade 7 = .ok (.bipush 13, 2) ∧ decode cX7_trade 9 = .ok (.iaload, 1) ∧ decode cX7_trade 10 = .ok (.if_icmp .ge 130, 3) ∧ decode cX7_trade 13 = .ok (.aload_n 0, 1) ∧ decode cX7_trade 14 = .ok (.iload_n 1, 1) ∧ decode cX7_trade 15 = .ok (.bipush 11, 2) ∧ decode cX7_trade 17 = .ok (.invokevirtual 66, 3) ∧ decode cX7_trade 20 = .ok (.istore_n 2, 1) ∧ decode cX7_trade 21 = .ok (.iload_n 2, 1) ∧ decode cX7_trade 22 = .ok (.ifCond .lt 90, 3) ∧ decode cX7_trade 25 = .ok (.aload_n 0, 1) := by decide +kernel
theorem dX7_trade_0 : decode cX7_trade 0 = .ok (.iconst 0, 1) := bdX7_trade_0.1
theorem dX7_trade_1 : decode cX7_trade 1 = .ok (.istore_n 1, 1) := bdX7_trade_0.2.1
theorem dX7_trade_2 : decode cX7_trade 2 = .ok (.iload_n 1, 1) := bdX7_trade_0.2.2.1
theorem dX7_trade_3 : decode cX7_trade 3 = .ok (.aload_n 0, 1) := bdX7_trade_0.2.2.2.1
theorem dX7_trade_4 : decode cX7_trade 4 = .ok (.getfield 7, 3) := bdX7_trade_0.2.2.2.2.1
theorem dX7_trade_7 : decode cX7_trade 7 = .ok (.bipush 13, 2) := bdX7_trade_0.2.2.2.2.2.1
theorem dX7_trade_9 : decode cX7_trade 9 = .ok (.iaload, 1) := bdX7_trade_0.2.2.2.2.2.2.1
theorem dX7_trade_10 : decode cX7_trade 10 = .ok (.if_icmp .ge 130, 3) := bdX7_trade_0.2.2.2.2.2.2.2.1
theorem dX7_trade_13 : decode cX7_trade 13 = .ok (.aload_n 0, 1) := bdX7_trade_0.2.2.2.2.2.2.2.2.1
theorem dX7_trade_14 : decode cX7_trade 14 = .ok (.iload_n 1, 1) := bdX7_trade_0.2.2.2.2.2.2.2.2.2.1
theorem dX7_trade_15 : decode cX7_trade 15 = .ok (.bipush 11, 2) := bdX7_trade_0.2.2.2.2.2.2.2.2.2.2.1
theorem dX7_trade_17 : decode cX7_trade 17 = .ok (.invokevirtual 66, 3) := bdX7_trade_0.2.2.2.2.2.2.2.2.2.2.2.1
theorem dX7_trade_20 : decode cX7_trade 20 = .ok (.istore_n 2, 1) := bdX7_trade_0.2.2.2.2.2.2.2.2.2.2.2.2.1
theorem dX7_trade_21 : decode cX7_trade 21 = .ok (.iload_n 2, 1) := bdX7_trade_0.2.2.2.2.2.2.2.2.2.2.2.2.2.1
theorem dX7_trade_22 : decode cX7_trade 22 = .ok (.ifCond .lt 90, 3) := bdX7_trade_0.2.2.2.2.2.2.2.2.2.2.2.2.2.2.1
theorem dX7_trade_25 : decode cX7_trade 25 = .ok (.aload_n 0, 1) := bdX7_trade_0.2.2.2.2.2.2.2.2.2.2.2.2.2.2.2
theorem bdX7_trade_26 : decode cX7_trade 26 = .ok (.iload_n 1, 1) ∧ decode cX7_trade 27 = .ok (.bipush 16, 2) ∧ decode cX7_trade 29 = .ok (.aload_n 0, 1) ∧ decode cX7_trade 30 = .ok (.iload_n 1, 1) ∧ decode cX7_trade 31 = .ok (.bipush 16, 2) ∧ decode cX7_trade 33 = .ok (.invokevirtual 66, 3) ∧ decode cX7_trade 36 = .ok (.aload_n 0, 1) ∧ decode cX7_trade 37 = .ok (.iload_n 2, 1) ∧ decode cX7_trade 38 = .ok (.iconst 0, 1) ∧ decode cX7_trade 39 = .ok (.invokevirtual 58, 3) ∧ decode cX7_trade 42 = .ok (.iadd, 1) ∧ decode cX7_trade 43 = .ok (.invokevirtual 62, 3) ∧ decode cX7_trade 46 = .ok (.aload_n 0, 1) ∧ decode cX7_trade 47 = .ok (.iload_n 1, 1) ∧ decode cX7_trade 48 = .ok (.bipush 10, 2) ∧ decode cX7_trade 50 = .ok (.aload_n 0, 1) := by decide +kernel
theorem dX7_trade_26 : decode cX7_trade 26 = .ok (.iload_n 1, 1) := bdX7_trade_26.1
theorem dX7_trade_27 : decode cX7_trade 27 = .ok (.bipush 16, 2) := bdX7_trade_26.2.1
theorem dX7_trade_29 : decode cX7_trade 29 = .ok (.aload_n 0, 1) := bdX7_trade_26.2.2.1
theorem dX7_trade_30 : decode cX7_trade 30 = .ok (.iload_n 1, 1) := bdX7_trade_26.2.2.2.1
theorem dX7_trade_31 : decode cX7_trade 31 = .ok (.bipush 16, 2) := bdX7_trade_26.2.2.2.2.1
theorem dX7_trade_33 : decode cX7_trade 33 = .ok (.invokevirtual 66, 3) := bdX7_trade_26.2.2.2.2.2.1
theorem dX7_trade_36 : decode cX7_trade 36 = .ok (.aload_n 0, 1) := bdX7_trade_26.2.2.2.2.2.2.1
theorem dX7_trade_37 : decode cX7_trade 37 = .ok (.iload_n 2, 1) := bdX7_trade_26.2.2.2.2.2.2.2.1
theorem dX7_trade_38 : decode cX7_trade 38 = .ok (.iconst 0, 1) := bdX7_trade_26.2.2.2.2.2.2.2.2.1
theorem dX7_trade_39 : decode cX7_trade 39 = .ok (.invokevirtual 58, 3) := bdX7_trade_26.2.2.2.2.2.2.2.2.2.1
theorem dX7_trade_42 : decode cX7_trade 42 = .ok (.iadd, 1) := bdX7_trade_26.2.2.2.2.2.2.2.2.2.2.1
theorem dX7_trade_43 : decode cX7_trade 43 = .ok (.invokevirtual 62, 3) := bdX7_trade_26.2.2.2.2.2.2.2.2.2.2.2.1
theorem dX7_trade_46 : decode cX7_trade 46 = .ok (.aload_n 0, 1) := bdX7_trade_26.2.2.2.2.2.2.2.2.2.2.2.2.1
theorem dX7_trade_47 : decode cX7_trade 47 = .ok (.iload_n 1, 1) := bdX7_trade_26.2.2.2.2.2.2.2.2.2.2.2.2.2.1
theorem dX7_trade_48 : decode cX7_trade 48 = .ok (.bipush 10, 2) := bdX7_trade_26.2.2.2.2.2.2.2.2.2.2.2.2.2.2.1
theorem dX7_trade_50 : decode cX7_trade 50 = .ok (.aload_n 0, 1) := bdX7_trade_26.2.2.2.2.2.2.2.2.2.2.2.2.2.2.2
theorem bdX7_trade_51 : decode cX7_trade 51 = .ok (.iload_n 1, 1) ∧ decode cX7_trade 52 = .ok (.bipush 10, 2) ∧ decode cX7_trade 54 = .ok (.invokevirtual 66, 3) ∧ decode cX7_trade 57 = .ok (.iconst 1, 1) ∧ decode cX7_trade 58 = .ok (.iadd, 1) ∧ decode cX7_trade 59 = .ok (.invokevirtual 62, 3) ∧ decode cX7_trade 62 = .ok (.aload_n 0, 1) ∧ decode cX7_trade 63 = .ok (.iload_n 1, 1) ∧ decode cX7_trade 64 = .ok (.bipush 6, 2) ∧ decode cX7_trade 66 = .ok (.iconst 0, 1) ∧ decode cX7_trade 67 = .ok (.invokevirtual 62, 3) ∧ decode cX7_trade 70 = .ok (.aload_n 0, 1) ∧ decode cX7_trade 71 = .ok (.getfield 7, 3) ∧ decode cX7_trade 74 = .ok (.bipush 32, 2) ∧ decode cX7_trade 76 = .ok (.iconst 4, 1) ∧ decode cX7_trade 77 = .ok (.iload_n 2, 1) := by decide +kernel
theorem dX7_trade_51 : decode cX7_trade 51 = .ok (.iload_n 1, 1) := bdX7_trade_51.1
theorem dX7_trade_52 : decode cX7_trade 52 = .ok (.bipush 10, 2) := bdX7_trade_51.2.1
theorem dX7_trade_54 : decode cX7_trade 54 = .ok (.invokevirtual 66, 3) := bdX7_trade_51.2.2.1
theorem dX7_trade_57 : decode cX7_trade 57 = .ok (.iconst 1, 1) := bdX7_trade_51.2.2.2.1
theorem dX7_trade_58 : decode cX7_trade 58 = .ok (.iadd, 1) := bdX7_trade_51.2.2.2.2.1
theorem dX7_trade_59 : decode cX7_trade 59 = .ok (.invokevirtual 62, 3) := bdX7_trade_51.2.2.2.2.2.1
theorem dX7_trade_62 : decode cX7_trade 62 = .ok (.aload_n 0, 1) := bdX7_trade_51.2.2.2.2.2.2.1
theorem dX7_trade_63 : decode cX7_trade 63 = .ok (.iload_n 1, 1) := bdX7_trade_51.2.2.2.2.2.2.2.1
theorem dX7_trade_64 : decode cX7_trade 64 = .ok (.bipush 6, 2) := bdX7_trade_51.2.2.2.2.2.2.2.2.1
theorem dX7_trade_66 : decode cX7_trade 66 = .ok (.iconst 0, 1) := bdX7_trade_51.2.2.2.2.2.2.2.2.2.1
theorem dX7_trade_67 : decode cX7_trade 67 = .ok (.invokevirtual 62, 3) := bdX7_trade_51.2.2.2.2.2.2.2.2.2.2.1
theorem dX7_trade_70 : decode cX7_trade 70 = .ok (.aload_n 0, 1) := bdX7_trade_51.2.2.2.2.2.2.2.2.2.2.2.1
theorem dX7_trade_71 : decode cX7_trade 71 = .ok (.getfield 7, 3) := bdX7_trade_51.2.2.2.2.2.2.2.2.2.2.2.2.1
theorem dX7_trade_74 : decode cX7_trade 74 = .ok (.bipush 32, 2) := bdX7_trade_51.2.2.2.2.2.2.2.2.2.2.2.2.2.1
theorem dX7_trade_76 : decode cX7_trade 76 = .ok (.iconst 4, 1) := bdX7_trade_51.2.2.2.2.2.2.2.2.2.2.2.2.2.2.1
theorem dX7_trade_77 : decode cX7_trade 77 = .ok (.iload_n 2, 1) := bdX7_trade_51.2.2.2.2.2.2.2.2.2.2.2.2.2.2.2
theorem bdX7_trade_78 : decode cX7_trade 78 = .ok (.imul, 1) ∧ decode cX7_trade 79 = .ok (.iadd, 1) ∧ decode cX7_trade 80 = .ok (.iconst 1, 1) ∧ decode cX7_trade 81 = .ok (.iadd, 1) ∧ decode cX7_trade 82 = .ok (.dup2, 1) ∧ decode cX7_trade 83 = .ok (.iaload, 1) ∧ decode cX7_trade 84 = .ok (.iconst 1, 1) ∧ decode cX7_trade 85 = .ok (.iadd, 1) ∧ decode cX7_trade 86 = .ok (.iastore, 1) ∧ decode cX7_trade 87 = .ok (.aload_n 0, 1) ∧ decode cX7_trade 88 = .ok (.getfield 7, 3) ∧ decode cX7_trade 91 = .ok (.bipush 32, 2) ∧ decode cX7_trade 93 = .ok (.iconst 4, 1) ∧ decode cX7_trade 94 = .ok (.iload_n 2, 1) ∧ decode cX7_trade 95 = .ok (.imul, 1) ∧ decode cX7_trade 96 = .ok (.iadd, 1) := by decide +kernel
theorem dX7_trade_78 : decode cX7_trade 78 = .ok (.imul, 1) := bdX7_trade_78.1
theorem dX7_trade_79 : decode cX7_trade 79 = .ok (.iadd, 1) := bdX7_trade_78.2.1
theorem dX7_trade_80 : decode cX7_trade 80 = .ok (.iconst 1, 1) := bdX7_trade_78.2.2.1
theorem dX7_trade_81 : decode cX7_trade 81 = .ok (.iadd, 1) := bdX7_trade_78.2.2.2.1
theorem dX7_trade_82 : decode cX7_trade 82 = .ok (.dup2, 1) := bdX7_trade_78.2.2.2.2.1
theorem dX7_trade_83 : decode cX7_trade 83 = .ok (.iaload, 1) := bdX7_trade_78.2.2.2.2.2.1
theorem dX7_trade_84 : decode cX7_trade 84 = .ok (.iconst 1, 1) := bdX7_trade_78.2.2.2.2.2.2.1
theorem dX7_trade_85 : decode cX7_trade 85 = .ok (.iadd, 1) := bdX7_trade_78.2.2.2.2.2.2.2.1
theorem dX7_trade_86 : decode cX7_trade 86 = .ok (.iastore, 1) := bdX7_trade_78.2.2.2.2.2.2.2.2.1
theorem dX7_trade_87 : decode cX7_trade 87 = .ok (.aload_n 0, 1) := bdX7_trade_78.2.2.2.2.2.2.2.2.2.1
theorem dX7_trade_88 : decode cX7_trade 88 = .ok (.getfield 7, 3) := bdX7_trade_78.2.2.2.2.2.2.2.2.2.2.1
theorem dX7_trade_91 : decode cX7_trade 91 = .ok (.bipush 32, 2) := bdX7_trade_78.2.2.2.2.2.2.2.2.2.2.2.1
theorem dX7_trade_93 : decode cX7_trade 93 = .ok (.iconst 4, 1) := bdX7_trade_78.2.2.2.2.2.2.2.2.2.2.2.2.1
theorem dX7_trade_94 : decode cX7_trade 94 = .ok (.iload_n 2, 1) := bdX7_trade_78.2.2.2.2.2.2.2.2.2.2.2.2.2.1
theorem dX7_trade_95 : decode cX7_trade 95 = .ok (.imul, 1) := bdX7_trade_78.2.2.2.2.2.2.2.2.2.2.2.2.2.2.1
theorem dX7_trade_96 : decode cX7_trade 96 = .ok (.iadd, 1) := bdX7_trade_78.2.2.2.2.2.2.2.2.2.2.2.2.2.2.2
theorem bdX7_trade_97 : decode cX7_trade 97 = .ok (.iconst 2, 1) ∧ decode cX7_trade 98 = .ok (.iadd, 1) ∧ decode cX7_trade 99 = .ok (.dup2, 1) ∧ decode cX7_trade 100 = .ok (.iaload, 1) ∧ decode cX7_trade 101 = .ok (.aload_n 0, 1) ∧ decode cX7_trade 102 = .ok (.iload_n 2, 1) ∧ decode cX7_trade 103 = .ok (.iconst 0, 1) ∧ decode cX7_trade 104 = .ok (.invokevirtual 58, 3) ∧ decode cX7_trade 107 = .ok (.iadd, 1) ∧ decode cX7_trade 108 = .ok (.iastore, 1) ∧ decode cX7_trade 109 = .ok (.goto 25, 3) ∧ decode cX7_trade 112 = .ok (.aload_n 0, 1) ∧ decode cX7_trade 113 = .ok (.iload_n 1, 1) ∧ decode cX7_trade 114 = .ok (.bipush 6, 2) ∧ decode cX7_trade 116 = .ok (.aload_n 0, 1) ∧ decode cX7_trade 117 = .ok (.iload_n 1, 1) := by decide +kernel
theorem dX7_trade_97 : decode cX7_trade 97 = .ok (.iconst 2, 1) := bdX7_trade_97.1
theorem dX7_trade_98 : decode cX7_trade 98 = .ok (.iadd, 1) := bdX7_trade_97.2.1
theorem dX7_trade_99 : decode cX7_trade 99 = .ok (.dup2, 1) := bdX7_trade_97.2.2.1
theorem dX7_trade_100 : decode cX7_trade 100 = .ok (.iaload, 1) := bdX7_trade_97.2.2.2.1
theorem dX7_trade_101 : decode cX7_trade 101 = .ok (.aload_n 0, 1) := bdX7_trade_97.2.2.2.2.1
theorem dX7_trade_102 : decode cX7_trade 102 = .ok (.iload_n 2, 1) := bdX7_trade_97.2.2.2.2.2.1
theorem dX7_trade_103 : decode cX7_trade 103 = .ok (.iconst 0, 1) := bdX7_trade_97.2.2.2.2.2.2.1
theorem dX7_trade_104 : decode cX7_trade 104 = .ok (.invokevirtual 58, 3) := bdX7_trade_97.2.2.2.2.2.2.2.1
theorem dX7_trade_107 : decode cX7_trade 107 = .ok (.iadd, 1) := bdX7_trade_97.2.2.2.2.2.2.2.2.1
theorem dX7_trade_108 : decode cX7_trade 108 = .ok (.iastore, 1) := bdX7_trade_97.2.2.2.2.2.2.2.2.2.1
theorem dX7_trade_109 : decode cX7_trade 109 = .ok (.goto 25, 3) := bdX7_trade_97.2.2.2.2.2.2.2.2.2.2.1
theorem dX7_trade_112 : decode cX7_trade 112 = .ok (.aload_n 0, 1) := bdX7_trade_97.2.2.2.2.2.2.2.2.2.2.2.1
theorem dX7_trade_113 : decode cX7_trade 113 = .ok (.iload_n 1, 1) := bdX7_trade_97.2.2.2.2.2.2.2.2.2.2.2.2.1
theorem dX7_trade_114 : decode cX7_trade 114 = .ok (.bipush 6, 2) := bdX7_trade_97.2.2.2.2.2.2.2.2.2.2.2.2.2.1
theorem dX7_trade_116 : decode cX7_trade 116 = .ok (.aload_n 0, 1) := bdX7_trade_97.2.2.2.2.2.2.2.2.2.2.2.2.2.2.1
theorem dX7_trade_117 : decode cX7_trade 117 = .ok (.iload_n 1, 1) := bdX7_trade_97.2.2.2.2.2.2.2.2.2.2.2.2.2.2.2
theorem bdX7_trade_118 : decode cX7_trade 118 = .ok (.bipush 6, 2) ∧ decode cX7_trade 120 = .ok (.invokevirtual 66, 3) ∧ decode cX7_trade 123 = .ok (.aload_n 0, 1) ∧ decode cX7_trade 124 = .ok (.iload_n 1, 1) ∧ decode cX7_trade 125 = .ok (.bipush 19, 2) ∧ decode cX7_trade 127 = .ok (.invokevirtual 66, 3) ∧ decode cX7_trade 130 = .ok (.iadd, 1) ∧ decode cX7_trade 131 = .ok (.invokevirtual 62, 3) ∧ decode cX7_trade 134 = .ok (.iinc 1 1, 3) ∧ decode cX7_trade 137 = .ok (.goto (-135), 3) ∧ decode cX7_trade 140 = .ok (.return_, 1) := by decide +kernel
theorem dX7_trade_118 : decode cX7_trade 118 = .ok (.bipush 6, 2) := bdX7_trade_118.1
theorem dX7_trade_120 : decode cX7_trade 120 = .ok (.invokevirtual 66, 3) := bdX7_trade_118.2.1
theorem dX7_trade_123 : decode cX7_trade 123 = .ok (.aload_n 0, 1) := bdX7_trade_118.2.2.1
theorem dX7_trade_124 : decode cX7_trade 124 = .ok (.iload_n 1, 1) := bdX7_trade_118.2.2.2.1
theorem dX7_trade_125 : decode cX7_trade 125 = .ok (.bipush 19, 2) := bdX7_trade_118.2.2.2.2.1
theorem dX7_trade_127 : decode cX7_trade 127 = .ok (.invokevirtual 66, 3) := bdX7_trade_118.2.2.2.2.2.1
theorem dX7_trade_130 : decode cX7_trade 130 = .ok (.iadd, 1) := bdX7_trade_118.2.2.2.2.2.2.1
theorem dX7_trade_131 : decode cX7_trade 131 = .ok (.invokevirtual 62, 3) := bdX7_trade_118.2.2.2.2.2.2.2.1
theorem dX7_trade_134 : decode cX7_trade 134 = .ok (.iinc 1 1, 3) := bdX7_trade_118.2.2.2.2.2.2.2.2.1
theorem dX7_trade_137 : decode cX7_trade 137 = .ok (.goto (-135), 3) := bdX7_trade_118.2.2.2.2.2.2.2.2.2.1
theorem dX7_trade_140 : decode cX7_trade 140 = .ok (.return_, 1) := bdX7_trade_118.2.2.2.2.2.2.2.2.2.2
theorem bdX7_passDay_0 : decode cX7_passDay 0 = .ok (.aload_n 0, 1) ∧ decode cX7_passDay 1 = .ok (.invokevirtual 151, 3) ∧ decode cX7_passDay 4 = .ok (.aload_n 0, 1) ∧ decode cX7_passDay 5 = .ok (.invokevirtual 154, 3) ∧ decode cX7_passDay 8 = .ok (.aload_n 0, 1) ∧ decode cX7_passDay 9 = .ok (.invokevirtual 157, 3) ∧ decode cX7_passDay 12 = .ok (.aload_n 0, 1) ∧ decode cX7_passDay 13 = .ok (.invokevirtual 160, 3) ∧ decode cX7_passDay 16 = .ok (.aload_n 0, 1) ∧ decode cX7_passDay 17 = .ok (.invokevirtual 163, 3) ∧ decode cX7_passDay 20 = .ok (.aload_n 0, 1) ∧ decode cX7_passDay 21 = .ok (.invokevirtual 166, 3) ∧ decode cX7_passDay 24 = .ok (.aload_n 0, 1) ∧ decode cX7_passDay 25 = .ok (.getfield 7, 3) ∧ decode cX7_passDay 28 = .ok (.bipush 10, 2) ∧ decode cX7_passDay 30 = .ok (.dup2, 1) := by decide +kernel
theorem dX7_passDay_0 : decode cX7_passDay 0 = .ok (.aload_n 0, 1) := bdX7_passDay_0.1
theorem dX7_passDay_1 : decode cX7_passDay 1 = .ok (.invokevirtual 151, 3) := bdX7_passDay_0.2.1
theorem dX7_passDay_4 : decode cX7_passDay 4 = .ok (.aload_n 0, 1) := bdX7_passDay_0.2.2.1
theorem dX7_passDay_5 : decode cX7_passDay 5 = .ok (.invokevirtual 154, 3) := bdX7_passDay_0.2.2.2.1
theorem dX7_passDay_8 : decode cX7_passDay 8 = .ok (.aload_n 0, 1) := bdX7_passDay_0.2.2.2.2.1
theorem dX7_passDay_9 : decode cX7_passDay 9 = .ok (.invokevirtual 157, 3) := bdX7_passDay_0.2.2.2.2.2.1
theorem dX7_passDay_12 : decode cX7_passDay 12 = .ok (.aload_n 0, 1) := bdX7_passDay_0.2.2.2.2.2.2.1
theorem dX7_passDay_13 : decode cX7_passDay 13 = .ok (.invokevirtual 160, 3) := bdX7_passDay_0.2.2.2.2.2.2.2.1
theorem dX7_passDay_16 : decode cX7_passDay 16 = .ok (.aload_n 0, 1) := bdX7_passDay_0.2.2.2.2.2.2.2.2.1
theorem dX7_passDay_17 : decode cX7_passDay 17 = .ok (.invokevirtual 163, 3) := bdX7_passDay_0.2.2.2.2.2.2.2.2.2.1
theorem dX7_passDay_20 : decode cX7_passDay 20 = .ok (.aload_n 0, 1) := bdX7_passDay_0.2.2.2.2.2.2.2.2.2.2.1
theorem dX7_passDay_21 : decode cX7_passDay 21 = .ok (.invokevirtual 166, 3) := bdX7_passDay_0.2.2.2.2.2.2.2.2.2.2.2.1
theorem dX7_passDay_24 : decode cX7_passDay 24 = .ok (.aload_n 0, 1) := bdX7_passDay_0.2.2.2.2.2.2.2.2.2.2.2.2.1
theorem dX7_passDay_25 : decode cX7_passDay 25 = .ok (.getfield 7, 3) := bdX7_passDay_0.2.2.2.2.2.2.2.2.2.2.2.2.2.1
theorem dX7_passDay_28 : decode cX7_passDay 28 = .ok (.bipush 10, 2) := bdX7_passDay_0.2.2.2.2.2.2.2.2.2.2.2.2.2.2.1
theorem dX7_passDay_30 : decode cX7_passDay 30 = .ok (.dup2, 1) := bdX7_passDay_0.2.2.2.2.2.2.2.2.2.2.2.2.2.2.2
theorem bdX7_passDay_31 : decode cX7_passDay 31 = .ok (.iaload, 1) ∧ decode cX7_passDay 32 = .ok (.iconst 1, 1) ∧ decode cX7_passDay 33 = .ok (.iadd, 1) ∧ decode cX7_passDay 34 = .ok (.iastore, 1) ∧ decode cX7_passDay 35 = .ok (.iconst 0, 1) ∧ decode cX7_passDay 36 = .ok (.istore_n 1, 1) ∧ decode cX7_passDay 37 = .ok (.iload_n 1, 1) ∧ decode cX7_passDay 38 = .ok (.aload_n 0, 1) ∧ decode cX7_passDay 39 = .ok (.getfield 7, 3) ∧ decode cX7_passDay 42 = .ok (.bipush 13, 2) ∧ decode cX7_passDay 44 = .ok (.iaload, 1) ∧ decode cX7_passDay 45 = .ok (.if_icmp .ge 36, 3) ∧ decode cX7_passDay 48 = .ok (.aload_n 0, 1) ∧ decode cX7_passDay 49 = .ok (.getfield 7, 3) ∧ decode cX7_passDay 52 = .ok (.sipush 392, 3) ∧ decode cX7_passDay 55 = .ok (.sipush 200, 3) := by decide +kernel
theorem dX7_passDay_31 : decode cX7_passDay 31 = .ok (.iaload, 1) := bdX7_passDay_31.1
theorem dX7_passDay_32 : decode cX7_passDay 32 = .ok (.iconst 1, 1) := bdX7_passDay_31.2.1
theorem dX7_passDay_33 : decode cX7_passDay 33 = .ok (.iadd, 1) := bdX7_passDay_31.2.2.1
theorem dX7_passDay_34 : decode cX7_passDay 34 = .ok (.iastore, 1) := bdX7_passDay_31.2.2.2.1
theorem dX7_passDay_35 : decode cX7_passDay 35 = .ok (.iconst 0, 1) := bdX7_passDay_31.2.2.2.2.1
theorem dX7_passDay_36 : decode cX7_passDay 36 = .ok (.istore_n 1, 1) := bdX7_passDay_31.2.2.2.2.2.1
theorem dX7_passDay_37 : decode cX7_passDay 37 = .ok (.iload_n 1, 1) := bdX7_passDay_31.2.2.2.2.2.2.1
theorem dX7_passDay_38 : decode cX7_passDay 38 = .ok (.aload_n 0, 1) := bdX7_passDay_31.2.2.2.2.2.2.2.1
theorem dX7_passDay_39 : decode cX7_passDay 39 = .ok (.getfield 7, 3) := bdX7_passDay_31.2.2.2.2.2.2.2.2.1
theorem dX7_passDay_42 : decode cX7_passDay 42 = .ok (.bipush 13, 2) := bdX7_passDay_31.2.2.2.2.2.2.2.2.2.1
theorem dX7_passDay_44 : decode cX7_passDay 44 = .ok (.iaload, 1) := bdX7_passDay_31.2.2.2.2.2.2.2.2.2.2.1
theorem dX7_passDay_45 : decode cX7_passDay 45 = .ok (.if_icmp .ge 36, 3) := bdX7_passDay_31.2.2.2.2.2.2.2.2.2.2.2.1
theorem dX7_passDay_48 : decode cX7_passDay 48 = .ok (.aload_n 0, 1) := bdX7_passDay_31.2.2.2.2.2.2.2.2.2.2.2.2.1
theorem dX7_passDay_49 : decode cX7_passDay 49 = .ok (.getfield 7, 3) := bdX7_passDay_31.2.2.2.2.2.2.2.2.2.2.2.2.2.1
theorem dX7_passDay_52 : decode cX7_passDay 52 = .ok (.sipush 392, 3) := bdX7_passDay_31.2.2.2.2.2.2.2.2.2.2.2.2.2.2.1
theorem dX7_passDay_55 : decode cX7_passDay 55 = .ok (.sipush 200, 3) := bdX7_passDay_31.2.2.2.2.2.2.2.2.2.2.2.2.2.2.2
theorem bdX7_passDay_58 : decode cX7_passDay 58 = .ok (.iload_n 1, 1) ∧ decode cX7_passDay 59 = .ok (.imul, 1) ∧ decode cX7_passDay 60 = .ok (.iadd, 1) ∧ decode cX7_passDay 61 = .ok (.aload_n 0, 1) ∧ decode cX7_passDay 62 = .ok (.getfield 7, 3) ∧ decode cX7_passDay 65 = .ok (.bipush 10, 2) ∧ decode cX7_passDay 67 = .ok (.iaload, 1) ∧ decode cX7_passDay 68 = .ok (.sipush 200, 3) ∧ decode cX7_passDay 71 = .ok (.irem, 1) ∧ decode cX7_passDay 72 = .ok (.iadd, 1) ∧ decode cX7_passDay 73 = .ok (.iconst 0, 1) ∧ decode cX7_passDay 74 = .ok (.iastore, 1) ∧ decode cX7_passDay 75 = .ok (.iinc 1 1, 3) ∧ decode cX7_passDay 78 = .ok (.goto (-41), 3) ∧ decode cX7_passDay 81 = .ok (.return_, 1) := by decide +kernel
theorem dX7_passDay_58 : decode cX7_passDay 58 = .ok (.iload_n 1, 1) := bdX7_passDay_58.1
theorem dX7_passDay_59 : decode cX7_passDay 59 = .ok (.imul, 1) := bdX7_passDay_58.2.1
theorem dX7_passDay_60 : decode cX7_passDay 60 = .ok (.iadd, 1) := bdX7_passDay_58.2.2.1
theorem dX7_passDay_61 : decode cX7_passDay 61 = .ok (.aload_n 0, 1) := bdX7_passDay_58.2.2.2.1
theorem dX7_passDay_62 : decode cX7_passDay 62 = .ok (.getfield 7, 3) := bdX7_passDay_58.2.2.2.2.1
theorem dX7_passDay_65 : decode cX7_passDay 65 = .ok (.bipush 10, 2) := bdX7_passDay_58.2.2.2.2.2.1
theorem dX7_passDay_67 : decode cX7_passDay 67 = .ok (.iaload, 1) := bdX7_passDay_58.2.2.2.2.2.2.1
theorem dX7_passDay_68 : decode cX7_passDay 68 = .ok (.sipush 200, 3) := bdX7_passDay_58.2.2.2.2.2.2.2.1
theorem dX7_passDay_71 : decode cX7_passDay 71 = .ok (.irem, 1) := bdX7_passDay_58.2.2.2.2.2.2.2.2.1
theorem dX7_passDay_72 : decode cX7_passDay 72 = .ok (.iadd, 1) := bdX7_passDay_58.2.2.2.2.2.2.2.2.2.1
theorem dX7_passDay_73 : decode cX7_passDay 73 = .ok (.iconst 0, 1) := bdX7_passDay_58.2.2.2.2.2.2.2.2.2.2.1
theorem dX7_passDay_74 : decode cX7_passDay 74 = .ok (.iastore, 1) := bdX7_passDay_58.2.2.2.2.2.2.2.2.2.2.2.1
theorem dX7_passDay_75 : decode cX7_passDay 75 = .ok (.iinc 1 1, 3) := bdX7_passDay_58.2.2.2.2.2.2.2.2.2.2.2.2.1
theorem dX7_passDay_78 : decode cX7_passDay 78 = .ok (.goto (-41), 3) := bdX7_passDay_58.2.2.2.2.2.2.2.2.2.2.2.2.2.1
theorem dX7_passDay_81 : decode cX7_passDay 81 = .ok (.return_, 1) := bdX7_passDay_58.2.2.2.2.2.2.2.2.2.2.2.2.2.2
theorem bdX7_tryDays_0 : decode cX7_tryDays 0 = .ok (.iload_n 1, 1) ∧ decode cX7_tryDays 1 = .ok (.iconst 1, 1) ∧ decode cX7_tryDays 2 = .ok (.bipush 60, 2) ∧ decode cX7_tryDays 4 = .ok (.invokestatic 35, 3) ∧ decode cX7_tryDays 7 = .ok (.ifCond .ne 6, 3) ∧ decode cX7_tryDays 10 = .ok (.bipush (-2), 2) ∧ decode cX7_tryDays 12 = .ok (.ireturn, 1) ∧ decode cX7_tryDays 13 = .ok (.aload_n 0, 1) ∧ decode cX7_tryDays 14 = .ok (.iload_n 2, 1) ∧ decode cX7_tryDays 15 = .ok (.invokevirtual 78, 3) ∧ decode cX7_tryDays 18 = .ok (.iconst 0, 1) ∧ decode cX7_tryDays 19 = .ok (.istore_n 3, 1) ∧ decode cX7_tryDays 20 = .ok (.iload_n 3, 1) ∧ decode cX7_tryDays 21 = .ok (.iload_n 1, 1) ∧ decode cX7_tryDays 22 = .ok (.if_icmp .ge 13, 3) ∧ decode cX7_tryDays 25 = .ok (.aload_n 0, 1) := by decide +kernel
theorem dX7_tryDays_0 : decode cX7_tryDays 0 = .ok (.iload_n 1, 1) := bdX7_tryDays_0.1
theorem dX7_tryDays_1 : decode cX7_tryDays 1 = .ok (.iconst 1, 1) := bdX7_tryDays_0.2.1
theorem dX7_tryDays_2 : decode cX7_tryDays 2 = .ok (.bipush 60, 2) := bdX7_tryDays_0.2.2.1
theorem dX7_tryDays_4 : decode cX7_tryDays 4 = .ok (.invokestatic 35, 3) := bdX7_tryDays_0.2.2.2.1
theorem dX7_tryDays_7 : decode cX7_tryDays 7 = .ok (.ifCond .ne 6, 3) := bdX7_tryDays_0.2.2.2.2.1
theorem dX7_tryDays_10 : decode cX7_tryDays 10 = .ok (.bipush (-2), 2) := bdX7_tryDays_0.2.2.2.2.2.1
theorem dX7_tryDays_12 : decode cX7_tryDays 12 = .ok (.ireturn, 1) := bdX7_tryDays_0.2.2.2.2.2.2.1
theorem dX7_tryDays_13 : decode cX7_tryDays 13 = .ok (.aload_n 0, 1) := bdX7_tryDays_0.2.2.2.2.2.2.2.1
theorem dX7_tryDays_14 : decode cX7_tryDays 14 = .ok (.iload_n 2, 1) := bdX7_tryDays_0.2.2.2.2.2.2.2.2.1
theorem dX7_tryDays_15 : decode cX7_tryDays 15 = .ok (.invokevirtual 78, 3) := bdX7_tryDays_0.2.2.2.2.2.2.2.2.2.1
theorem dX7_tryDays_18 : decode cX7_tryDays 18 = .ok (.iconst 0, 1) := bdX7_tryDays_0.2.2.2.2.2.2.2.2.2.2.1
theorem dX7_tryDays_19 : decode cX7_tryDays 19 = .ok (.istore_n 3, 1) := bdX7_tryDays_0.2.2.2.2.2.2.2.2.2.2.2.1
theorem dX7_tryDays_20 : decode cX7_tryDays 20 = .ok (.iload_n 3, 1) := bdX7_tryDays_0.2.2.2.2.2.2.2.2.2.2.2.2.1
theorem dX7_tryDays_21 : decode cX7_tryDays 21 = .ok (.iload_n 1, 1) := bdX7_tryDays_0.2.2.2.2.2.2.2.2.2.2.2.2.2.1
theorem dX7_tryDays_22 : decode cX7_tryDays 22 = .ok (.if_icmp .ge 13, 3) := bdX7_tryDays_0.2.2.2.2.2.2.2.2.2.2.2.2.2.2.1
theorem dX7_tryDays_25 : decode cX7_tryDays 25 = .ok (.aload_n 0, 1) := bdX7_tryDays_0.2.2.2.2.2.2.2.2.2.2.2.2.2.2.2
theorem bdX7_tryDays_26 : decode cX7_tryDays 26 = .ok (.invokevirtual 169, 3) ∧ decode cX7_tryDays 29 = .ok (.iinc 3 1, 3) ∧ decode cX7_tryDays 32 = .ok (.goto (-12), 3) ∧ decode cX7_tryDays 35 = .ok (.aload_n 0, 1) ∧ decode cX7_tryDays 36 = .ok (.getfield 7, 3) ∧ decode cX7_tryDays 39 = .ok (.bipush 10, 2) ∧ decode cX7_tryDays 41 = .ok (.iaload, 1) ∧ decode cX7_tryDays 42 = .ok (.ireturn, 1) := by decide +kernel
theorem dX7_tryDays_26 : decode cX7_tryDays 26 = .ok (.invokevirtual 169, 3) := bdX7_tryDays_26.1
theorem dX7_tryDays_29 : decode cX7_tryDays 29 = .ok (.iinc 3 1, 3) := bdX7_tryDays_26.2.1
theorem dX7_tryDays_32 : decode cX7_tryDays 32 = .ok (.goto (-12), 3) := bdX7_tryDays_26.2.2.1
theorem dX7_tryDays_35 : decode cX7_tryDays 35 = .ok (.aload_n 0, 1) := bdX7_tryDays_26.2.2.2.1
theorem dX7_tryDays_36 : decode cX7_tryDays 36 = .ok (.getfield 7, 3) := bdX7_tryDays_26.2.2.2.2.1
theorem dX7_tryDays_39 : decode cX7_tryDays 39 = .ok (.bipush 10, 2) := bdX7_tryDays_26.2.2.2.2.2.1
theorem dX7_tryDays_41 : decode cX7_tryDays 41 = .ok (.iaload, 1) := bdX7_tryDays_26.2.2.2.2.2.2.1
theorem dX7_tryDays_42 : decode cX7_tryDays 42 = .ok (.ireturn, 1) := bdX7_tryDays_26.2.2.2.2.2.2.2
theorem bdX7_days_0 : decode cX7_days 0 = .ok (.aload_n 0, 1) ∧ decode cX7_days 1 = .ok (.iload_n 1, 1) ∧ decode cX7_days 2 = .ok (.iconst 1, 1) ∧ decode cX7_days 3 = .ok (.invokevirtual 172, 3) ∧ decode cX7_days 6 = .ok (.ireturn, 1) := by decide +kernel
theorem dX7_days_0 : decode cX7_days 0 = .ok (.aload_n 0, 1) := bdX7_days_0.1
theorem dX7_days_1 : decode cX7_days 1 = .ok (.iload_n 1, 1) := bdX7_days_0.2.1
theorem dX7_days_2 : decode cX7_days 2 = .ok (.iconst 1, 1) := bdX7_days_0.2.2.1
theorem dX7_days_3 : decode cX7_days 3 = .ok (.invokevirtual 172, 3) := bdX7_days_0.2.2.2.1
theorem dX7_days_6 : decode cX7_days 6 = .ok (.ireturn, 1) := bdX7_days_0.2.2.2.2
theorem bdX7_ofCart_0 : decode cX7_ofCart 0 = .ok (.aload_n 0, 1) ∧ decode cX7_ofCart 1 = .ok (.iload_n 1, 1) ∧ decode cX7_ofCart 2 = .ok (.invokevirtual 72, 3) ∧ decode cX7_ofCart 5 = .ok (.ifCond .ne 5, 3) ∧ decode cX7_ofCart 8 = .ok (.iconst (-1), 1) ∧ decode cX7_ofCart 9 = .ok (.ireturn, 1) ∧ decode cX7_ofCart 10 = .ok (.iload_n 2, 1) ∧ decode cX7_ofCart 11 = .ok (.tableswitch 176 0 15 #[77, 77, 77, 84, 84, 84, 108, 108, 108, 115, 128, 136, 144, 152, 160, 168], 77) ∧ decode cX7_ofCart 88 = .ok (.aload_n 0, 1) ∧ decode cX7_ofCart 89 = .ok (.iload_n 1, 1) ∧ decode cX7_ofCart 90 = .ok (.iload_n 2, 1) ∧ decode cX7_ofCart 91 = .ok (.invokevirtual 66, 3) ∧ decode cX7_ofCart 94 = .ok (.ireturn, 1) ∧ decode cX7_ofCart 95 = .ok (.iload_n 2, 1) ∧ decode cX7_ofCart 96 = .ok (.iconst 3, 1) ∧ decode cX7_ofCart 97 = .ok (.isub, 1) := by decide +kernel
theorem dX7_ofCart_0 : decode cX7_ofCart 0 = .ok (.aload_n 0, 1) := bdX7_ofCart_0.1
theorem dX7_ofCart_1 : decode cX7_ofCart 1 = .ok (.iload_n 1, 1) := bdX7_ofCart_0.2.1
theorem dX7_ofCart_2 : decode cX7_ofCart 2 = .ok (.invokevirtual 72, 3) := bdX7_ofCart_0.2.2.1
theorem dX7_ofCart_5 : decode cX7_ofCart 5 = .ok (.ifCond .ne 5, 3) := bdX7_ofCart_0.2.2.2.1
theorem dX7_ofCart_8 : decode cX7_ofCart 8 = .ok (.iconst (-1), 1) := bdX7_ofCart_0.2.2.2.2.1
theorem dX7_ofCart_9 : decode cX7_ofCart 9 = .ok (.ireturn, 1) := bdX7_ofCart_0.2.2.2.2.2.1
theorem dX7_ofCart_10 : decode cX7_ofCart 10 = .ok (.iload_n 2, 1) := bdX7_ofCart_0.2.2.2.2.2.2.1
theorem dX7_ofCart_11 : decode cX7_ofCart 11 = .ok (.tableswitch 176 0 15 #[77, 77, 77, 84, 84, 84, 108, 108, 108, 115, 128, 136, 144, 152, 160, 168], 77) := bdX7_ofCart_0.2.2.2.2.2.2.2.1
theorem dX7_ofCart_88 : decode cX7_ofCart 88 = .ok (.aload_n 0, 1) := bdX7_ofCart_0.2.2.2.2.2.2.2.2.1
theorem dX7_ofCart_89 : decode cX7_ofCart 89 = .ok (.iload_n 1, 1) := bdX7_ofCart_0.2.2.2.2.2.2.2.2.2.1
theorem dX7_ofCart_90 : decode cX7_ofCart 90 = .ok (.iload_n 2, 1) := bdX7_ofCart_0.2.2.2.2.2.2.2.2.2.2.1
theorem dX7_ofCart_91 : decode cX7_ofCart 91 = .ok (.invokevirtual 66, 3) := bdX7_ofCart_0.2.2.2.2.2.2.2.2.2.2.2.1
theorem dX7_ofCart_94 : decode cX7_ofCart 94 = .ok (.ireturn, 1) := bdX7_ofCart_0.2.2.2.2.2.2.2.2.2.2.2.2.1
theorem dX7_ofCart_95 : decode cX7_ofCart 95 = .ok (.iload_n 2, 1) := bdX7_ofCart_0.2.2.2.2.2.2.2.2.2.2.2.2.2.1
theorem dX7_ofCart_96 : decode cX7_ofCart 96 = .ok (.iconst 3, 1) := bdX7_ofCart_0.2.2.2.2.2.2.2.2.2.2.2.2.2.2.1
theorem dX7_ofCart_97 : decode cX7_ofCart 97 = .ok (.isub, 1) := bdX7_ofCart_0.2.2.2.2.2.2.2.2.2.2.2.2.2.2.2
theorem bdX7_ofCart_98 : decode cX7_ofCart 98 = .ok (.aload_n 0, 1) ∧ decode cX7_ofCart 99 = .ok (.iload_n 1, 1) ∧ decode cX7_ofCart 100 = .ok (.iconst 2, 1) ∧ decode cX7_ofCart 101 = .ok (.invokevirtual 66, 3) ∧ decode cX7_ofCart 104 = .ok (.if_icmp .ge 12, 3) ∧ decode cX7_ofCart 107 = .ok (.aload_n 0, 1) ∧ decode cX7_ofCart 108 = .ok (.iload_n 1, 1) ∧ decode cX7_ofCart 109 = .ok (.iload_n 2, 1) ∧ decode cX7_ofCart 110 = .ok (.invokevirtual 66, 3) ∧ decode cX7_ofCart 113 = .ok (.goto 5, 3) ∧ decode cX7_ofCart 116 = .ok (.bipush (-6), 2) ∧ decode cX7_ofCart 118 = .ok (.ireturn, 1) ∧ decode cX7_ofCart 119 = .ok (.aload_n 0, 1) ∧ decode cX7_ofCart 120 = .ok (.iload_n 1, 1) ∧ decode cX7_ofCart 121 = .ok (.iload_n 2, 1) ∧ decode cX7_ofCart 122 = .ok (.invokevirtual 66, 3) := by decide +kernel
theorem dX7_ofCart_98 : decode cX7_ofCart 98 = .ok (.aload_n 0, 1) := bdX7_ofCart_98.1
theorem dX7_ofCart_99 : decode cX7_ofCart 99 = .ok (.iload_n 1, 1) := bdX7_ofCart_98.2.1
theorem dX7_ofCart_100 : decode cX7_ofCart 100 = .ok (.iconst 2, 1) := bdX7_ofCart_98.2.2.1
theorem dX7_ofCart_101 : decode cX7_ofCart 101 = .ok (.invokevirtual 66, 3) := bdX7_ofCart_98.2.2.2.1
theorem dX7_ofCart_104 : decode cX7_ofCart 104 = .ok (.if_icmp .ge 12, 3) := bdX7_ofCart_98.2.2.2.2.1
theorem dX7_ofCart_107 : decode cX7_ofCart 107 = .ok (.aload_n 0, 1) := bdX7_ofCart_98.2.2.2.2.2.1
theorem dX7_ofCart_108 : decode cX7_ofCart 108 = .ok (.iload_n 1, 1) := bdX7_ofCart_98.2.2.2.2.2.2.1
theorem dX7_ofCart_109 : decode cX7_ofCart 109 = .ok (.iload_n 2, 1) := bdX7_ofCart_98.2.2.2.2.2.2.2.1
theorem dX7_ofCart_110 : decode cX7_ofCart 110 = .ok (.invokevirtual 66, 3) := bdX7_ofCart_98.2.2.2.2.2.2.2.2.1
theorem dX7_ofCart_113 : decode cX7_ofCart 113 = .ok (.goto 5, 3) := bdX7_ofCart_98.2.2.2.2.2.2.2.2.2.1
theorem dX7_ofCart_116 : decode cX7_ofCart 116 = .ok (.bipush (-6), 2) := bdX7_ofCart_98.2.2.2.2.2.2.2.2.2.2.1
theorem dX7_ofCart_118 : decode cX7_ofCart 118 = .ok (.ireturn, 1) := bdX7_ofCart_98.2.2.2.2.2.2.2.2.2.2.2.1
theorem dX7_ofCart_119 : decode cX7_ofCart 119 = .ok (.aload_n 0, 1) := bdX7_ofCart_98.2.2.2.2.2.2.2.2.2.2.2.2.1
theorem dX7_ofCart_120 : decode cX7_ofCart 120 = .ok (.iload_n 1, 1) := bdX7_ofCart_98.2.2.2.2.2.2.2.2.2.2.2.2.2.1
theorem dX7_ofCart_121 : decode cX7_ofCart 121 = .ok (.iload_n 2, 1) := bdX7_ofCart_98.2.2.2.2.2.2.2.2.2.2.2.2.2.2.1
theorem dX7_ofCart_122 : decode cX7_ofCart 122 = .ok (.invokevirtual 66, 3) := bdX7_ofCart_98.2.2.2.2.2.2.2.2.2.2.2.2.2.2.2
theorem bdX7_ofCart_125 : decode cX7_ofCart 125 = .ok (.ireturn, 1) ∧ decode cX7_ofCart 126 = .ok (.aload_n 0, 1) ∧ decode cX7_ofCart 127 = .ok (.iload_n 1, 1) ∧ decode cX7_ofCart 128 = .ok (.aload_n 0, 1) ∧ decode cX7_ofCart 129 = .ok (.getfield 7, 3) ∧ decode cX7_ofCart 132 = .ok (.bipush 10, 2) ∧ decode cX7_ofCart 134 = .ok (.iaload, 1) ∧ decode cX7_ofCart 135 = .ok (.invokevirtual 69, 3) ∧ decode cX7_ofCart 138 = .ok (.ireturn, 1) ∧ decode cX7_ofCart 139 = .ok (.aload_n 0, 1) ∧ decode cX7_ofCart 140 = .ok (.iload_n 1, 1) ∧ decode cX7_ofCart 141 = .ok (.bipush 9, 2) ∧ decode cX7_ofCart 143 = .ok (.invokevirtual 66, 3) ∧ decode cX7_ofCart 146 = .ok (.ireturn, 1) ∧ decode cX7_ofCart 147 = .ok (.aload_n 0, 1) ∧ decode cX7_ofCart 148 = .ok (.iload_n 1, 1) := by decide +kernel
theorem dX7_ofCart_125 : decode cX7_ofCart 125 = .ok (.ireturn, 1) := bdX7_ofCart_125.1
theorem dX7_ofCart_126 : decode cX7_ofCart 126 = .ok (.aload_n 0, 1) := bdX7_ofCart_125.2.1
theorem dX7_ofCart_127 : decode cX7_ofCart 127 = .ok (.iload_n 1, 1) := bdX7_ofCart_125.2.2.1
theorem dX7_ofCart_128 : decode cX7_ofCart 128 = .ok (.aload_n 0, 1) := bdX7_ofCart_125.2.2.2.1
theorem dX7_ofCart_129 : decode cX7_ofCart 129 = .ok (.getfield 7, 3) := bdX7_ofCart_125.2.2.2.2.1
theorem dX7_ofCart_132 : decode cX7_ofCart 132 = .ok (.bipush 10, 2) := bdX7_ofCart_125.2.2.2.2.2.1
theorem dX7_ofCart_134 : decode cX7_ofCart 134 = .ok (.iaload, 1) := bdX7_ofCart_125.2.2.2.2.2.2.1
theorem dX7_ofCart_135 : decode cX7_ofCart 135 = .ok (.invokevirtual 69, 3) := bdX7_ofCart_125.2.2.2.2.2.2.2.1
theorem dX7_ofCart_138 : decode cX7_ofCart 138 = .ok (.ireturn, 1) := bdX7_ofCart_125.2.2.2.2.2.2.2.2.1
theorem dX7_ofCart_139 : decode cX7_ofCart 139 = .ok (.aload_n 0, 1) := bdX7_ofCart_125.2.2.2.2.2.2.2.2.2.1
theorem dX7_ofCart_140 : decode cX7_ofCart 140 = .ok (.iload_n 1, 1) := bdX7_ofCart_125.2.2.2.2.2.2.2.2.2.2.1
theorem dX7_ofCart_141 : decode cX7_ofCart 141 = .ok (.bipush 9, 2) := bdX7_ofCart_125.2.2.2.2.2.2.2.2.2.2.2.1
theorem dX7_ofCart_143 : decode cX7_ofCart 143 = .ok (.invokevirtual 66, 3) := bdX7_ofCart_125.2.2.2.2.2.2.2.2.2.2.2.2.1
theorem dX7_ofCart_146 : decode cX7_ofCart 146 = .ok (.ireturn, 1) := bdX7_ofCart_125.2.2.2.2.2.2.2.2.2.2.2.2.2.1
theorem dX7_ofCart_147 : decode cX7_ofCart 147 = .ok (.aload_n 0, 1) := bdX7_ofCart_125.2.2.2.2.2.2.2.2.2.2.2.2.2.2.1
theorem dX7_ofCart_148 : decode cX7_ofCart 148 = .ok (.iload_n 1, 1) := bdX7_ofCart_125.2.2.2.2.2.2.2.2.2.2.2.2.2.2.2
theorem bdX7_ofCart_149 : decode cX7_ofCart 149 = .ok (.bipush 10, 2) ∧ decode cX7_ofCart 151 = .ok (.invokevirtual 66, 3) ∧ decode cX7_ofCart 154 = .ok (.ireturn, 1) ∧ decode cX7_ofCart 155 = .ok (.aload_n 0, 1) ∧ decode cX7_ofCart 156 = .ok (.iload_n 1, 1) ∧ decode cX7_ofCart 157 = .ok (.bipush 11, 2) ∧ decode cX7_ofCart 159 = .ok (.invokevirtual 66, 3) ∧ decode cX7_ofCart 162 = .ok (.ireturn, 1) ∧ decode cX7_ofCart 163 = .ok (.aload_n 0, 1) ∧ decode cX7_ofCart 164 = .ok (.iload_n 1, 1) ∧ decode cX7_ofCart 165 = .ok (.bipush 12, 2) ∧ decode cX7_ofCart 167 = .ok (.invokevirtual 66, 3) ∧ decode cX7_ofCart 170 = .ok (.ireturn, 1) ∧ decode cX7_ofCart 171 = .ok (.aload_n 0, 1) ∧ decode cX7_ofCart 172 = .ok (.iload_n 1, 1) ∧ decode cX7_ofCart 173 = .ok (.bipush 13, 2) := by decide +kernel
theorem dX7_ofCart_149 : decode cX7_ofCart 149 = .ok (.bipush 10, 2) := bdX7_ofCart_149.1
theorem dX7_ofCart_151 : decode cX7_ofCart 151 = .ok (.invokevirtual 66, 3) := bdX7_ofCart_149.2.1
theorem dX7_ofCart_154 : decode cX7_ofCart 154 = .ok (.ireturn, 1) := bdX7_ofCart_149.2.2.1
theorem dX7_ofCart_155 : decode cX7_ofCart 155 = .ok (.aload_n 0, 1) := bdX7_ofCart_149.2.2.2.1
theorem dX7_ofCart_156 : decode cX7_ofCart 156 = .ok (.iload_n 1, 1) := bdX7_ofCart_149.2.2.2.2.1
theorem dX7_ofCart_157 : decode cX7_ofCart 157 = .ok (.bipush 11, 2) := bdX7_ofCart_149.2.2.2.2.2.1
theorem dX7_ofCart_159 : decode cX7_ofCart 159 = .ok (.invokevirtual 66, 3) := bdX7_ofCart_149.2.2.2.2.2.2.1
theorem dX7_ofCart_162 : decode cX7_ofCart 162 = .ok (.ireturn, 1) := bdX7_ofCart_149.2.2.2.2.2.2.2.1
theorem dX7_ofCart_163 : decode cX7_ofCart 163 = .ok (.aload_n 0, 1) := bdX7_ofCart_149.2.2.2.2.2.2.2.2.1
theorem dX7_ofCart_164 : decode cX7_ofCart 164 = .ok (.iload_n 1, 1) := bdX7_ofCart_149.2.2.2.2.2.2.2.2.2.1
theorem dX7_ofCart_165 : decode cX7_ofCart 165 = .ok (.bipush 12, 2) := bdX7_ofCart_149.2.2.2.2.2.2.2.2.2.2.1
theorem dX7_ofCart_167 : decode cX7_ofCart 167 = .ok (.invokevirtual 66, 3) := bdX7_ofCart_149.2.2.2.2.2.2.2.2.2.2.2.1
theorem dX7_ofCart_170 : decode cX7_ofCart 170 = .ok (.ireturn, 1) := bdX7_ofCart_149.2.2.2.2.2.2.2.2.2.2.2.2.1
theorem dX7_ofCart_171 : decode cX7_ofCart 171 = .ok (.aload_n 0, 1) := bdX7_ofCart_149.2.2.2.2.2.2.2.2.2.2.2.2.2.1
theorem dX7_ofCart_172 : decode cX7_ofCart 172 = .ok (.iload_n 1, 1) := bdX7_ofCart_149.2.2.2.2.2.2.2.2.2.2.2.2.2.2.1
theorem dX7_ofCart_173 : decode cX7_ofCart 173 = .ok (.bipush 13, 2) := bdX7_ofCart_149.2.2.2.2.2.2.2.2.2.2.2.2.2.2.2
theorem bdX7_ofCart_175 : decode cX7_ofCart 175 = .ok (.invokevirtual 66, 3) ∧ decode cX7_ofCart 178 = .ok (.ireturn, 1) ∧ decode cX7_ofCart 179 = .ok (.aload_n 0, 1) ∧ decode cX7_ofCart 180 = .ok (.iload_n 1, 1) ∧ decode cX7_ofCart 181 = .ok (.bipush 14, 2) ∧ decode cX7_ofCart 183 = .ok (.invokevirtual 66, 3) ∧ decode cX7_ofCart 186 = .ok (.ireturn, 1) ∧ decode cX7_ofCart 187 = .ok (.bipush (-2), 2) ∧ decode cX7_ofCart 189 = .ok (.ireturn, 1) := by decide +kernel
theorem dX7_ofCart_175 : decode cX7_ofCart 175 = .ok (.invokevirtual 66, 3) := bdX7_ofCart_175.1
theorem dX7_ofCart_178 : decode cX7_ofCart 178 = .ok (.ireturn, 1) := bdX7_ofCart_175.2.1
theorem dX7_ofCart_179 : decode cX7_ofCart 179 = .ok (.aload_n 0, 1) := bdX7_ofCart_175.2.2.1
theorem dX7_ofCart_180 : decode cX7_ofCart 180 = .ok (.iload_n 1, 1) := bdX7_ofCart_175.2.2.2.1
theorem dX7_ofCart_181 : decode cX7_ofCart 181 = .ok (.bipush 14, 2) := bdX7_ofCart_175.2.2.2.2.1
theorem dX7_ofCart_183 : decode cX7_ofCart 183 = .ok (.invokevirtual 66, 3) := bdX7_ofCart_175.2.2.2.2.2.1
theorem dX7_ofCart_186 : decode cX7_ofCart 186 = .ok (.ireturn, 1) := bdX7_ofCart_175.2.2.2.2.2.2.1
theorem dX7_ofCart_187 : decode cX7_ofCart 187 = .ok (.bipush (-2), 2) := bdX7_ofCart_175.2.2.2.2.2.2.2.1
theorem dX7_ofCart_189 : decode cX7_ofCart 189 = .ok (.ireturn, 1) := bdX7_ofCart_175.2.2.2.2.2.2.2.2
theorem bdX7_money_0 : decode cX7_money 0 = .ok (.aload_n 0, 1) ∧ decode cX7_money 1 = .ok (.iload_n 1, 1) ∧ decode cX7_money 2 = .ok (.invokevirtual 72, 3) ∧ decode cX7_money 5 = .ok (.ifCond .ne 7, 3) ∧ decode cX7_money 8 = .ok (.ldc2_w 175, 3) ∧ decode cX7_money 11 = .ok (.lreturn, 1) ∧ decode cX7_money 12 = .ok (.iload_n 2, 1) ∧ decode cX7_money 13 = .ok (.ifCond .ne 12, 3) ∧ decode cX7_money 16 = .ok (.aload_n 0, 1) ∧ decode cX7_money 17 = .ok (.iload_n 1, 1) ∧ decode cX7_money 18 = .ok (.invokevirtual 106, 3) ∧ decode cX7_money 21 = .ok (.i2l, 1) ∧ decode cX7_money 22 = .ok (.goto 30, 3) ∧ decode cX7_money 25 = .ok (.iload_n 2, 1) ∧ decode cX7_money 26 = .ok (.iconst 1, 1) ∧ decode cX7_money 27 = .ok (.iconst 4, 1) := by decide +kernel
theorem dX7_money_0 : decode cX7_money 0 = .ok (.aload_n 0, 1) := bdX7_money_0.1
theorem dX7_money_1 : decode cX7_money 1 = .ok (.iload_n 1, 1) := bdX7_money_0.2.1
theorem dX7_money_2 : decode cX7_money 2 = .ok (.invokevirtual 72, 3) := bdX7_money_0.2.2.1
theorem dX7_money_5 : decode cX7_money 5 = .ok (.ifCond .ne 7, 3) := bdX7_money_0.2.2.2.1
theorem dX7_money_8 : decode cX7_money 8 = .ok (.ldc2_w 175, 3) := bdX7_money_0.2.2.2.2.1
theorem dX7_money_11 : decode cX7_money 11 = .ok (.lreturn, 1) := bdX7_money_0.2.2.2.2.2.1
theorem dX7_money_12 : decode cX7_money 12 = .ok (.iload_n 2, 1) := bdX7_money_0.2.2.2.2.2.2.1
theorem dX7_money_13 : decode cX7_money 13 = .ok (.ifCond .ne 12, 3) := bdX7_money_0.2.2.2.2.2.2.2.1
theorem dX7_money_16 : decode cX7_money 16 = .ok (.aload_n 0, 1) := bdX7_money_0.2.2.2.2.2.2.2.2.1
theorem dX7_money_17 : decode cX7_money 17 = .ok (.iload_n 1, 1) := bdX7_money_0.2.2.2.2.2.2.2.2.2.1
theorem dX7_money_18 : decode cX7_money 18 = .ok (.invokevirtual 106, 3) := bdX7_money_0.2.2.2.2.2.2.2.2.2.2.1
theorem dX7_money_21 : decode cX7_money 21 = .ok (.i2l, 1) := bdX7_money_0.2.2.2.2.2.2.2.2.2.2.2.1
theorem dX7_money_22 : decode cX7_money 22 = .ok (.goto 30, 3) := bdX7_money_0.2.2.2.2.2.2.2.2.2.2.2.2.1
theorem dX7_money_25 : decode cX7_money 25 = .ok (.iload_n 2, 1) := bdX7_money_0.2.2.2.2.2.2.2.2.2.2.2.2.2.1
theorem dX7_money_26 : decode cX7_money 26 = .ok (.iconst 1, 1) := bdX7_money_0.2.2.2.2.2.2.2.2.2.2.2.2.2.2.1
theorem dX7_money_27 : decode cX7_money 27 = .ok (.iconst 4, 1) := bdX7_money_0.2.2.2.2.2.2.2.2.2.2.2.2.2.2.2
theorem bdX7_money_28 : decode cX7_money 28 = .ok (.invokestatic 35, 3) ∧ decode cX7_money 31 = .ok (.ifCond .eq 18, 3) ∧ decode cX7_money 34 = .ok (.aload_n 0, 1) ∧ decode cX7_money 35 = .ok (.iload_n 1, 1) ∧ decode cX7_money 36 = .ok (.bipush 15, 2) ∧ decode cX7_money 38 = .ok (.iload_n 2, 1) ∧ decode cX7_money 39 = .ok (.iadd, 1) ∧ decode cX7_money 40 = .ok (.iconst 1, 1) ∧ decode cX7_money 41 = .ok (.isub, 1) ∧ decode cX7_money 42 = .ok (.invokevirtual 66, 3) ∧ decode cX7_money 45 = .ok (.i2l, 1) ∧ decode cX7_money 46 = .ok (.goto 6, 3) ∧ decode cX7_money 49 = .ok (.ldc2_w 177, 3) ∧ decode cX7_money 52 = .ok (.lreturn, 1) := by decide +kernel
theorem dX7_money_28 : decode cX7_money 28 = .ok (.invokestatic 35, 3) := bdX7_money_28.1
theorem dX7_money_31 : decode cX7_money 31 = .ok (.ifCond .eq 18, 3) := bdX7_money_28.2.1
theorem dX7_money_34 : decode cX7_money 34 = .ok (.aload_n 0, 1) := bdX7_money_28.2.2.1
theorem dX7_money_35 : decode cX7_money 35 = .ok (.iload_n 1, 1) := bdX7_money_28.2.2.2.1
theorem dX7_money_36 : decode cX7_money 36 = .ok (.bipush 15, 2) := bdX7_money_28.2.2.2.2.1
theorem dX7_money_38 : decode cX7_money 38 = .ok (.iload_n 2, 1) := bdX7_money_28.2.2.2.2.2.1
theorem dX7_money_39 : decode cX7_money 39 = .ok (.iadd, 1) := bdX7_money_28.2.2.2.2.2.2.1
theorem dX7_money_40 : decode cX7_money 40 = .ok (.iconst 1, 1) := bdX7_money_28.2.2.2.2.2.2.2.1
theorem dX7_money_41 : decode cX7_money 41 = .ok (.isub, 1) := bdX7_money_28.2.2.2.2.2.2.2.2.1
theorem dX7_money_42 : decode cX7_money 42 = .ok (.invokevirtual 66, 3) := bdX7_money_28.2.2.2.2.2.2.2.2.2.1
theorem dX7_money_45 : decode cX7_money 45 = .ok (.i2l, 1) := bdX7_money_28.2.2.2.2.2.2.2.2.2.2.1
theorem dX7_money_46 : decode cX7_money 46 = .ok (.goto 6, 3) := bdX7_money_28.2.2.2.2.2.2.2.2.2.2.2.1
theorem dX7_money_49 : decode cX7_money 49 = .ok (.ldc2_w 177, 3) := bdX7_money_28.2.2.2.2.2.2.2.2.2.2.2.2.1
theorem dX7_money_52 : decode cX7_money 52 = .ok (.lreturn, 1) := bdX7_money_28.2.2.2.2.2.2.2.2.2.2.2.2.2
theorem bdX7_ofPitch_0 : decode cX7_ofPitch 0 = .ok (.aload_n 0, 1) ∧ decode cX7_ofPitch 1 = .ok (.iload_n 1, 1) ∧ decode cX7_ofPitch 2 = .ok (.invokevirtual 54, 3) ∧ decode cX7_ofPitch 5 = .ok (.ifCond .ne 5, 3) ∧ decode cX7_ofPitch 8 = .ok (.iconst (-1), 1) ∧ decode cX7_ofPitch 9 = .ok (.ireturn, 1) ∧ decode cX7_ofPitch 10 = .ok (.iload_n 2, 1) ∧ decode cX7_ofPitch 11 = .ok (.iconst 0, 1) ∧ decode cX7_ofPitch 12 = .ok (.iconst 3, 1) ∧ decode cX7_ofPitch 13 = .ok (.invokestatic 35, 3) ∧ decode cX7_ofPitch 16 = .ok (.ifCond .eq 12, 3) ∧ decode cX7_ofPitch 19 = .ok (.aload_n 0, 1) ∧ decode cX7_ofPitch 20 = .ok (.iload_n 1, 1) ∧ decode cX7_ofPitch 21 = .ok (.iload_n 2, 1) ∧ decode cX7_ofPitch 22 = .ok (.invokevirtual 58, 3) ∧ decode cX7_ofPitch 25 = .ok (.goto 5, 3) := by decide +kernel
theorem dX7_ofPitch_0 : decode cX7_ofPitch 0 = .ok (.aload_n 0, 1) := bdX7_ofPitch_0.1
theorem dX7_ofPitch_1 : decode cX7_ofPitch 1 = .ok (.iload_n 1, 1) := bdX7_ofPitch_0.2.1
theorem dX7_ofPitch_2 : decode cX7_ofPitch 2 = .ok (.invokevirtual 54, 3) := bdX7_ofPitch_0.2.2.1
theorem dX7_ofPitch_5 : decode cX7_ofPitch 5 = .ok (.ifCond .ne 5, 3) := bdX7_ofPitch_0.2.2.2.1
theorem dX7_ofPitch_8 : decode cX7_ofPitch 8 = .ok (.iconst (-1), 1) := bdX7_ofPitch_0.2.2.2.2.1
theorem dX7_ofPitch_9 : decode cX7_ofPitch 9 = .ok (.ireturn, 1) := bdX7_ofPitch_0.2.2.2.2.2.1
theorem dX7_ofPitch_10 : decode cX7_ofPitch 10 = .ok (.iload_n 2, 1) := bdX7_ofPitch_0.2.2.2.2.2.2.1
theorem dX7_ofPitch_11 : decode cX7_ofPitch 11 = .ok (.iconst 0, 1) := bdX7_ofPitch_0.2.2.2.2.2.2.2.1
theorem dX7_ofPitch_12 : decode cX7_ofPitch 12 = .ok (.iconst 3, 1) := bdX7_ofPitch_0.2.2.2.2.2.2.2.2.1
theorem dX7_ofPitch_13 : decode cX7_ofPitch 13 = .ok (.invokestatic 35, 3) := bdX7_ofPitch_0.2.2.2.2.2.2.2.2.2.1
theorem dX7_ofPitch_16 : decode cX7_ofPitch 16 = .ok (.ifCond .eq 12, 3) := bdX7_ofPitch_0.2.2.2.2.2.2.2.2.2.2.1
theorem dX7_ofPitch_19 : decode cX7_ofPitch 19 = .ok (.aload_n 0, 1) := bdX7_ofPitch_0.2.2.2.2.2.2.2.2.2.2.2.1
theorem dX7_ofPitch_20 : decode cX7_ofPitch 20 = .ok (.iload_n 1, 1) := bdX7_ofPitch_0.2.2.2.2.2.2.2.2.2.2.2.2.1
theorem dX7_ofPitch_21 : decode cX7_ofPitch 21 = .ok (.iload_n 2, 1) := bdX7_ofPitch_0.2.2.2.2.2.2.2.2.2.2.2.2.2.1
theorem dX7_ofPitch_22 : decode cX7_ofPitch 22 = .ok (.invokevirtual 58, 3) := bdX7_ofPitch_0.2.2.2.2.2.2.2.2.2.2.2.2.2.2.1
theorem dX7_ofPitch_25 : decode cX7_ofPitch 25 = .ok (.goto 5, 3) := bdX7_ofPitch_0.2.2.2.2.2.2.2.2.2.2.2.2.2.2.2
theorem bdX7_ofPitch_28 : decode cX7_ofPitch 28 = .ok (.bipush (-2), 2) ∧ decode cX7_ofPitch 30 = .ok (.ireturn, 1) := by decide +kernel
theorem dX7_ofPitch_28 : decode cX7_ofPitch 28 = .ok (.bipush (-2), 2) := bdX7_ofPitch_28.1
theorem dX7_ofPitch_30 : decode cX7_ofPitch 30 = .ok (.ireturn, 1) := bdX7_ofPitch_28.2
theorem bdX7_atPitches_0 : decode cX7_atPitches 0 = .ok (.iconst 0, 1) ∧ decode cX7_atPitches 1 = .ok (.istore_n 1, 1) ∧ decode cX7_atPitches 2 = .ok (.iconst 0, 1) ∧ decode cX7_atPitches 3 = .ok (.istore_n 2, 1) ∧ decode cX7_atPitches 4 = .ok (.iload_n 2, 1) ∧ decode cX7_atPitches 5 = .ok (.aload_n 0, 1) ∧ decode cX7_atPitches 6 = .ok (.getfield 7, 3) ∧ decode cX7_atPitches 9 = .ok (.bipush 13, 2) ∧ decode cX7_atPitches 11 = .ok (.iaload, 1) ∧ decode cX7_atPitches 12 = .ok (.if_icmp .ge 27, 3) ∧ decode cX7_atPitches 15 = .ok (.iload_n 1, 1) ∧ decode cX7_atPitches 16 = .ok (.aload_n 0, 1) ∧ decode cX7_atPitches 17 = .ok (.iload_n 2, 1) ∧ decode cX7_atPitches 18 = .ok (.bipush 11, 2) ∧ decode cX7_atPitches 20 = .ok (.invokevirtual 66, 3) ∧ decode cX7_atPitches 23 = .ok (.ifCond .lt 7, 3) := by decide +kernel
theorem dX7_atPitches_0 : decode cX7_atPitches 0 = .ok (.iconst 0, 1) := bdX7_atPitches_0.1
theorem dX7_atPitches_1 : decode cX7_atPitches 1 = .ok (.istore_n 1, 1) := bdX7_atPitches_0.2.1
theorem dX7_atPitches_2 : decode cX7_atPitches 2 = .ok (.iconst 0, 1) := bdX7_atPitches_0.2.2.1
theorem dX7_atPitches_3 : decode cX7_atPitches 3 = .ok (.istore_n 2, 1) := bdX7_atPitches_0.2.2.2.1
theorem dX7_atPitches_4 : decode cX7_atPitches 4 = .ok (.iload_n 2, 1) := bdX7_atPitches_0.2.2.2.2.1
theorem dX7_atPitches_5 : decode cX7_atPitches 5 = .ok (.aload_n 0, 1) := bdX7_atPitches_0.2.2.2.2.2.1
theorem dX7_atPitches_6 : decode cX7_atPitches 6 = .ok (.getfield 7, 3) := bdX7_atPitches_0.2.2.2.2.2.2.1
theorem dX7_atPitches_9 : decode cX7_atPitches 9 = .ok (.bipush 13, 2) := bdX7_atPitches_0.2.2.2.2.2.2.2.1
theorem dX7_atPitches_11 : decode cX7_atPitches 11 = .ok (.iaload, 1) := bdX7_atPitches_0.2.2.2.2.2.2.2.2.1
theorem dX7_atPitches_12 : decode cX7_atPitches 12 = .ok (.if_icmp .ge 27, 3) := bdX7_atPitches_0.2.2.2.2.2.2.2.2.2.1
theorem dX7_atPitches_15 : decode cX7_atPitches 15 = .ok (.iload_n 1, 1) := bdX7_atPitches_0.2.2.2.2.2.2.2.2.2.2.1
theorem dX7_atPitches_16 : decode cX7_atPitches 16 = .ok (.aload_n 0, 1) := bdX7_atPitches_0.2.2.2.2.2.2.2.2.2.2.2.1
theorem dX7_atPitches_17 : decode cX7_atPitches 17 = .ok (.iload_n 2, 1) := bdX7_atPitches_0.2.2.2.2.2.2.2.2.2.2.2.2.1
theorem dX7_atPitches_18 : decode cX7_atPitches 18 = .ok (.bipush 11, 2) := bdX7_atPitches_0.2.2.2.2.2.2.2.2.2.2.2.2.2.1
theorem dX7_atPitches_20 : decode cX7_atPitches 20 = .ok (.invokevirtual 66, 3) := bdX7_atPitches_0.2.2.2.2.2.2.2.2.2.2.2.2.2.2.1
theorem dX7_atPitches_23 : decode cX7_atPitches 23 = .ok (.ifCond .lt 7, 3) := bdX7_atPitches_0.2.2.2.2.2.2.2.2.2.2.2.2.2.2.2
theorem bdX7_atPitches_26 : decode cX7_atPitches 26 = .ok (.iconst 1, 1) ∧ decode cX7_atPitches 27 = .ok (.goto 4, 3) ∧ decode cX7_atPitches 30 = .ok (.iconst 0, 1) ∧ decode cX7_atPitches 31 = .ok (.iadd, 1) ∧ decode cX7_atPitches 32 = .ok (.istore_n 1, 1) ∧ decode cX7_atPitches 33 = .ok (.iinc 2 1, 3) ∧ decode cX7_atPitches 36 = .ok (.goto (-32), 3) ∧ decode cX7_atPitches 39 = .ok (.iload_n 1, 1) ∧ decode cX7_atPitches 40 = .ok (.ireturn, 1) := by decide +kernel
theorem dX7_atPitches_26 : decode cX7_atPitches 26 = .ok (.iconst 1, 1) := bdX7_atPitches_26.1
theorem dX7_atPitches_27 : decode cX7_atPitches 27 = .ok (.goto 4, 3) := bdX7_atPitches_26.2.1
theorem dX7_atPitches_30 : decode cX7_atPitches 30 = .ok (.iconst 0, 1) := bdX7_atPitches_26.2.2.1
theorem dX7_atPitches_31 : decode cX7_atPitches 31 = .ok (.iadd, 1) := bdX7_atPitches_26.2.2.2.1
theorem dX7_atPitches_32 : decode cX7_atPitches 32 = .ok (.istore_n 1, 1) := bdX7_atPitches_26.2.2.2.2.1
theorem dX7_atPitches_33 : decode cX7_atPitches 33 = .ok (.iinc 2 1, 3) := bdX7_atPitches_26.2.2.2.2.2.1
theorem dX7_atPitches_36 : decode cX7_atPitches 36 = .ok (.goto (-32), 3) := bdX7_atPitches_26.2.2.2.2.2.2.1
theorem dX7_atPitches_39 : decode cX7_atPitches 39 = .ok (.iload_n 1, 1) := bdX7_atPitches_26.2.2.2.2.2.2.2.1
theorem dX7_atPitches_40 : decode cX7_atPitches 40 = .ok (.ireturn, 1) := bdX7_atPitches_26.2.2.2.2.2.2.2.2
theorem bdX7_count_0 : decode cX7_count 0 = .ok (.iload_n 1, 1) ∧ decode cX7_count 1 = .ok (.bipush 8, 2) ∧ decode cX7_count 3 = .ok (.bipush 17, 2) ∧ decode cX7_count 5 = .ok (.invokestatic 35, 3) ∧ decode cX7_count 8 = .ok (.ifCond .eq 13, 3) ∧ decode cX7_count 11 = .ok (.aload_n 0, 1) ∧ decode cX7_count 12 = .ok (.getfield 7, 3) ∧ decode cX7_count 15 = .ok (.iload_n 1, 1) ∧ decode cX7_count 16 = .ok (.bipush 8, 2) ∧ decode cX7_count 18 = .ok (.isub, 1) ∧ decode cX7_count 19 = .ok (.iaload, 1) ∧ decode cX7_count 20 = .ok (.ireturn, 1) ∧ decode cX7_count 21 = .ok (.iload_n 1, 1) ∧ decode cX7_count 22 = .ok (.tableswitch 162 0 19 #[94, 102, 110, 118, 126, 131, 139, 144, 162, 162, 162, 162, 162, 162, 162, 162, 162, 162, 149, 154], 94) ∧ decode cX7_count 116 = .ok (.aload_n 0, 1) ∧ decode cX7_count 117 = .ok (.getfield 7, 3) := by decide +kernel
theorem dX7_count_0 : decode cX7_count 0 = .ok (.iload_n 1, 1) := bdX7_count_0.1
theorem dX7_count_1 : decode cX7_count 1 = .ok (.bipush 8, 2) := bdX7_count_0.2.1
theorem dX7_count_3 : decode cX7_count 3 = .ok (.bipush 17, 2) := bdX7_count_0.2.2.1
theorem dX7_count_5 : decode cX7_count 5 = .ok (.invokestatic 35, 3) := bdX7_count_0.2.2.2.1
theorem dX7_count_8 : decode cX7_count 8 = .ok (.ifCond .eq 13, 3) := bdX7_count_0.2.2.2.2.1
theorem dX7_count_11 : decode cX7_count 11 = .ok (.aload_n 0, 1) := bdX7_count_0.2.2.2.2.2.1
theorem dX7_count_12 : decode cX7_count 12 = .ok (.getfield 7, 3) := bdX7_count_0.2.2.2.2.2.2.1
theorem dX7_count_15 : decode cX7_count 15 = .ok (.iload_n 1, 1) := bdX7_count_0.2.2.2.2.2.2.2.1
theorem dX7_count_16 : decode cX7_count 16 = .ok (.bipush 8, 2) := bdX7_count_0.2.2.2.2.2.2.2.2.1
theorem dX7_count_18 : decode cX7_count 18 = .ok (.isub, 1) := bdX7_count_0.2.2.2.2.2.2.2.2.2.1
theorem dX7_count_19 : decode cX7_count 19 = .ok (.iaload, 1) := bdX7_count_0.2.2.2.2.2.2.2.2.2.2.1
theorem dX7_count_20 : decode cX7_count 20 = .ok (.ireturn, 1) := bdX7_count_0.2.2.2.2.2.2.2.2.2.2.2.1
theorem dX7_count_21 : decode cX7_count 21 = .ok (.iload_n 1, 1) := bdX7_count_0.2.2.2.2.2.2.2.2.2.2.2.2.1
theorem dX7_count_22 : decode cX7_count 22 = .ok (.tableswitch 162 0 19 #[94, 102, 110, 118, 126, 131, 139, 144, 162, 162, 162, 162, 162, 162, 162, 162, 162, 162, 149, 154], 94) := bdX7_count_0.2.2.2.2.2.2.2.2.2.2.2.2.2.1
theorem dX7_count_116 : decode cX7_count 116 = .ok (.aload_n 0, 1) := bdX7_count_0.2.2.2.2.2.2.2.2.2.2.2.2.2.2.1
theorem dX7_count_117 : decode cX7_count 117 = .ok (.getfield 7, 3) := bdX7_count_0.2.2.2.2.2.2.2.2.2.2.2.2.2.2.2
theorem bdX7_count_120 : decode cX7_count 120 = .ok (.bipush 10, 2) ∧ decode cX7_count 122 = .ok (.iaload, 1) ∧ decode cX7_count 123 = .ok (.ireturn, 1) ∧ decode cX7_count 124 = .ok (.aload_n 0, 1) ∧ decode cX7_count 125 = .ok (.getfield 7, 3) ∧ decode cX7_count 128 = .ok (.bipush 13, 2) ∧ decode cX7_count 130 = .ok (.iaload, 1) ∧ decode cX7_count 131 = .ok (.ireturn, 1) ∧ decode cX7_count 132 = .ok (.aload_n 0, 1) ∧ decode cX7_count 133 = .ok (.getfield 7, 3) ∧ decode cX7_count 136 = .ok (.bipush 12, 2) ∧ decode cX7_count 138 = .ok (.iaload, 1) ∧ decode cX7_count 139 = .ok (.ireturn, 1) ∧ decode cX7_count 140 = .ok (.aload_n 0, 1) ∧ decode cX7_count 141 = .ok (.getfield 7, 3) ∧ decode cX7_count 144 = .ok (.bipush 11, 2) := by decide +kernel
theorem dX7_count_120 : decode cX7_count 120 = .ok (.bipush 10, 2) := bdX7_count_120.1
theorem dX7_count_122 : decode cX7_count 122 = .ok (.iaload, 1) := bdX7_count_120.2.1
theorem dX7_count_123 : decode cX7_count 123 = .ok (.ireturn, 1) := bdX7_count_120.2.2.1
theorem dX7_count_124 : decode cX7_count 124 = .ok (.aload_n 0, 1) := bdX7_count_120.2.2.2.1
theorem dX7_count_125 : decode cX7_count 125 = .ok (.getfield 7, 3) := bdX7_count_120.2.2.2.2.1
theorem dX7_count_128 : decode cX7_count 128 = .ok (.bipush 13, 2) := bdX7_count_120.2.2.2.2.2.1
theorem dX7_count_130 : decode cX7_count 130 = .ok (.iaload, 1) := bdX7_count_120.2.2.2.2.2.2.1
theorem dX7_count_131 : decode cX7_count 131 = .ok (.ireturn, 1) := bdX7_count_120.2.2.2.2.2.2.2.1
theorem dX7_count_132 : decode cX7_count 132 = .ok (.aload_n 0, 1) := bdX7_count_120.2.2.2.2.2.2.2.2.1
theorem dX7_count_133 : decode cX7_count 133 = .ok (.getfield 7, 3) := bdX7_count_120.2.2.2.2.2.2.2.2.2.1
theorem dX7_count_136 : decode cX7_count 136 = .ok (.bipush 12, 2) := bdX7_count_120.2.2.2.2.2.2.2.2.2.2.1
theorem dX7_count_138 : decode cX7_count 138 = .ok (.iaload, 1) := bdX7_count_120.2.2.2.2.2.2.2.2.2.2.2.1
theorem dX7_count_139 : decode cX7_count 139 = .ok (.ireturn, 1) := bdX7_count_120.2.2.2.2.2.2.2.2.2.2.2.2.1
theorem dX7_count_140 : decode cX7_count 140 = .ok (.aload_n 0, 1) := bdX7_count_120.2.2.2.2.2.2.2.2.2.2.2.2.2.1
theorem dX7_count_141 : decode cX7_count 141 = .ok (.getfield 7, 3) := bdX7_count_120.2.2.2.2.2.2.2.2.2.2.2.2.2.2.1
theorem dX7_count_144 : decode cX7_count 144 = .ok (.bipush 11, 2) := bdX7_count_120.2.2.2.2.2.2.2.2.2.2.2.2.2.2.2
theorem bdX7_count_146 : decode cX7_count 146 = .ok (.iaload, 1) ∧ decode cX7_count 147 = .ok (.ireturn, 1) ∧ decode cX7_count 148 = .ok (.aload_n 0, 1) ∧ decode cX7_count 149 = .ok (.invokevirtual 94, 3) ∧ decode cX7_count 152 = .ok (.ireturn, 1) ∧ decode cX7_count 153 = .ok (.aload_n 0, 1) ∧ decode cX7_count 154 = .ok (.getfield 7, 3) ∧ decode cX7_count 157 = .ok (.bipush 14, 2) ∧ decode cX7_count 159 = .ok (.iaload, 1) ∧ decode cX7_count 160 = .ok (.ireturn, 1) ∧ decode cX7_count 161 = .ok (.aload_n 0, 1) ∧ decode cX7_count 162 = .ok (.getfield 179, 3) ∧ decode cX7_count 165 = .ok (.ireturn, 1) ∧ decode cX7_count 166 = .ok (.aload_n 0, 1) ∧ decode cX7_count 167 = .ok (.getfield 39, 3) ∧ decode cX7_count 170 = .ok (.ireturn, 1) := by decide +kernel
theorem dX7_count_146 : decode cX7_count 146 = .ok (.iaload, 1) := bdX7_count_146.1
theorem dX7_count_147 : decode cX7_count 147 = .ok (.ireturn, 1) := bdX7_count_146.2.1
theorem dX7_count_148 : decode cX7_count 148 = .ok (.aload_n 0, 1) := bdX7_count_146.2.2.1
theorem dX7_count_149 : decode cX7_count 149 = .ok (.invokevirtual 94, 3) := bdX7_count_146.2.2.2.1
theorem dX7_count_152 : decode cX7_count 152 = .ok (.ireturn, 1) := bdX7_count_146.2.2.2.2.1
theorem dX7_count_153 : decode cX7_count 153 = .ok (.aload_n 0, 1) := bdX7_count_146.2.2.2.2.2.1
theorem dX7_count_154 : decode cX7_count 154 = .ok (.getfield 7, 3) := bdX7_count_146.2.2.2.2.2.2.1
theorem dX7_count_157 : decode cX7_count 157 = .ok (.bipush 14, 2) := bdX7_count_146.2.2.2.2.2.2.2.1
theorem dX7_count_159 : decode cX7_count 159 = .ok (.iaload, 1) := bdX7_count_146.2.2.2.2.2.2.2.2.1
theorem dX7_count_160 : decode cX7_count 160 = .ok (.ireturn, 1) := bdX7_count_146.2.2.2.2.2.2.2.2.2.1
theorem dX7_count_161 : decode cX7_count 161 = .ok (.aload_n 0, 1) := bdX7_count_146.2.2.2.2.2.2.2.2.2.2.1
theorem dX7_count_162 : decode cX7_count 162 = .ok (.getfield 179, 3) := bdX7_count_146.2.2.2.2.2.2.2.2.2.2.2.1
theorem dX7_count_165 : decode cX7_count 165 = .ok (.ireturn, 1) := bdX7_count_146.2.2.2.2.2.2.2.2.2.2.2.2.1
theorem dX7_count_166 : decode cX7_count 166 = .ok (.aload_n 0, 1) := bdX7_count_146.2.2.2.2.2.2.2.2.2.2.2.2.2.1
theorem dX7_count_167 : decode cX7_count 167 = .ok (.getfield 39, 3) := bdX7_count_146.2.2.2.2.2.2.2.2.2.2.2.2.2.2.1
theorem dX7_count_170 : decode cX7_count 170 = .ok (.ireturn, 1) := bdX7_count_146.2.2.2.2.2.2.2.2.2.2.2.2.2.2.2
theorem bdX7_count_171 : decode cX7_count 171 = .ok (.aload_n 0, 1) ∧ decode cX7_count 172 = .ok (.invokevirtual 182, 3) ∧ decode cX7_count 175 = .ok (.ireturn, 1) ∧ decode cX7_count 176 = .ok (.aload_n 0, 1) ∧ decode cX7_count 177 = .ok (.getfield 7, 3) ∧ decode cX7_count 180 = .ok (.bipush 15, 2) ∧ decode cX7_count 182 = .ok (.iaload, 1) ∧ decode cX7_count 183 = .ok (.ireturn, 1) ∧ decode cX7_count 184 = .ok (.bipush (-2), 2) ∧ decode cX7_count 186 = .ok (.ireturn, 1) := by decide +kernel
theorem dX7_count_171 : decode cX7_count 171 = .ok (.aload_n 0, 1) := bdX7_count_171.1
theorem dX7_count_172 : decode cX7_count 172 = .ok (.invokevirtual 182, 3) := bdX7_count_171.2.1
theorem dX7_count_175 : decode cX7_count 175 = .ok (.ireturn, 1) := bdX7_count_171.2.2.1
theorem dX7_count_176 : decode cX7_count 176 = .ok (.aload_n 0, 1) := bdX7_count_171.2.2.2.1
theorem dX7_count_177 : decode cX7_count 177 = .ok (.getfield 7, 3) := bdX7_count_171.2.2.2.2.1
theorem dX7_count_180 : decode cX7_count 180 = .ok (.bipush 15, 2) := bdX7_count_171.2.2.2.2.2.1
theorem dX7_count_182 : decode cX7_count 182 = .ok (.iaload, 1) := bdX7_count_171.2.2.2.2.2.2.1
theorem dX7_count_183 : decode cX7_count 183 = .ok (.ireturn, 1) := bdX7_count_171.2.2.2.2.2.2.2.1
theorem dX7_count_184 : decode cX7_count 184 = .ok (.bipush (-2), 2) := bdX7_count_171.2.2.2.2.2.2.2.2.1
theorem dX7_count_186 : decode cX7_count 186 = .ok (.ireturn, 1) := bdX7_count_171.2.2.2.2.2.2.2.2.2
theorem bdX7_pointsOn_0 : decode cX7_pointsOn 0 = .ok (.aload_n 0, 1) ∧ decode cX7_pointsOn 1 = .ok (.iload_n 1, 1) ∧ decode cX7_pointsOn 2 = .ok (.invokevirtual 72, 3) ∧ decode cX7_pointsOn 5 = .ok (.ifCond .ne 5, 3) ∧ decode cX7_pointsOn 8 = .ok (.iconst (-1), 1) ∧ decode cX7_pointsOn 9 = .ok (.ireturn, 1) ∧ decode cX7_pointsOn 10 = .ok (.iload_n 2, 1) ∧ decode cX7_pointsOn 11 = .ok (.aload_n 0, 1) ∧ decode cX7_pointsOn 12 = .ok (.getfield 7, 3) ∧ decode cX7_pointsOn 15 = .ok (.bipush 10, 2) ∧ decode cX7_pointsOn 17 = .ok (.iaload, 1) ∧ decode cX7_pointsOn 18 = .ok (.aload_n 0, 1) ∧ decode cX7_pointsOn 19 = .ok (.getfield 7, 3) ∧ decode cX7_pointsOn 22 = .ok (.bipush 10, 2) ∧ decode cX7_pointsOn 24 = .ok (.iaload, 1) ∧ decode cX7_pointsOn 25 = .ok (.sipush 400, 3) := by decide +kernel
theorem dX7_pointsOn_0 : decode cX7_pointsOn 0 = .ok (.aload_n 0, 1) := bdX7_pointsOn_0.1
theorem dX7_pointsOn_1 : decode cX7_pointsOn 1 = .ok (.iload_n 1, 1) := bdX7_pointsOn_0.2.1
theorem dX7_pointsOn_2 : decode cX7_pointsOn 2 = .ok (.invokevirtual 72, 3) := bdX7_pointsOn_0.2.2.1
theorem dX7_pointsOn_5 : decode cX7_pointsOn 5 = .ok (.ifCond .ne 5, 3) := bdX7_pointsOn_0.2.2.2.1
theorem dX7_pointsOn_8 : decode cX7_pointsOn 8 = .ok (.iconst (-1), 1) := bdX7_pointsOn_0.2.2.2.2.1
theorem dX7_pointsOn_9 : decode cX7_pointsOn 9 = .ok (.ireturn, 1) := bdX7_pointsOn_0.2.2.2.2.2.1
theorem dX7_pointsOn_10 : decode cX7_pointsOn 10 = .ok (.iload_n 2, 1) := bdX7_pointsOn_0.2.2.2.2.2.2.1
theorem dX7_pointsOn_11 : decode cX7_pointsOn 11 = .ok (.aload_n 0, 1) := bdX7_pointsOn_0.2.2.2.2.2.2.2.1
theorem dX7_pointsOn_12 : decode cX7_pointsOn 12 = .ok (.getfield 7, 3) := bdX7_pointsOn_0.2.2.2.2.2.2.2.2.1
theorem dX7_pointsOn_15 : decode cX7_pointsOn 15 = .ok (.bipush 10, 2) := bdX7_pointsOn_0.2.2.2.2.2.2.2.2.2.1
theorem dX7_pointsOn_17 : decode cX7_pointsOn 17 = .ok (.iaload, 1) := bdX7_pointsOn_0.2.2.2.2.2.2.2.2.2.2.1
theorem dX7_pointsOn_18 : decode cX7_pointsOn 18 = .ok (.aload_n 0, 1) := bdX7_pointsOn_0.2.2.2.2.2.2.2.2.2.2.2.1
theorem dX7_pointsOn_19 : decode cX7_pointsOn 19 = .ok (.getfield 7, 3) := bdX7_pointsOn_0.2.2.2.2.2.2.2.2.2.2.2.2.1
theorem dX7_pointsOn_22 : decode cX7_pointsOn 22 = .ok (.bipush 10, 2) := bdX7_pointsOn_0.2.2.2.2.2.2.2.2.2.2.2.2.2.1
theorem dX7_pointsOn_24 : decode cX7_pointsOn 24 = .ok (.iaload, 1) := bdX7_pointsOn_0.2.2.2.2.2.2.2.2.2.2.2.2.2.2.1
theorem dX7_pointsOn_25 : decode cX7_pointsOn 25 = .ok (.sipush 400, 3) := bdX7_pointsOn_0.2.2.2.2.2.2.2.2.2.2.2.2.2.2.2
theorem bdX7_pointsOn_28 : decode cX7_pointsOn 28 = .ok (.iadd, 1) ∧ decode cX7_pointsOn 29 = .ok (.invokestatic 35, 3) ∧ decode cX7_pointsOn 32 = .ok (.ifCond .eq 12, 3) ∧ decode cX7_pointsOn 35 = .ok (.aload_n 0, 1) ∧ decode cX7_pointsOn 36 = .ok (.iload_n 1, 1) ∧ decode cX7_pointsOn 37 = .ok (.iload_n 2, 1) ∧ decode cX7_pointsOn 38 = .ok (.invokevirtual 69, 3) ∧ decode cX7_pointsOn 41 = .ok (.goto 5, 3) ∧ decode cX7_pointsOn 44 = .ok (.bipush (-2), 2) ∧ decode cX7_pointsOn 46 = .ok (.ireturn, 1) := by decide +kernel
theorem dX7_pointsOn_28 : decode cX7_pointsOn 28 = .ok (.iadd, 1) := bdX7_pointsOn_28.1
theorem dX7_pointsOn_29 : decode cX7_pointsOn 29 = .ok (.invokestatic 35, 3) := bdX7_pointsOn_28.2.1
theorem dX7_pointsOn_32 : decode cX7_pointsOn 32 = .ok (.ifCond .eq 12, 3) := bdX7_pointsOn_28.2.2.1
theorem dX7_pointsOn_35 : decode cX7_pointsOn 35 = .ok (.aload_n 0, 1) := bdX7_pointsOn_28.2.2.2.1
theorem dX7_pointsOn_36 : decode cX7_pointsOn 36 = .ok (.iload_n 1, 1) := bdX7_pointsOn_28.2.2.2.2.1
theorem dX7_pointsOn_37 : decode cX7_pointsOn 37 = .ok (.iload_n 2, 1) := bdX7_pointsOn_28.2.2.2.2.2.1
theorem dX7_pointsOn_38 : decode cX7_pointsOn 38 = .ok (.invokevirtual 69, 3) := bdX7_pointsOn_28.2.2.2.2.2.2.1
theorem dX7_pointsOn_41 : decode cX7_pointsOn 41 = .ok (.goto 5, 3) := bdX7_pointsOn_28.2.2.2.2.2.2.2.1
theorem dX7_pointsOn_44 : decode cX7_pointsOn 44 = .ok (.bipush (-2), 2) := bdX7_pointsOn_28.2.2.2.2.2.2.2.2.1
theorem dX7_pointsOn_46 : decode cX7_pointsOn 46 = .ok (.ireturn, 1) := bdX7_pointsOn_28.2.2.2.2.2.2.2.2.2
theorem bdX7_wouldHave_0 : decode cX7_wouldHave 0 = .ok (.aload_n 0, 1) ∧ decode cX7_wouldHave 1 = .ok (.iload_n 1, 1) ∧ decode cX7_wouldHave 2 = .ok (.invokevirtual 72, 3) ∧ decode cX7_wouldHave 5 = .ok (.ifCond .ne 5, 3) ∧ decode cX7_wouldHave 8 = .ok (.iconst (-1), 1) ∧ decode cX7_wouldHave 9 = .ok (.ireturn, 1) ∧ decode cX7_wouldHave 10 = .ok (.aload_n 0, 1) ∧ decode cX7_wouldHave 11 = .ok (.invokevirtual 185, 3) ∧ decode cX7_wouldHave 14 = .ok (.aload_n 0, 1) ∧ decode cX7_wouldHave 15 = .ok (.invokevirtual 169, 3) ∧ decode cX7_wouldHave 18 = .ok (.aload_n 0, 1) ∧ decode cX7_wouldHave 19 = .ok (.iload_n 1, 1) ∧ decode cX7_wouldHave 20 = .ok (.bipush 11, 2) ∧ decode cX7_wouldHave 22 = .ok (.invokevirtual 66, 3) ∧ decode cX7_wouldHave 25 = .ok (.istore_n 2, 1) ∧ decode cX7_wouldHave 26 = .ok (.aload_n 0, 1) := by decide +kernel
theorem dX7_wouldHave_0 : decode cX7_wouldHave 0 = .ok (.aload_n 0, 1) := bdX7_wouldHave_0.1
theorem dX7_wouldHave_1 : decode cX7_wouldHave 1 = .ok (.iload_n 1, 1) := bdX7_wouldHave_0.2.1
theorem dX7_wouldHave_2 : decode cX7_wouldHave 2 = .ok (.invokevirtual 72, 3) := bdX7_wouldHave_0.2.2.1
theorem dX7_wouldHave_5 : decode cX7_wouldHave 5 = .ok (.ifCond .ne 5, 3) := bdX7_wouldHave_0.2.2.2.1
theorem dX7_wouldHave_8 : decode cX7_wouldHave 8 = .ok (.iconst (-1), 1) := bdX7_wouldHave_0.2.2.2.2.1
theorem dX7_wouldHave_9 : decode cX7_wouldHave 9 = .ok (.ireturn, 1) := bdX7_wouldHave_0.2.2.2.2.2.1
theorem dX7_wouldHave_10 : decode cX7_wouldHave 10 = .ok (.aload_n 0, 1) := bdX7_wouldHave_0.2.2.2.2.2.2.1
theorem dX7_wouldHave_11 : decode cX7_wouldHave 11 = .ok (.invokevirtual 185, 3) := bdX7_wouldHave_0.2.2.2.2.2.2.2.1
theorem dX7_wouldHave_14 : decode cX7_wouldHave 14 = .ok (.aload_n 0, 1) := bdX7_wouldHave_0.2.2.2.2.2.2.2.2.1
theorem dX7_wouldHave_15 : decode cX7_wouldHave 15 = .ok (.invokevirtual 169, 3) := bdX7_wouldHave_0.2.2.2.2.2.2.2.2.2.1
theorem dX7_wouldHave_18 : decode cX7_wouldHave 18 = .ok (.aload_n 0, 1) := bdX7_wouldHave_0.2.2.2.2.2.2.2.2.2.2.1
theorem dX7_wouldHave_19 : decode cX7_wouldHave 19 = .ok (.iload_n 1, 1) := bdX7_wouldHave_0.2.2.2.2.2.2.2.2.2.2.2.1
theorem dX7_wouldHave_20 : decode cX7_wouldHave 20 = .ok (.bipush 11, 2) := bdX7_wouldHave_0.2.2.2.2.2.2.2.2.2.2.2.2.1
theorem dX7_wouldHave_22 : decode cX7_wouldHave 22 = .ok (.invokevirtual 66, 3) := bdX7_wouldHave_0.2.2.2.2.2.2.2.2.2.2.2.2.2.1
theorem dX7_wouldHave_25 : decode cX7_wouldHave 25 = .ok (.istore_n 2, 1) := bdX7_wouldHave_0.2.2.2.2.2.2.2.2.2.2.2.2.2.2.1
theorem dX7_wouldHave_26 : decode cX7_wouldHave 26 = .ok (.aload_n 0, 1) := bdX7_wouldHave_0.2.2.2.2.2.2.2.2.2.2.2.2.2.2.2
theorem bdX7_wouldHave_27 : decode cX7_wouldHave 27 = .ok (.invokevirtual 188, 3) ∧ decode cX7_wouldHave 30 = .ok (.iload_n 2, 1) ∧ decode cX7_wouldHave 31 = .ok (.ireturn, 1) := by decide +kernel
theorem dX7_wouldHave_27 : decode cX7_wouldHave 27 = .ok (.invokevirtual 188, 3) := bdX7_wouldHave_27.1
theorem dX7_wouldHave_30 : decode cX7_wouldHave 30 = .ok (.iload_n 2, 1) := bdX7_wouldHave_27.2.1
theorem dX7_wouldHave_31 : decode cX7_wouldHave 31 = .ok (.ireturn, 1) := bdX7_wouldHave_27.2.2
theorem bdX7_ifWished_0 : decode cX7_ifWished 0 = .ok (.aload_n 0, 1) ∧ decode cX7_ifWished 1 = .ok (.iload_n 1, 1) ∧ decode cX7_ifWished 2 = .ok (.invokevirtual 72, 3) ∧ decode cX7_ifWished 5 = .ok (.ifCond .eq 11, 3) ∧ decode cX7_ifWished 8 = .ok (.aload_n 0, 1) ∧ decode cX7_ifWished 9 = .ok (.iload_n 2, 1) ∧ decode cX7_ifWished 10 = .ok (.invokevirtual 54, 3) ∧ decode cX7_ifWished 13 = .ok (.ifCond .ne 5, 3) ∧ decode cX7_ifWished 16 = .ok (.iconst (-1), 1) ∧ decode cX7_ifWished 17 = .ok (.ireturn, 1) ∧ decode cX7_ifWished 18 = .ok (.aload_n 0, 1) ∧ decode cX7_ifWished 19 = .ok (.invokevirtual 185, 3) ∧ decode cX7_ifWished 22 = .ok (.aload_n 0, 1) ∧ decode cX7_ifWished 23 = .ok (.iload_n 1, 1) ∧ decode cX7_ifWished 24 = .ok (.iconst 2, 1) ∧ decode cX7_ifWished 25 = .ok (.iconst 1, 1) := by decide +kernel
theorem dX7_ifWished_0 : decode cX7_ifWished 0 = .ok (.aload_n 0, 1) := bdX7_ifWished_0.1
theorem dX7_ifWished_1 : decode cX7_ifWished 1 = .ok (.iload_n 1, 1) := bdX7_ifWished_0.2.1
theorem dX7_ifWished_2 : decode cX7_ifWished 2 = .ok (.invokevirtual 72, 3) := bdX7_ifWished_0.2.2.1
theorem dX7_ifWished_5 : decode cX7_ifWished 5 = .ok (.ifCond .eq 11, 3) := bdX7_ifWished_0.2.2.2.1
theorem dX7_ifWished_8 : decode cX7_ifWished 8 = .ok (.aload_n 0, 1) := bdX7_ifWished_0.2.2.2.2.1
theorem dX7_ifWished_9 : decode cX7_ifWished 9 = .ok (.iload_n 2, 1) := bdX7_ifWished_0.2.2.2.2.2.1
theorem dX7_ifWished_10 : decode cX7_ifWished 10 = .ok (.invokevirtual 54, 3) := bdX7_ifWished_0.2.2.2.2.2.2.1
theorem dX7_ifWished_13 : decode cX7_ifWished 13 = .ok (.ifCond .ne 5, 3) := bdX7_ifWished_0.2.2.2.2.2.2.2.1
theorem dX7_ifWished_16 : decode cX7_ifWished 16 = .ok (.iconst (-1), 1) := bdX7_ifWished_0.2.2.2.2.2.2.2.2.1
theorem dX7_ifWished_17 : decode cX7_ifWished 17 = .ok (.ireturn, 1) := bdX7_ifWished_0.2.2.2.2.2.2.2.2.2.1
theorem dX7_ifWished_18 : decode cX7_ifWished 18 = .ok (.aload_n 0, 1) := bdX7_ifWished_0.2.2.2.2.2.2.2.2.2.2.1
theorem dX7_ifWished_19 : decode cX7_ifWished 19 = .ok (.invokevirtual 185, 3) := bdX7_ifWished_0.2.2.2.2.2.2.2.2.2.2.2.1
theorem dX7_ifWished_22 : decode cX7_ifWished 22 = .ok (.aload_n 0, 1) := bdX7_ifWished_0.2.2.2.2.2.2.2.2.2.2.2.2.1
theorem dX7_ifWished_23 : decode cX7_ifWished 23 = .ok (.iload_n 1, 1) := bdX7_ifWished_0.2.2.2.2.2.2.2.2.2.2.2.2.2.1
theorem dX7_ifWished_24 : decode cX7_ifWished 24 = .ok (.iconst 2, 1) := bdX7_ifWished_0.2.2.2.2.2.2.2.2.2.2.2.2.2.2.1
theorem dX7_ifWished_25 : decode cX7_ifWished 25 = .ok (.iconst 1, 1) := bdX7_ifWished_0.2.2.2.2.2.2.2.2.2.2.2.2.2.2.2
theorem bdX7_ifWished_26 : decode cX7_ifWished 26 = .ok (.invokevirtual 62, 3) ∧ decode cX7_ifWished 29 = .ok (.aload_n 0, 1) ∧ decode cX7_ifWished 30 = .ok (.iload_n 1, 1) ∧ decode cX7_ifWished 31 = .ok (.iconst 3, 1) ∧ decode cX7_ifWished 32 = .ok (.iload_n 2, 1) ∧ decode cX7_ifWished 33 = .ok (.invokevirtual 62, 3) ∧ decode cX7_ifWished 36 = .ok (.aload_n 0, 1) ∧ decode cX7_ifWished 37 = .ok (.invokevirtual 169, 3) ∧ decode cX7_ifWished 40 = .ok (.aload_n 0, 1) ∧ decode cX7_ifWished 41 = .ok (.iload_n 1, 1) ∧ decode cX7_ifWished 42 = .ok (.bipush 11, 2) ∧ decode cX7_ifWished 44 = .ok (.invokevirtual 66, 3) ∧ decode cX7_ifWished 47 = .ok (.istore_n 3, 1) ∧ decode cX7_ifWished 48 = .ok (.aload_n 0, 1) ∧ decode cX7_ifWished 49 = .ok (.invokevirtual 188, 3) ∧ decode cX7_ifWished 52 = .ok (.iload_n 3, 1) := by decide +kernel
theorem dX7_ifWished_26 : decode cX7_ifWished 26 = .ok (.invokevirtual 62, 3) := bdX7_ifWished_26.1
theorem dX7_ifWished_29 : decode cX7_ifWished 29 = .ok (.aload_n 0, 1) := bdX7_ifWished_26.2.1
theorem dX7_ifWished_30 : decode cX7_ifWished 30 = .ok (.iload_n 1, 1) := bdX7_ifWished_26.2.2.1
theorem dX7_ifWished_31 : decode cX7_ifWished 31 = .ok (.iconst 3, 1) := bdX7_ifWished_26.2.2.2.1
theorem dX7_ifWished_32 : decode cX7_ifWished 32 = .ok (.iload_n 2, 1) := bdX7_ifWished_26.2.2.2.2.1
theorem dX7_ifWished_33 : decode cX7_ifWished 33 = .ok (.invokevirtual 62, 3) := bdX7_ifWished_26.2.2.2.2.2.1
theorem dX7_ifWished_36 : decode cX7_ifWished 36 = .ok (.aload_n 0, 1) := bdX7_ifWished_26.2.2.2.2.2.2.1
theorem dX7_ifWished_37 : decode cX7_ifWished 37 = .ok (.invokevirtual 169, 3) := bdX7_ifWished_26.2.2.2.2.2.2.2.1
theorem dX7_ifWished_40 : decode cX7_ifWished 40 = .ok (.aload_n 0, 1) := bdX7_ifWished_26.2.2.2.2.2.2.2.2.1
theorem dX7_ifWished_41 : decode cX7_ifWished 41 = .ok (.iload_n 1, 1) := bdX7_ifWished_26.2.2.2.2.2.2.2.2.2.1
theorem dX7_ifWished_42 : decode cX7_ifWished 42 = .ok (.bipush 11, 2) := bdX7_ifWished_26.2.2.2.2.2.2.2.2.2.2.1
theorem dX7_ifWished_44 : decode cX7_ifWished 44 = .ok (.invokevirtual 66, 3) := bdX7_ifWished_26.2.2.2.2.2.2.2.2.2.2.2.1
theorem dX7_ifWished_47 : decode cX7_ifWished 47 = .ok (.istore_n 3, 1) := bdX7_ifWished_26.2.2.2.2.2.2.2.2.2.2.2.2.1
theorem dX7_ifWished_48 : decode cX7_ifWished 48 = .ok (.aload_n 0, 1) := bdX7_ifWished_26.2.2.2.2.2.2.2.2.2.2.2.2.2.1
theorem dX7_ifWished_49 : decode cX7_ifWished 49 = .ok (.invokevirtual 188, 3) := bdX7_ifWished_26.2.2.2.2.2.2.2.2.2.2.2.2.2.2.1
theorem dX7_ifWished_52 : decode cX7_ifWished 52 = .ok (.iload_n 3, 1) := bdX7_ifWished_26.2.2.2.2.2.2.2.2.2.2.2.2.2.2.2
theorem dX7_ifWished_53 : decode cX7_ifWished 53 = .ok (.ireturn, 1) := by decide +kernel
theorem bdX7_firstDay_0 : decode cX7_firstDay 0 = .ok (.aload_n 0, 1) ∧ decode cX7_firstDay 1 = .ok (.iload_n 1, 1) ∧ decode cX7_firstDay 2 = .ok (.invokevirtual 72, 3) ∧ decode cX7_firstDay 5 = .ok (.ifCond .ne 5, 3) ∧ decode cX7_firstDay 8 = .ok (.iconst (-1), 1) ∧ decode cX7_firstDay 9 = .ok (.ireturn, 1) ∧ decode cX7_firstDay 10 = .ok (.aload_n 0, 1) ∧ decode cX7_firstDay 11 = .ok (.invokevirtual 185, 3) ∧ decode cX7_firstDay 14 = .ok (.bipush (-6), 2) ∧ decode cX7_firstDay 16 = .ok (.istore_n 2, 1) ∧ decode cX7_firstDay 17 = .ok (.iconst 0, 1) ∧ decode cX7_firstDay 18 = .ok (.istore_n 3, 1) ∧ decode cX7_firstDay 19 = .ok (.iload_n 3, 1) ∧ decode cX7_firstDay 20 = .ok (.bipush 60, 2) ∧ decode cX7_firstDay 22 = .ok (.if_icmp .ge 34, 3) ∧ decode cX7_firstDay 25 = .ok (.iload_n 2, 1) := by decide +kernel
theorem dX7_firstDay_0 : decode cX7_firstDay 0 = .ok (.aload_n 0, 1) := bdX7_firstDay_0.1
theorem dX7_firstDay_1 : decode cX7_firstDay 1 = .ok (.iload_n 1, 1) := bdX7_firstDay_0.2.1
theorem dX7_firstDay_2 : decode cX7_firstDay 2 = .ok (.invokevirtual 72, 3) := bdX7_firstDay_0.2.2.1
theorem dX7_firstDay_5 : decode cX7_firstDay 5 = .ok (.ifCond .ne 5, 3) := bdX7_firstDay_0.2.2.2.1
theorem dX7_firstDay_8 : decode cX7_firstDay 8 = .ok (.iconst (-1), 1) := bdX7_firstDay_0.2.2.2.2.1
theorem dX7_firstDay_9 : decode cX7_firstDay 9 = .ok (.ireturn, 1) := bdX7_firstDay_0.2.2.2.2.2.1
theorem dX7_firstDay_10 : decode cX7_firstDay 10 = .ok (.aload_n 0, 1) := bdX7_firstDay_0.2.2.2.2.2.2.1
theorem dX7_firstDay_11 : decode cX7_firstDay 11 = .ok (.invokevirtual 185, 3) := bdX7_firstDay_0.2.2.2.2.2.2.2.1
theorem dX7_firstDay_14 : decode cX7_firstDay 14 = .ok (.bipush (-6), 2) := bdX7_firstDay_0.2.2.2.2.2.2.2.2.1
theorem dX7_firstDay_16 : decode cX7_firstDay 16 = .ok (.istore_n 2, 1) := bdX7_firstDay_0.2.2.2.2.2.2.2.2.2.1
theorem dX7_firstDay_17 : decode cX7_firstDay 17 = .ok (.iconst 0, 1) := bdX7_firstDay_0.2.2.2.2.2.2.2.2.2.2.1
theorem dX7_firstDay_18 : decode cX7_firstDay 18 = .ok (.istore_n 3, 1) := bdX7_firstDay_0.2.2.2.2.2.2.2.2.2.2.2.1
theorem dX7_firstDay_19 : decode cX7_firstDay 19 = .ok (.iload_n 3, 1) := bdX7_firstDay_0.2.2.2.2.2.2.2.2.2.2.2.2.1
theorem dX7_firstDay_20 : decode cX7_firstDay 20 = .ok (.bipush 60, 2) := bdX7_firstDay_0.2.2.2.2.2.2.2.2.2.2.2.2.2.1
theorem dX7_firstDay_22 : decode cX7_firstDay 22 = .ok (.if_icmp .ge 34, 3) := bdX7_firstDay_0.2.2.2.2.2.2.2.2.2.2.2.2.2.2.1
theorem dX7_firstDay_25 : decode cX7_firstDay 25 = .ok (.iload_n 2, 1) := bdX7_firstDay_0.2.2.2.2.2.2.2.2.2.2.2.2.2.2.2
theorem bdX7_firstDay_26 : decode cX7_firstDay 26 = .ok (.ifCond .ge 30, 3) ∧ decode cX7_firstDay 29 = .ok (.aload_n 0, 1) ∧ decode cX7_firstDay 30 = .ok (.invokevirtual 169, 3) ∧ decode cX7_firstDay 33 = .ok (.aload_n 0, 1) ∧ decode cX7_firstDay 34 = .ok (.iload_n 1, 1) ∧ decode cX7_firstDay 35 = .ok (.bipush 11, 2) ∧ decode cX7_firstDay 37 = .ok (.invokevirtual 66, 3) ∧ decode cX7_firstDay 40 = .ok (.ifCond .lt 7, 3) ∧ decode cX7_firstDay 43 = .ok (.iload_n 3, 1) ∧ decode cX7_firstDay 44 = .ok (.goto 5, 3) ∧ decode cX7_firstDay 47 = .ok (.bipush (-6), 2) ∧ decode cX7_firstDay 49 = .ok (.istore_n 2, 1) ∧ decode cX7_firstDay 50 = .ok (.iinc 3 1, 3) ∧ decode cX7_firstDay 53 = .ok (.goto (-34), 3) ∧ decode cX7_firstDay 56 = .ok (.aload_n 0, 1) ∧ decode cX7_firstDay 57 = .ok (.invokevirtual 188, 3) := by decide +kernel
theorem dX7_firstDay_26 : decode cX7_firstDay 26 = .ok (.ifCond .ge 30, 3) := bdX7_firstDay_26.1
theorem dX7_firstDay_29 : decode cX7_firstDay 29 = .ok (.aload_n 0, 1) := bdX7_firstDay_26.2.1
theorem dX7_firstDay_30 : decode cX7_firstDay 30 = .ok (.invokevirtual 169, 3) := bdX7_firstDay_26.2.2.1
theorem dX7_firstDay_33 : decode cX7_firstDay 33 = .ok (.aload_n 0, 1) := bdX7_firstDay_26.2.2.2.1
theorem dX7_firstDay_34 : decode cX7_firstDay 34 = .ok (.iload_n 1, 1) := bdX7_firstDay_26.2.2.2.2.1
theorem dX7_firstDay_35 : decode cX7_firstDay 35 = .ok (.bipush 11, 2) := bdX7_firstDay_26.2.2.2.2.2.1
theorem dX7_firstDay_37 : decode cX7_firstDay 37 = .ok (.invokevirtual 66, 3) := bdX7_firstDay_26.2.2.2.2.2.2.1
theorem dX7_firstDay_40 : decode cX7_firstDay 40 = .ok (.ifCond .lt 7, 3) := bdX7_firstDay_26.2.2.2.2.2.2.2.1
theorem dX7_firstDay_43 : decode cX7_firstDay 43 = .ok (.iload_n 3, 1) := bdX7_firstDay_26.2.2.2.2.2.2.2.2.1
theorem dX7_firstDay_44 : decode cX7_firstDay 44 = .ok (.goto 5, 3) := bdX7_firstDay_26.2.2.2.2.2.2.2.2.2.1
theorem dX7_firstDay_47 : decode cX7_firstDay 47 = .ok (.bipush (-6), 2) := bdX7_firstDay_26.2.2.2.2.2.2.2.2.2.2.1
theorem dX7_firstDay_49 : decode cX7_firstDay 49 = .ok (.istore_n 2, 1) := bdX7_firstDay_26.2.2.2.2.2.2.2.2.2.2.2.1
theorem dX7_firstDay_50 : decode cX7_firstDay 50 = .ok (.iinc 3 1, 3) := bdX7_firstDay_26.2.2.2.2.2.2.2.2.2.2.2.2.1
theorem dX7_firstDay_53 : decode cX7_firstDay 53 = .ok (.goto (-34), 3) := bdX7_firstDay_26.2.2.2.2.2.2.2.2.2.2.2.2.2.1
theorem dX7_firstDay_56 : decode cX7_firstDay 56 = .ok (.aload_n 0, 1) := bdX7_firstDay_26.2.2.2.2.2.2.2.2.2.2.2.2.2.2.1
theorem dX7_firstDay_57 : decode cX7_firstDay 57 = .ok (.invokevirtual 188, 3) := bdX7_firstDay_26.2.2.2.2.2.2.2.2.2.2.2.2.2.2.2
theorem bdX7_firstDay_60 : decode cX7_firstDay 60 = .ok (.iload_n 2, 1) ∧ decode cX7_firstDay 61 = .ok (.ireturn, 1) := by decide +kernel
theorem dX7_firstDay_60 : decode cX7_firstDay 60 = .ok (.iload_n 2, 1) := bdX7_firstDay_60.1
theorem dX7_firstDay_61 : decode cX7_firstDay 61 = .ok (.ireturn, 1) := bdX7_firstDay_60.2
theorem bdX7_daysOf_0 : decode cX7_daysOf 0 = .ok (.aload_n 0, 1) ∧ decode cX7_daysOf 1 = .ok (.iload_n 1, 1) ∧ decode cX7_daysOf 2 = .ok (.invokevirtual 72, 3) ∧ decode cX7_daysOf 5 = .ok (.ifCond .ne 5, 3) ∧ decode cX7_daysOf 8 = .ok (.iconst (-1), 1) ∧ decode cX7_daysOf 9 = .ok (.ireturn, 1) ∧ decode cX7_daysOf 10 = .ok (.iload_n 2, 1) ∧ decode cX7_daysOf 11 = .ok (.iconst 1, 1) ∧ decode cX7_daysOf 12 = .ok (.bipush 60, 2) ∧ decode cX7_daysOf 14 = .ok (.invokestatic 35, 3) ∧ decode cX7_daysOf 17 = .ok (.ifCond .ne 6, 3) ∧ decode cX7_daysOf 20 = .ok (.bipush (-2), 2) ∧ decode cX7_daysOf 22 = .ok (.ireturn, 1) ∧ decode cX7_daysOf 23 = .ok (.aload_n 0, 1) ∧ decode cX7_daysOf 24 = .ok (.invokevirtual 185, 3) ∧ decode cX7_daysOf 27 = .ok (.aload_n 0, 1) := by decide +kernel
theorem dX7_daysOf_0 : decode cX7_daysOf 0 = .ok (.aload_n 0, 1) := bdX7_daysOf_0.1
theorem dX7_daysOf_1 : decode cX7_daysOf 1 = .ok (.iload_n 1, 1) := bdX7_daysOf_0.2.1
theorem dX7_daysOf_2 : decode cX7_daysOf 2 = .ok (.invokevirtual 72, 3) := bdX7_daysOf_0.2.2.1
theorem dX7_daysOf_5 : decode cX7_daysOf 5 = .ok (.ifCond .ne 5, 3) := bdX7_daysOf_0.2.2.2.1
theorem dX7_daysOf_8 : decode cX7_daysOf 8 = .ok (.iconst (-1), 1) := bdX7_daysOf_0.2.2.2.2.1
theorem dX7_daysOf_9 : decode cX7_daysOf 9 = .ok (.ireturn, 1) := bdX7_daysOf_0.2.2.2.2.2.1
theorem dX7_daysOf_10 : decode cX7_daysOf 10 = .ok (.iload_n 2, 1) := bdX7_daysOf_0.2.2.2.2.2.2.1
theorem dX7_daysOf_11 : decode cX7_daysOf 11 = .ok (.iconst 1, 1) := bdX7_daysOf_0.2.2.2.2.2.2.2.1
theorem dX7_daysOf_12 : decode cX7_daysOf 12 = .ok (.bipush 60, 2) := bdX7_daysOf_0.2.2.2.2.2.2.2.2.1
theorem dX7_daysOf_14 : decode cX7_daysOf 14 = .ok (.invokestatic 35, 3) := bdX7_daysOf_0.2.2.2.2.2.2.2.2.2.1
theorem dX7_daysOf_17 : decode cX7_daysOf 17 = .ok (.ifCond .ne 6, 3) := bdX7_daysOf_0.2.2.2.2.2.2.2.2.2.2.1
theorem dX7_daysOf_20 : decode cX7_daysOf 20 = .ok (.bipush (-2), 2) := bdX7_daysOf_0.2.2.2.2.2.2.2.2.2.2.2.1
theorem dX7_daysOf_22 : decode cX7_daysOf 22 = .ok (.ireturn, 1) := bdX7_daysOf_0.2.2.2.2.2.2.2.2.2.2.2.2.1
theorem dX7_daysOf_23 : decode cX7_daysOf 23 = .ok (.aload_n 0, 1) := bdX7_daysOf_0.2.2.2.2.2.2.2.2.2.2.2.2.2.1
theorem dX7_daysOf_24 : decode cX7_daysOf 24 = .ok (.invokevirtual 185, 3) := bdX7_daysOf_0.2.2.2.2.2.2.2.2.2.2.2.2.2.2.1
theorem dX7_daysOf_27 : decode cX7_daysOf 27 = .ok (.aload_n 0, 1) := bdX7_daysOf_0.2.2.2.2.2.2.2.2.2.2.2.2.2.2.2
theorem bdX7_daysOf_28 : decode cX7_daysOf 28 = .ok (.iload_n 1, 1) ∧ decode cX7_daysOf 29 = .ok (.bipush 10, 2) ∧ decode cX7_daysOf 31 = .ok (.invokevirtual 66, 3) ∧ decode cX7_daysOf 34 = .ok (.istore_n 3, 1) ∧ decode cX7_daysOf 35 = .ok (.iconst 0, 1) ∧ decode cX7_daysOf 36 = .ok (.istore 4, 2) ∧ decode cX7_daysOf 38 = .ok (.iload 4, 2) ∧ decode cX7_daysOf 40 = .ok (.iload_n 2, 1) ∧ decode cX7_daysOf 41 = .ok (.if_icmp .ge 13, 3) ∧ decode cX7_daysOf 44 = .ok (.aload_n 0, 1) ∧ decode cX7_daysOf 45 = .ok (.invokevirtual 169, 3) ∧ decode cX7_daysOf 48 = .ok (.iinc 4 1, 3) ∧ decode cX7_daysOf 51 = .ok (.goto (-13), 3) ∧ decode cX7_daysOf 54 = .ok (.aload_n 0, 1) ∧ decode cX7_daysOf 55 = .ok (.iload_n 1, 1) ∧ decode cX7_daysOf 56 = .ok (.bipush 10, 2) := by decide +kernel
theorem dX7_daysOf_28 : decode cX7_daysOf 28 = .ok (.iload_n 1, 1) := bdX7_daysOf_28.1
theorem dX7_daysOf_29 : decode cX7_daysOf 29 = .ok (.bipush 10, 2) := bdX7_daysOf_28.2.1
theorem dX7_daysOf_31 : decode cX7_daysOf 31 = .ok (.invokevirtual 66, 3) := bdX7_daysOf_28.2.2.1
theorem dX7_daysOf_34 : decode cX7_daysOf 34 = .ok (.istore_n 3, 1) := bdX7_daysOf_28.2.2.2.1
theorem dX7_daysOf_35 : decode cX7_daysOf 35 = .ok (.iconst 0, 1) := bdX7_daysOf_28.2.2.2.2.1
theorem dX7_daysOf_36 : decode cX7_daysOf 36 = .ok (.istore 4, 2) := bdX7_daysOf_28.2.2.2.2.2.1
theorem dX7_daysOf_38 : decode cX7_daysOf 38 = .ok (.iload 4, 2) := bdX7_daysOf_28.2.2.2.2.2.2.1
theorem dX7_daysOf_40 : decode cX7_daysOf 40 = .ok (.iload_n 2, 1) := bdX7_daysOf_28.2.2.2.2.2.2.2.1
theorem dX7_daysOf_41 : decode cX7_daysOf 41 = .ok (.if_icmp .ge 13, 3) := bdX7_daysOf_28.2.2.2.2.2.2.2.2.1
theorem dX7_daysOf_44 : decode cX7_daysOf 44 = .ok (.aload_n 0, 1) := bdX7_daysOf_28.2.2.2.2.2.2.2.2.2.1
theorem dX7_daysOf_45 : decode cX7_daysOf 45 = .ok (.invokevirtual 169, 3) := bdX7_daysOf_28.2.2.2.2.2.2.2.2.2.2.1
theorem dX7_daysOf_48 : decode cX7_daysOf 48 = .ok (.iinc 4 1, 3) := bdX7_daysOf_28.2.2.2.2.2.2.2.2.2.2.2.1
theorem dX7_daysOf_51 : decode cX7_daysOf 51 = .ok (.goto (-13), 3) := bdX7_daysOf_28.2.2.2.2.2.2.2.2.2.2.2.2.1
theorem dX7_daysOf_54 : decode cX7_daysOf 54 = .ok (.aload_n 0, 1) := bdX7_daysOf_28.2.2.2.2.2.2.2.2.2.2.2.2.2.1
theorem dX7_daysOf_55 : decode cX7_daysOf 55 = .ok (.iload_n 1, 1) := bdX7_daysOf_28.2.2.2.2.2.2.2.2.2.2.2.2.2.2.1
theorem dX7_daysOf_56 : decode cX7_daysOf 56 = .ok (.bipush 10, 2) := bdX7_daysOf_28.2.2.2.2.2.2.2.2.2.2.2.2.2.2.2
theorem bdX7_daysOf_58 : decode cX7_daysOf 58 = .ok (.invokevirtual 66, 3) ∧ decode cX7_daysOf 61 = .ok (.iload_n 3, 1) ∧ decode cX7_daysOf 62 = .ok (.isub, 1) ∧ decode cX7_daysOf 63 = .ok (.istore 4, 2) ∧ decode cX7_daysOf 65 = .ok (.aload_n 0, 1) ∧ decode cX7_daysOf 66 = .ok (.invokevirtual 188, 3) ∧ decode cX7_daysOf 69 = .ok (.iload 4, 2) ∧ decode cX7_daysOf 71 = .ok (.ireturn, 1) := by decide +kernel
theorem dX7_daysOf_58 : decode cX7_daysOf 58 = .ok (.invokevirtual 66, 3) := bdX7_daysOf_58.1
theorem dX7_daysOf_61 : decode cX7_daysOf 61 = .ok (.iload_n 3, 1) := bdX7_daysOf_58.2.1
theorem dX7_daysOf_62 : decode cX7_daysOf 62 = .ok (.isub, 1) := bdX7_daysOf_58.2.2.1
theorem dX7_daysOf_63 : decode cX7_daysOf 63 = .ok (.istore 4, 2) := bdX7_daysOf_58.2.2.2.1
theorem dX7_daysOf_65 : decode cX7_daysOf 65 = .ok (.aload_n 0, 1) := bdX7_daysOf_58.2.2.2.2.1
theorem dX7_daysOf_66 : decode cX7_daysOf 66 = .ok (.invokevirtual 188, 3) := bdX7_daysOf_58.2.2.2.2.2.1
theorem dX7_daysOf_69 : decode cX7_daysOf 69 = .ok (.iload 4, 2) := bdX7_daysOf_58.2.2.2.2.2.2.1
theorem dX7_daysOf_71 : decode cX7_daysOf 71 = .ok (.ireturn, 1) := bdX7_daysOf_58.2.2.2.2.2.2.2
theorem bdX7_luckySeed_0 : decode cX7_luckySeed 0 = .ok (.aload_n 0, 1) ∧ decode cX7_luckySeed 1 = .ok (.iload_n 1, 1) ∧ decode cX7_luckySeed 2 = .ok (.invokevirtual 72, 3) ∧ decode cX7_luckySeed 5 = .ok (.ifCond .eq 11, 3) ∧ decode cX7_luckySeed 8 = .ok (.aload_n 0, 1) ∧ decode cX7_luckySeed 9 = .ok (.iload_n 2, 1) ∧ decode cX7_luckySeed 10 = .ok (.invokevirtual 75, 3) ∧ decode cX7_luckySeed 13 = .ok (.ifCond .ne 5, 3) ∧ decode cX7_luckySeed 16 = .ok (.iconst (-1), 1) ∧ decode cX7_luckySeed 17 = .ok (.ireturn, 1) ∧ decode cX7_luckySeed 18 = .ok (.aload_n 0, 1) ∧ decode cX7_luckySeed 19 = .ok (.invokevirtual 185, 3) ∧ decode cX7_luckySeed 22 = .ok (.bipush (-6), 2) ∧ decode cX7_luckySeed 24 = .ok (.istore_n 3, 1) ∧ decode cX7_luckySeed 25 = .ok (.iconst 0, 1) ∧ decode cX7_luckySeed 26 = .ok (.istore 4, 2) := by decide +kernel
theorem dX7_luckySeed_0 : decode cX7_luckySeed 0 = .ok (.aload_n 0, 1) := bdX7_luckySeed_0.1
theorem dX7_luckySeed_1 : decode cX7_luckySeed 1 = .ok (.iload_n 1, 1) := bdX7_luckySeed_0.2.1
theorem dX7_luckySeed_2 : decode cX7_luckySeed 2 = .ok (.invokevirtual 72, 3) := bdX7_luckySeed_0.2.2.1
theorem dX7_luckySeed_5 : decode cX7_luckySeed 5 = .ok (.ifCond .eq 11, 3) := bdX7_luckySeed_0.2.2.2.1
theorem dX7_luckySeed_8 : decode cX7_luckySeed 8 = .ok (.aload_n 0, 1) := bdX7_luckySeed_0.2.2.2.2.1
theorem dX7_luckySeed_9 : decode cX7_luckySeed 9 = .ok (.iload_n 2, 1) := bdX7_luckySeed_0.2.2.2.2.2.1
theorem dX7_luckySeed_10 : decode cX7_luckySeed 10 = .ok (.invokevirtual 75, 3) := bdX7_luckySeed_0.2.2.2.2.2.2.1
theorem dX7_luckySeed_13 : decode cX7_luckySeed 13 = .ok (.ifCond .ne 5, 3) := bdX7_luckySeed_0.2.2.2.2.2.2.2.1
theorem dX7_luckySeed_16 : decode cX7_luckySeed 16 = .ok (.iconst (-1), 1) := bdX7_luckySeed_0.2.2.2.2.2.2.2.2.1
theorem dX7_luckySeed_17 : decode cX7_luckySeed 17 = .ok (.ireturn, 1) := bdX7_luckySeed_0.2.2.2.2.2.2.2.2.2.1
theorem dX7_luckySeed_18 : decode cX7_luckySeed 18 = .ok (.aload_n 0, 1) := bdX7_luckySeed_0.2.2.2.2.2.2.2.2.2.2.1
theorem dX7_luckySeed_19 : decode cX7_luckySeed 19 = .ok (.invokevirtual 185, 3) := bdX7_luckySeed_0.2.2.2.2.2.2.2.2.2.2.2.1
theorem dX7_luckySeed_22 : decode cX7_luckySeed 22 = .ok (.bipush (-6), 2) := bdX7_luckySeed_0.2.2.2.2.2.2.2.2.2.2.2.2.1
theorem dX7_luckySeed_24 : decode cX7_luckySeed 24 = .ok (.istore_n 3, 1) := bdX7_luckySeed_0.2.2.2.2.2.2.2.2.2.2.2.2.2.1
theorem dX7_luckySeed_25 : decode cX7_luckySeed 25 = .ok (.iconst 0, 1) := bdX7_luckySeed_0.2.2.2.2.2.2.2.2.2.2.2.2.2.2.1
theorem dX7_luckySeed_26 : decode cX7_luckySeed 26 = .ok (.istore 4, 2) := bdX7_luckySeed_0.2.2.2.2.2.2.2.2.2.2.2.2.2.2.2
theorem bdX7_luckySeed_28 : decode cX7_luckySeed 28 = .ok (.iload 4, 2) ∧ decode cX7_luckySeed 30 = .ok (.sipush 200, 3) ∧ decode cX7_luckySeed 33 = .ok (.if_icmp .ge 62, 3) ∧ decode cX7_luckySeed 36 = .ok (.iload_n 3, 1) ∧ decode cX7_luckySeed 37 = .ok (.ifCond .ge 58, 3) ∧ decode cX7_luckySeed 40 = .ok (.aload_n 0, 1) ∧ decode cX7_luckySeed 41 = .ok (.getfield 7, 3) ∧ decode cX7_luckySeed 44 = .ok (.bipush 11, 2) ∧ decode cX7_luckySeed 46 = .ok (.iload 4, 2) ∧ decode cX7_luckySeed 48 = .ok (.iastore, 1) ∧ decode cX7_luckySeed 49 = .ok (.aload_n 0, 1) ∧ decode cX7_luckySeed 50 = .ok (.invokevirtual 169, 3) ∧ decode cX7_luckySeed 53 = .ok (.aload_n 0, 1) ∧ decode cX7_luckySeed 54 = .ok (.iload_n 1, 1) ∧ decode cX7_luckySeed 55 = .ok (.bipush 11, 2) ∧ decode cX7_luckySeed 57 = .ok (.invokevirtual 66, 3) := by decide +kernel
theorem dX7_luckySeed_28 : decode cX7_luckySeed 28 = .ok (.iload 4, 2) := bdX7_luckySeed_28.1
theorem dX7_luckySeed_30 : decode cX7_luckySeed 30 = .ok (.sipush 200, 3) := bdX7_luckySeed_28.2.1
theorem dX7_luckySeed_33 : decode cX7_luckySeed 33 = .ok (.if_icmp .ge 62, 3) := bdX7_luckySeed_28.2.2.1
theorem dX7_luckySeed_36 : decode cX7_luckySeed 36 = .ok (.iload_n 3, 1) := bdX7_luckySeed_28.2.2.2.1
theorem dX7_luckySeed_37 : decode cX7_luckySeed 37 = .ok (.ifCond .ge 58, 3) := bdX7_luckySeed_28.2.2.2.2.1
theorem dX7_luckySeed_40 : decode cX7_luckySeed 40 = .ok (.aload_n 0, 1) := bdX7_luckySeed_28.2.2.2.2.2.1
theorem dX7_luckySeed_41 : decode cX7_luckySeed 41 = .ok (.getfield 7, 3) := bdX7_luckySeed_28.2.2.2.2.2.2.1
theorem dX7_luckySeed_44 : decode cX7_luckySeed 44 = .ok (.bipush 11, 2) := bdX7_luckySeed_28.2.2.2.2.2.2.2.1
theorem dX7_luckySeed_46 : decode cX7_luckySeed 46 = .ok (.iload 4, 2) := bdX7_luckySeed_28.2.2.2.2.2.2.2.2.1
theorem dX7_luckySeed_48 : decode cX7_luckySeed 48 = .ok (.iastore, 1) := bdX7_luckySeed_28.2.2.2.2.2.2.2.2.2.1
theorem dX7_luckySeed_49 : decode cX7_luckySeed 49 = .ok (.aload_n 0, 1) := bdX7_luckySeed_28.2.2.2.2.2.2.2.2.2.2.1
theorem dX7_luckySeed_50 : decode cX7_luckySeed 50 = .ok (.invokevirtual 169, 3) := bdX7_luckySeed_28.2.2.2.2.2.2.2.2.2.2.2.1
theorem dX7_luckySeed_53 : decode cX7_luckySeed 53 = .ok (.aload_n 0, 1) := bdX7_luckySeed_28.2.2.2.2.2.2.2.2.2.2.2.2.1
theorem dX7_luckySeed_54 : decode cX7_luckySeed 54 = .ok (.iload_n 1, 1) := bdX7_luckySeed_28.2.2.2.2.2.2.2.2.2.2.2.2.2.1
theorem dX7_luckySeed_55 : decode cX7_luckySeed 55 = .ok (.bipush 11, 2) := bdX7_luckySeed_28.2.2.2.2.2.2.2.2.2.2.2.2.2.2.1
theorem dX7_luckySeed_57 : decode cX7_luckySeed 57 = .ok (.invokevirtual 66, 3) := bdX7_luckySeed_28.2.2.2.2.2.2.2.2.2.2.2.2.2.2.2
theorem bdX7_luckySeed_60 : decode cX7_luckySeed 60 = .ok (.istore 5, 2) ∧ decode cX7_luckySeed 62 = .ok (.iload 5, 2) ∧ decode cX7_luckySeed 64 = .ok (.ifCond .lt 18, 3) ∧ decode cX7_luckySeed 67 = .ok (.iload_n 2, 1) ∧ decode cX7_luckySeed 68 = .ok (.ifCond .lt 9, 3) ∧ decode cX7_luckySeed 71 = .ok (.iload 5, 2) ∧ decode cX7_luckySeed 73 = .ok (.iload_n 2, 1) ∧ decode cX7_luckySeed 74 = .ok (.if_icmp .ne 8, 3) ∧ decode cX7_luckySeed 77 = .ok (.iload 4, 2) ∧ decode cX7_luckySeed 79 = .ok (.goto 5, 3) ∧ decode cX7_luckySeed 82 = .ok (.bipush (-6), 2) ∧ decode cX7_luckySeed 84 = .ok (.istore_n 3, 1) ∧ decode cX7_luckySeed 85 = .ok (.aload_n 0, 1) ∧ decode cX7_luckySeed 86 = .ok (.invokevirtual 188, 3) ∧ decode cX7_luckySeed 89 = .ok (.iinc 4 1, 3) ∧ decode cX7_luckySeed 92 = .ok (.goto (-64), 3) := by decide +kernel
theorem dX7_luckySeed_60 : decode cX7_luckySeed 60 = .ok (.istore 5, 2) := bdX7_luckySeed_60.1
theorem dX7_luckySeed_62 : decode cX7_luckySeed 62 = .ok (.iload 5, 2) := bdX7_luckySeed_60.2.1
theorem dX7_luckySeed_64 : decode cX7_luckySeed 64 = .ok (.ifCond .lt 18, 3) := bdX7_luckySeed_60.2.2.1
theorem dX7_luckySeed_67 : decode cX7_luckySeed 67 = .ok (.iload_n 2, 1) := bdX7_luckySeed_60.2.2.2.1
theorem dX7_luckySeed_68 : decode cX7_luckySeed 68 = .ok (.ifCond .lt 9, 3) := bdX7_luckySeed_60.2.2.2.2.1
theorem dX7_luckySeed_71 : decode cX7_luckySeed 71 = .ok (.iload 5, 2) := bdX7_luckySeed_60.2.2.2.2.2.1
theorem dX7_luckySeed_73 : decode cX7_luckySeed 73 = .ok (.iload_n 2, 1) := bdX7_luckySeed_60.2.2.2.2.2.2.1
theorem dX7_luckySeed_74 : decode cX7_luckySeed 74 = .ok (.if_icmp .ne 8, 3) := bdX7_luckySeed_60.2.2.2.2.2.2.2.1
theorem dX7_luckySeed_77 : decode cX7_luckySeed 77 = .ok (.iload 4, 2) := bdX7_luckySeed_60.2.2.2.2.2.2.2.2.1
theorem dX7_luckySeed_79 : decode cX7_luckySeed 79 = .ok (.goto 5, 3) := bdX7_luckySeed_60.2.2.2.2.2.2.2.2.2.1
theorem dX7_luckySeed_82 : decode cX7_luckySeed 82 = .ok (.bipush (-6), 2) := bdX7_luckySeed_60.2.2.2.2.2.2.2.2.2.2.1
theorem dX7_luckySeed_84 : decode cX7_luckySeed 84 = .ok (.istore_n 3, 1) := bdX7_luckySeed_60.2.2.2.2.2.2.2.2.2.2.2.1
theorem dX7_luckySeed_85 : decode cX7_luckySeed 85 = .ok (.aload_n 0, 1) := bdX7_luckySeed_60.2.2.2.2.2.2.2.2.2.2.2.2.1
theorem dX7_luckySeed_86 : decode cX7_luckySeed 86 = .ok (.invokevirtual 188, 3) := bdX7_luckySeed_60.2.2.2.2.2.2.2.2.2.2.2.2.2.1
theorem dX7_luckySeed_89 : decode cX7_luckySeed 89 = .ok (.iinc 4 1, 3) := bdX7_luckySeed_60.2.2.2.2.2.2.2.2.2.2.2.2.2.2.1
theorem dX7_luckySeed_92 : decode cX7_luckySeed 92 = .ok (.goto (-64), 3) := bdX7_luckySeed_60.2.2.2.2.2.2.2.2.2.2.2.2.2.2.2
theorem bdX7_luckySeed_95 : decode cX7_luckySeed 95 = .ok (.iload_n 3, 1) ∧ decode cX7_luckySeed 96 = .ok (.ireturn, 1) := by decide +kernel
theorem dX7_luckySeed_95 : decode cX7_luckySeed 95 = .ok (.iload_n 3, 1) := bdX7_luckySeed_95.1
theorem dX7_luckySeed_96 : decode cX7_luckySeed 96 = .ok (.ireturn, 1) := bdX7_luckySeed_95.2
theorem bdX7_whyNot_0 : decode cX7_whyNot 0 = .ok (.aload_n 0, 1) ∧ decode cX7_whyNot 1 = .ok (.iload_n 1, 1) ∧ decode cX7_whyNot 2 = .ok (.invokevirtual 72, 3) ∧ decode cX7_whyNot 5 = .ok (.ifCond .eq 11, 3) ∧ decode cX7_whyNot 8 = .ok (.aload_n 0, 1) ∧ decode cX7_whyNot 9 = .ok (.iload_n 2, 1) ∧ decode cX7_whyNot 10 = .ok (.invokevirtual 54, 3) ∧ decode cX7_whyNot 13 = .ok (.ifCond .ne 5, 3) ∧ decode cX7_whyNot 16 = .ok (.iconst (-1), 1) ∧ decode cX7_whyNot 17 = .ok (.ireturn, 1) ∧ decode cX7_whyNot 18 = .ok (.aload_n 0, 1) ∧ decode cX7_whyNot 19 = .ok (.iload_n 2, 1) ∧ decode cX7_whyNot 20 = .ok (.iconst 3, 1) ∧ decode cX7_whyNot 21 = .ok (.invokevirtual 58, 3) ∧ decode cX7_whyNot 24 = .ok (.istore_n 3, 1) ∧ decode cX7_whyNot 25 = .ok (.iload_n 3, 1) := by decide +kernel
theorem dX7_whyNot_0 : decode cX7_whyNot 0 = .ok (.aload_n 0, 1) := bdX7_whyNot_0.1
theorem dX7_whyNot_1 : decode cX7_whyNot 1 = .ok (.iload_n 1, 1) := bdX7_whyNot_0.2.1
theorem dX7_whyNot_2 : decode cX7_whyNot 2 = .ok (.invokevirtual 72, 3) := bdX7_whyNot_0.2.2.1
theorem dX7_whyNot_5 : decode cX7_whyNot 5 = .ok (.ifCond .eq 11, 3) := bdX7_whyNot_0.2.2.2.1
theorem dX7_whyNot_8 : decode cX7_whyNot 8 = .ok (.aload_n 0, 1) := bdX7_whyNot_0.2.2.2.2.1
theorem dX7_whyNot_9 : decode cX7_whyNot 9 = .ok (.iload_n 2, 1) := bdX7_whyNot_0.2.2.2.2.2.1
theorem dX7_whyNot_10 : decode cX7_whyNot 10 = .ok (.invokevirtual 54, 3) := bdX7_whyNot_0.2.2.2.2.2.2.1
theorem dX7_whyNot_13 : decode cX7_whyNot 13 = .ok (.ifCond .ne 5, 3) := bdX7_whyNot_0.2.2.2.2.2.2.2.1
theorem dX7_whyNot_16 : decode cX7_whyNot 16 = .ok (.iconst (-1), 1) := bdX7_whyNot_0.2.2.2.2.2.2.2.2.1
theorem dX7_whyNot_17 : decode cX7_whyNot 17 = .ok (.ireturn, 1) := bdX7_whyNot_0.2.2.2.2.2.2.2.2.2.1
theorem dX7_whyNot_18 : decode cX7_whyNot 18 = .ok (.aload_n 0, 1) := bdX7_whyNot_0.2.2.2.2.2.2.2.2.2.2.1
theorem dX7_whyNot_19 : decode cX7_whyNot 19 = .ok (.iload_n 2, 1) := bdX7_whyNot_0.2.2.2.2.2.2.2.2.2.2.2.1
theorem dX7_whyNot_20 : decode cX7_whyNot 20 = .ok (.iconst 3, 1) := bdX7_whyNot_0.2.2.2.2.2.2.2.2.2.2.2.2.1
theorem dX7_whyNot_21 : decode cX7_whyNot 21 = .ok (.invokevirtual 58, 3) := bdX7_whyNot_0.2.2.2.2.2.2.2.2.2.2.2.2.2.1
theorem dX7_whyNot_24 : decode cX7_whyNot 24 = .ok (.istore_n 3, 1) := bdX7_whyNot_0.2.2.2.2.2.2.2.2.2.2.2.2.2.2.1
theorem dX7_whyNot_25 : decode cX7_whyNot 25 = .ok (.iload_n 3, 1) := bdX7_whyNot_0.2.2.2.2.2.2.2.2.2.2.2.2.2.2.2
theorem bdX7_whyNot_26 : decode cX7_whyNot 26 = .ok (.ifCond .lt 12, 3) ∧ decode cX7_whyNot 29 = .ok (.iload_n 3, 1) ∧ decode cX7_whyNot 30 = .ok (.iload_n 1, 1) ∧ decode cX7_whyNot 31 = .ok (.if_icmp .eq 7, 3) ∧ decode cX7_whyNot 34 = .ok (.iconst 1, 1) ∧ decode cX7_whyNot 35 = .ok (.goto 17, 3) ∧ decode cX7_whyNot 38 = .ok (.aload_n 0, 1) ∧ decode cX7_whyNot 39 = .ok (.iload_n 1, 1) ∧ decode cX7_whyNot 40 = .ok (.iload_n 2, 1) ∧ decode cX7_whyNot 41 = .ok (.invokevirtual 118, 3) ∧ decode cX7_whyNot 44 = .ok (.ifCond .eq 7, 3) ∧ decode cX7_whyNot 47 = .ok (.iconst 0, 1) ∧ decode cX7_whyNot 48 = .ok (.goto 4, 3) ∧ decode cX7_whyNot 51 = .ok (.iconst 2, 1) ∧ decode cX7_whyNot 52 = .ok (.ireturn, 1) := by decide +kernel
theorem dX7_whyNot_26 : decode cX7_whyNot 26 = .ok (.ifCond .lt 12, 3) := bdX7_whyNot_26.1
theorem dX7_whyNot_29 : decode cX7_whyNot 29 = .ok (.iload_n 3, 1) := bdX7_whyNot_26.2.1
theorem dX7_whyNot_30 : decode cX7_whyNot 30 = .ok (.iload_n 1, 1) := bdX7_whyNot_26.2.2.1
theorem dX7_whyNot_31 : decode cX7_whyNot 31 = .ok (.if_icmp .eq 7, 3) := bdX7_whyNot_26.2.2.2.1
theorem dX7_whyNot_34 : decode cX7_whyNot 34 = .ok (.iconst 1, 1) := bdX7_whyNot_26.2.2.2.2.1
theorem dX7_whyNot_35 : decode cX7_whyNot 35 = .ok (.goto 17, 3) := bdX7_whyNot_26.2.2.2.2.2.1
theorem dX7_whyNot_38 : decode cX7_whyNot 38 = .ok (.aload_n 0, 1) := bdX7_whyNot_26.2.2.2.2.2.2.1
theorem dX7_whyNot_39 : decode cX7_whyNot 39 = .ok (.iload_n 1, 1) := bdX7_whyNot_26.2.2.2.2.2.2.2.1
theorem dX7_whyNot_40 : decode cX7_whyNot 40 = .ok (.iload_n 2, 1) := bdX7_whyNot_26.2.2.2.2.2.2.2.2.1
theorem dX7_whyNot_41 : decode cX7_whyNot 41 = .ok (.invokevirtual 118, 3) := bdX7_whyNot_26.2.2.2.2.2.2.2.2.2.1
theorem dX7_whyNot_44 : decode cX7_whyNot 44 = .ok (.ifCond .eq 7, 3) := bdX7_whyNot_26.2.2.2.2.2.2.2.2.2.2.1
theorem dX7_whyNot_47 : decode cX7_whyNot 47 = .ok (.iconst 0, 1) := bdX7_whyNot_26.2.2.2.2.2.2.2.2.2.2.2.1
theorem dX7_whyNot_48 : decode cX7_whyNot 48 = .ok (.goto 4, 3) := bdX7_whyNot_26.2.2.2.2.2.2.2.2.2.2.2.2.1
theorem dX7_whyNot_51 : decode cX7_whyNot 51 = .ok (.iconst 2, 1) := bdX7_whyNot_26.2.2.2.2.2.2.2.2.2.2.2.2.2.1
theorem dX7_whyNot_52 : decode cX7_whyNot 52 = .ok (.ireturn, 1) := bdX7_whyNot_26.2.2.2.2.2.2.2.2.2.2.2.2.2.2
theorem bdX7_put__0 : decode cX7_put_ 0 = .ok (.iconst 0, 1) ∧ decode cX7_put_ 1 = .ok (.istore_n 3, 1) ∧ decode cX7_put_ 2 = .ok (.lload_n 1, 1) ∧ decode cX7_put_ 3 = .ok (.lstore 4, 2) ∧ decode cX7_put_ 5 = .ok (.iload_n 3, 1) ∧ decode cX7_put_ 6 = .ok (.bipush 8, 2) ∧ decode cX7_put_ 8 = .ok (.if_icmp .ge 47, 3) ∧ decode cX7_put_ 11 = .ok (.lload 4, 2) ∧ decode cX7_put_ 13 = .ok (.ldc2_w 191, 3) ∧ decode cX7_put_ 16 = .ok (.land, 1) ∧ decode cX7_put_ 17 = .ok (.lconst 0, 1) ∧ decode cX7_put_ 18 = .ok (.lcmp, 1) ∧ decode cX7_put_ 19 = .ok (.ifCond .eq 36, 3) ∧ decode cX7_put_ 22 = .ok (.lload 4, 2) ∧ decode cX7_put_ 24 = .ok (.ldc2_w 191, 3) ∧ decode cX7_put_ 27 = .ok (.land, 1) := by decide +kernel
theorem dX7_put__0 : decode cX7_put_ 0 = .ok (.iconst 0, 1) := bdX7_put__0.1
theorem dX7_put__1 : decode cX7_put_ 1 = .ok (.istore_n 3, 1) := bdX7_put__0.2.1
theorem dX7_put__2 : decode cX7_put_ 2 = .ok (.lload_n 1, 1) := bdX7_put__0.2.2.1
theorem dX7_put__3 : decode cX7_put_ 3 = .ok (.lstore 4, 2) := bdX7_put__0.2.2.2.1
theorem dX7_put__5 : decode cX7_put_ 5 = .ok (.iload_n 3, 1) := bdX7_put__0.2.2.2.2.1
theorem dX7_put__6 : decode cX7_put_ 6 = .ok (.bipush 8, 2) := bdX7_put__0.2.2.2.2.2.1
theorem dX7_put__8 : decode cX7_put_ 8 = .ok (.if_icmp .ge 47, 3) := bdX7_put__0.2.2.2.2.2.2.1
theorem dX7_put__11 : decode cX7_put_ 11 = .ok (.lload 4, 2) := bdX7_put__0.2.2.2.2.2.2.2.1
theorem dX7_put__13 : decode cX7_put_ 13 = .ok (.ldc2_w 191, 3) := bdX7_put__0.2.2.2.2.2.2.2.2.1
theorem dX7_put__16 : decode cX7_put_ 16 = .ok (.land, 1) := bdX7_put__0.2.2.2.2.2.2.2.2.2.1
theorem dX7_put__17 : decode cX7_put_ 17 = .ok (.lconst 0, 1) := bdX7_put__0.2.2.2.2.2.2.2.2.2.2.1
theorem dX7_put__18 : decode cX7_put_ 18 = .ok (.lcmp, 1) := bdX7_put__0.2.2.2.2.2.2.2.2.2.2.2.1
theorem dX7_put__19 : decode cX7_put_ 19 = .ok (.ifCond .eq 36, 3) := bdX7_put__0.2.2.2.2.2.2.2.2.2.2.2.2.1
theorem dX7_put__22 : decode cX7_put_ 22 = .ok (.lload 4, 2) := bdX7_put__0.2.2.2.2.2.2.2.2.2.2.2.2.2.1
theorem dX7_put__24 : decode cX7_put_ 24 = .ok (.ldc2_w 191, 3) := bdX7_put__0.2.2.2.2.2.2.2.2.2.2.2.2.2.2.1
theorem dX7_put__27 : decode cX7_put_ 27 = .ok (.land, 1) := bdX7_put__0.2.2.2.2.2.2.2.2.2.2.2.2.2.2.2
theorem bdX7_put__28 : decode cX7_put_ 28 = .ok (.l2i, 1) ∧ decode cX7_put_ 29 = .ok (.bipush 33, 2) ∧ decode cX7_put_ 31 = .ok (.bipush 126, 2) ∧ decode cX7_put_ 33 = .ok (.invokestatic 35, 3) ∧ decode cX7_put_ 36 = .ok (.ifCond .ne 6, 3) ∧ decode cX7_put_ 39 = .ok (.bipush (-2), 2) ∧ decode cX7_put_ 41 = .ok (.ireturn, 1) ∧ decode cX7_put_ 42 = .ok (.iinc 3 1, 3) ∧ decode cX7_put_ 45 = .ok (.lload 4, 2) ∧ decode cX7_put_ 47 = .ok (.bipush 8, 2) ∧ decode cX7_put_ 49 = .ok (.lushr, 1) ∧ decode cX7_put_ 50 = .ok (.lstore 4, 2) ∧ decode cX7_put_ 52 = .ok (.goto (-47), 3) ∧ decode cX7_put_ 55 = .ok (.iload_n 3, 1) ∧ decode cX7_put_ 56 = .ok (.ifCond .eq 10, 3) ∧ decode cX7_put_ 59 = .ok (.lload 4, 2) := by decide +kernel
theorem dX7_put__28 : decode cX7_put_ 28 = .ok (.l2i, 1) := bdX7_put__28.1
theorem dX7_put__29 : decode cX7_put_ 29 = .ok (.bipush 33, 2) := bdX7_put__28.2.1
theorem dX7_put__31 : decode cX7_put_ 31 = .ok (.bipush 126, 2) := bdX7_put__28.2.2.1
theorem dX7_put__33 : decode cX7_put_ 33 = .ok (.invokestatic 35, 3) := bdX7_put__28.2.2.2.1
theorem dX7_put__36 : decode cX7_put_ 36 = .ok (.ifCond .ne 6, 3) := bdX7_put__28.2.2.2.2.1
theorem dX7_put__39 : decode cX7_put_ 39 = .ok (.bipush (-2), 2) := bdX7_put__28.2.2.2.2.2.1
theorem dX7_put__41 : decode cX7_put_ 41 = .ok (.ireturn, 1) := bdX7_put__28.2.2.2.2.2.2.1
theorem dX7_put__42 : decode cX7_put_ 42 = .ok (.iinc 3 1, 3) := bdX7_put__28.2.2.2.2.2.2.2.1
theorem dX7_put__45 : decode cX7_put_ 45 = .ok (.lload 4, 2) := bdX7_put__28.2.2.2.2.2.2.2.2.1
theorem dX7_put__47 : decode cX7_put_ 47 = .ok (.bipush 8, 2) := bdX7_put__28.2.2.2.2.2.2.2.2.2.1
theorem dX7_put__49 : decode cX7_put_ 49 = .ok (.lushr, 1) := bdX7_put__28.2.2.2.2.2.2.2.2.2.2.1
theorem dX7_put__50 : decode cX7_put_ 50 = .ok (.lstore 4, 2) := bdX7_put__28.2.2.2.2.2.2.2.2.2.2.2.1
theorem dX7_put__52 : decode cX7_put_ 52 = .ok (.goto (-47), 3) := bdX7_put__28.2.2.2.2.2.2.2.2.2.2.2.2.1
theorem dX7_put__55 : decode cX7_put_ 55 = .ok (.iload_n 3, 1) := bdX7_put__28.2.2.2.2.2.2.2.2.2.2.2.2.2.1
theorem dX7_put__56 : decode cX7_put_ 56 = .ok (.ifCond .eq 10, 3) := bdX7_put__28.2.2.2.2.2.2.2.2.2.2.2.2.2.2.1
theorem dX7_put__59 : decode cX7_put_ 59 = .ok (.lload 4, 2) := bdX7_put__28.2.2.2.2.2.2.2.2.2.2.2.2.2.2.2
theorem bdX7_put__61 : decode cX7_put_ 61 = .ok (.lconst 0, 1) ∧ decode cX7_put_ 62 = .ok (.lcmp, 1) ∧ decode cX7_put_ 63 = .ok (.ifCond .eq 6, 3) ∧ decode cX7_put_ 66 = .ok (.bipush (-2), 2) ∧ decode cX7_put_ 68 = .ok (.ireturn, 1) ∧ decode cX7_put_ 69 = .ok (.aload_n 0, 1) ∧ decode cX7_put_ 70 = .ok (.getfield 179, 3) ∧ decode cX7_put_ 73 = .ok (.iload_n 3, 1) ∧ decode cX7_put_ 74 = .ok (.iadd, 1) ∧ decode cX7_put_ 75 = .ok (.bipush 80, 2) ∧ decode cX7_put_ 77 = .ok (.if_icmp .le 6, 3) ∧ decode cX7_put_ 80 = .ok (.bipush (-4), 2) ∧ decode cX7_put_ 82 = .ok (.ireturn, 1) ∧ decode cX7_put_ 83 = .ok (.iconst 0, 1) ∧ decode cX7_put_ 84 = .ok (.istore 6, 2) ∧ decode cX7_put_ 86 = .ok (.iload 6, 2) := by decide +kernel
theorem dX7_put__61 : decode cX7_put_ 61 = .ok (.lconst 0, 1) := bdX7_put__61.1
theorem dX7_put__62 : decode cX7_put_ 62 = .ok (.lcmp, 1) := bdX7_put__61.2.1
theorem dX7_put__63 : decode cX7_put_ 63 = .ok (.ifCond .eq 6, 3) := bdX7_put__61.2.2.1
theorem dX7_put__66 : decode cX7_put_ 66 = .ok (.bipush (-2), 2) := bdX7_put__61.2.2.2.1
theorem dX7_put__68 : decode cX7_put_ 68 = .ok (.ireturn, 1) := bdX7_put__61.2.2.2.2.1
theorem dX7_put__69 : decode cX7_put_ 69 = .ok (.aload_n 0, 1) := bdX7_put__61.2.2.2.2.2.1
theorem dX7_put__70 : decode cX7_put_ 70 = .ok (.getfield 179, 3) := bdX7_put__61.2.2.2.2.2.2.1
theorem dX7_put__73 : decode cX7_put_ 73 = .ok (.iload_n 3, 1) := bdX7_put__61.2.2.2.2.2.2.2.1
theorem dX7_put__74 : decode cX7_put_ 74 = .ok (.iadd, 1) := bdX7_put__61.2.2.2.2.2.2.2.2.1
theorem dX7_put__75 : decode cX7_put_ 75 = .ok (.bipush 80, 2) := bdX7_put__61.2.2.2.2.2.2.2.2.2.1
theorem dX7_put__77 : decode cX7_put_ 77 = .ok (.if_icmp .le 6, 3) := bdX7_put__61.2.2.2.2.2.2.2.2.2.2.1
theorem dX7_put__80 : decode cX7_put_ 80 = .ok (.bipush (-4), 2) := bdX7_put__61.2.2.2.2.2.2.2.2.2.2.2.1
theorem dX7_put__82 : decode cX7_put_ 82 = .ok (.ireturn, 1) := bdX7_put__61.2.2.2.2.2.2.2.2.2.2.2.2.1
theorem dX7_put__83 : decode cX7_put_ 83 = .ok (.iconst 0, 1) := bdX7_put__61.2.2.2.2.2.2.2.2.2.2.2.2.2.1
theorem dX7_put__84 : decode cX7_put_ 84 = .ok (.istore 6, 2) := bdX7_put__61.2.2.2.2.2.2.2.2.2.2.2.2.2.2.1
theorem dX7_put__86 : decode cX7_put_ 86 = .ok (.iload 6, 2) := bdX7_put__61.2.2.2.2.2.2.2.2.2.2.2.2.2.2.2
theorem bdX7_put__88 : decode cX7_put_ 88 = .ok (.iload_n 3, 1) ∧ decode cX7_put_ 89 = .ok (.if_icmp .ge 37, 3) ∧ decode cX7_put_ 92 = .ok (.aload_n 0, 1) ∧ decode cX7_put_ 93 = .ok (.getfield 26, 3) ∧ decode cX7_put_ 96 = .ok (.aload_n 0, 1) ∧ decode cX7_put_ 97 = .ok (.getfield 179, 3) ∧ decode cX7_put_ 100 = .ok (.iload 6, 2) ∧ decode cX7_put_ 102 = .ok (.iadd, 1) ∧ decode cX7_put_ 103 = .ok (.lload_n 1, 1) ∧ decode cX7_put_ 104 = .ok (.bipush 8, 2) ∧ decode cX7_put_ 106 = .ok (.iload_n 3, 1) ∧ decode cX7_put_ 107 = .ok (.iconst 1, 1) ∧ decode cX7_put_ 108 = .ok (.isub, 1) ∧ decode cX7_put_ 109 = .ok (.iload 6, 2) ∧ decode cX7_put_ 111 = .ok (.isub, 1) ∧ decode cX7_put_ 112 = .ok (.imul, 1) := by decide +kernel
theorem dX7_put__88 : decode cX7_put_ 88 = .ok (.iload_n 3, 1) := bdX7_put__88.1
theorem dX7_put__89 : decode cX7_put_ 89 = .ok (.if_icmp .ge 37, 3) := bdX7_put__88.2.1
theorem dX7_put__92 : decode cX7_put_ 92 = .ok (.aload_n 0, 1) := bdX7_put__88.2.2.1
theorem dX7_put__93 : decode cX7_put_ 93 = .ok (.getfield 26, 3) := bdX7_put__88.2.2.2.1
theorem dX7_put__96 : decode cX7_put_ 96 = .ok (.aload_n 0, 1) := bdX7_put__88.2.2.2.2.1
theorem dX7_put__97 : decode cX7_put_ 97 = .ok (.getfield 179, 3) := bdX7_put__88.2.2.2.2.2.1
theorem dX7_put__100 : decode cX7_put_ 100 = .ok (.iload 6, 2) := bdX7_put__88.2.2.2.2.2.2.1
theorem dX7_put__102 : decode cX7_put_ 102 = .ok (.iadd, 1) := bdX7_put__88.2.2.2.2.2.2.2.1
theorem dX7_put__103 : decode cX7_put_ 103 = .ok (.lload_n 1, 1) := bdX7_put__88.2.2.2.2.2.2.2.2.1
theorem dX7_put__104 : decode cX7_put_ 104 = .ok (.bipush 8, 2) := bdX7_put__88.2.2.2.2.2.2.2.2.2.1
theorem dX7_put__106 : decode cX7_put_ 106 = .ok (.iload_n 3, 1) := bdX7_put__88.2.2.2.2.2.2.2.2.2.2.1
theorem dX7_put__107 : decode cX7_put_ 107 = .ok (.iconst 1, 1) := bdX7_put__88.2.2.2.2.2.2.2.2.2.2.2.1
theorem dX7_put__108 : decode cX7_put_ 108 = .ok (.isub, 1) := bdX7_put__88.2.2.2.2.2.2.2.2.2.2.2.2.1
theorem dX7_put__109 : decode cX7_put_ 109 = .ok (.iload 6, 2) := bdX7_put__88.2.2.2.2.2.2.2.2.2.2.2.2.2.1
theorem dX7_put__111 : decode cX7_put_ 111 = .ok (.isub, 1) := bdX7_put__88.2.2.2.2.2.2.2.2.2.2.2.2.2.2.1
theorem dX7_put__112 : decode cX7_put_ 112 = .ok (.imul, 1) := bdX7_put__88.2.2.2.2.2.2.2.2.2.2.2.2.2.2.2
theorem bdX7_put__113 : decode cX7_put_ 113 = .ok (.lshr, 1) ∧ decode cX7_put_ 114 = .ok (.ldc2_w 191, 3) ∧ decode cX7_put_ 117 = .ok (.land, 1) ∧ decode cX7_put_ 118 = .ok (.l2i, 1) ∧ decode cX7_put_ 119 = .ok (.iastore, 1) ∧ decode cX7_put_ 120 = .ok (.iinc 6 1, 3) ∧ decode cX7_put_ 123 = .ok (.goto (-37), 3) ∧ decode cX7_put_ 126 = .ok (.aload_n 0, 1) ∧ decode cX7_put_ 127 = .ok (.dup, 1) ∧ decode cX7_put_ 128 = .ok (.getfield 179, 3) ∧ decode cX7_put_ 131 = .ok (.iload_n 3, 1) ∧ decode cX7_put_ 132 = .ok (.iadd, 1) ∧ decode cX7_put_ 133 = .ok (.putfield 179, 3) ∧ decode cX7_put_ 136 = .ok (.aload_n 0, 1) ∧ decode cX7_put_ 137 = .ok (.getfield 179, 3) ∧ decode cX7_put_ 140 = .ok (.ireturn, 1) := by decide +kernel
theorem dX7_put__113 : decode cX7_put_ 113 = .ok (.lshr, 1) := bdX7_put__113.1
theorem dX7_put__114 : decode cX7_put_ 114 = .ok (.ldc2_w 191, 3) := bdX7_put__113.2.1
theorem dX7_put__117 : decode cX7_put_ 117 = .ok (.land, 1) := bdX7_put__113.2.2.1
theorem dX7_put__118 : decode cX7_put_ 118 = .ok (.l2i, 1) := bdX7_put__113.2.2.2.1
theorem dX7_put__119 : decode cX7_put_ 119 = .ok (.iastore, 1) := bdX7_put__113.2.2.2.2.1
theorem dX7_put__120 : decode cX7_put_ 120 = .ok (.iinc 6 1, 3) := bdX7_put__113.2.2.2.2.2.1
theorem dX7_put__123 : decode cX7_put_ 123 = .ok (.goto (-37), 3) := bdX7_put__113.2.2.2.2.2.2.1
theorem dX7_put__126 : decode cX7_put_ 126 = .ok (.aload_n 0, 1) := bdX7_put__113.2.2.2.2.2.2.2.1
theorem dX7_put__127 : decode cX7_put_ 127 = .ok (.dup, 1) := bdX7_put__113.2.2.2.2.2.2.2.2.1
theorem dX7_put__128 : decode cX7_put_ 128 = .ok (.getfield 179, 3) := bdX7_put__113.2.2.2.2.2.2.2.2.2.1
theorem dX7_put__131 : decode cX7_put_ 131 = .ok (.iload_n 3, 1) := bdX7_put__113.2.2.2.2.2.2.2.2.2.2.1
theorem dX7_put__132 : decode cX7_put_ 132 = .ok (.iadd, 1) := bdX7_put__113.2.2.2.2.2.2.2.2.2.2.2.1
theorem dX7_put__133 : decode cX7_put_ 133 = .ok (.putfield 179, 3) := bdX7_put__113.2.2.2.2.2.2.2.2.2.2.2.2.1
theorem dX7_put__136 : decode cX7_put_ 136 = .ok (.aload_n 0, 1) := bdX7_put__113.2.2.2.2.2.2.2.2.2.2.2.2.2.1
theorem dX7_put__137 : decode cX7_put_ 137 = .ok (.getfield 179, 3) := bdX7_put__113.2.2.2.2.2.2.2.2.2.2.2.2.2.2.1
theorem dX7_put__140 : decode cX7_put_ 140 = .ok (.ireturn, 1) := bdX7_put__113.2.2.2.2.2.2.2.2.2.2.2.2.2.2.2
theorem bdX7_wipe_0 : decode cX7_wipe 0 = .ok (.aload_n 0, 1) ∧ decode cX7_wipe 1 = .ok (.getfield 179, 3) ∧ decode cX7_wipe 4 = .ok (.istore_n 1, 1) ∧ decode cX7_wipe 5 = .ok (.aload_n 0, 1) ∧ decode cX7_wipe 6 = .ok (.iconst 0, 1) ∧ decode cX7_wipe 7 = .ok (.putfield 179, 3) ∧ decode cX7_wipe 10 = .ok (.iload_n 1, 1) ∧ decode cX7_wipe 11 = .ok (.ireturn, 1) := by decide +kernel
theorem dX7_wipe_0 : decode cX7_wipe 0 = .ok (.aload_n 0, 1) := bdX7_wipe_0.1
theorem dX7_wipe_1 : decode cX7_wipe 1 = .ok (.getfield 179, 3) := bdX7_wipe_0.2.1
theorem dX7_wipe_4 : decode cX7_wipe 4 = .ok (.istore_n 1, 1) := bdX7_wipe_0.2.2.1
theorem dX7_wipe_5 : decode cX7_wipe 5 = .ok (.aload_n 0, 1) := bdX7_wipe_0.2.2.2.1
theorem dX7_wipe_6 : decode cX7_wipe 6 = .ok (.iconst 0, 1) := bdX7_wipe_0.2.2.2.2.1
theorem dX7_wipe_7 : decode cX7_wipe 7 = .ok (.putfield 179, 3) := bdX7_wipe_0.2.2.2.2.2.1
theorem dX7_wipe_10 : decode cX7_wipe 10 = .ok (.iload_n 1, 1) := bdX7_wipe_0.2.2.2.2.2.2.1
theorem dX7_wipe_11 : decode cX7_wipe 11 = .ok (.ireturn, 1) := bdX7_wipe_0.2.2.2.2.2.2.2
theorem bdX7_next_0 : decode cX7_next 0 = .ok (.aload_n 0, 1) ∧ decode cX7_next 1 = .ok (.getfield 193, 3) ∧ decode cX7_next 4 = .ok (.aload_n 0, 1) ∧ decode cX7_next 5 = .ok (.getfield 179, 3) ∧ decode cX7_next 8 = .ok (.if_icmp .ge 15, 3) ∧ decode cX7_next 11 = .ok (.aload_n 0, 1) ∧ decode cX7_next 12 = .ok (.getfield 26, 3) ∧ decode cX7_next 15 = .ok (.aload_n 0, 1) ∧ decode cX7_next 16 = .ok (.getfield 193, 3) ∧ decode cX7_next 19 = .ok (.iaload, 1) ∧ decode cX7_next 20 = .ok (.goto 4, 3) ∧ decode cX7_next 23 = .ok (.iconst 0, 1) ∧ decode cX7_next 24 = .ok (.ireturn, 1) := by decide +kernel
theorem dX7_next_0 : decode cX7_next 0 = .ok (.aload_n 0, 1) := bdX7_next_0.1
theorem dX7_next_1 : decode cX7_next 1 = .ok (.getfield 193, 3) := bdX7_next_0.2.1
theorem dX7_next_4 : decode cX7_next 4 = .ok (.aload_n 0, 1) := bdX7_next_0.2.2.1
theorem dX7_next_5 : decode cX7_next 5 = .ok (.getfield 179, 3) := bdX7_next_0.2.2.2.1
theorem dX7_next_8 : decode cX7_next 8 = .ok (.if_icmp .ge 15, 3) := bdX7_next_0.2.2.2.2.1
theorem dX7_next_11 : decode cX7_next 11 = .ok (.aload_n 0, 1) := bdX7_next_0.2.2.2.2.2.1
theorem dX7_next_12 : decode cX7_next 12 = .ok (.getfield 26, 3) := bdX7_next_0.2.2.2.2.2.2.1
theorem dX7_next_15 : decode cX7_next 15 = .ok (.aload_n 0, 1) := bdX7_next_0.2.2.2.2.2.2.2.1
theorem dX7_next_16 : decode cX7_next 16 = .ok (.getfield 193, 3) := bdX7_next_0.2.2.2.2.2.2.2.2.1
theorem dX7_next_19 : decode cX7_next 19 = .ok (.iaload, 1) := bdX7_next_0.2.2.2.2.2.2.2.2.2.1
theorem dX7_next_20 : decode cX7_next 20 = .ok (.goto 4, 3) := bdX7_next_0.2.2.2.2.2.2.2.2.2.2.1
theorem dX7_next_23 : decode cX7_next 23 = .ok (.iconst 0, 1) := bdX7_next_0.2.2.2.2.2.2.2.2.2.2.2.1
theorem dX7_next_24 : decode cX7_next 24 = .ok (.ireturn, 1) := bdX7_next_0.2.2.2.2.2.2.2.2.2.2.2.2
theorem bdX7_takeOne_0 : decode cX7_takeOne 0 = .ok (.aload_n 0, 1) ∧ decode cX7_takeOne 1 = .ok (.aload_n 0, 1) ∧ decode cX7_takeOne 2 = .ok (.getfield 196, 3) ∧ decode cX7_takeOne 5 = .ok (.ifCond .ne 15, 3) ∧ decode cX7_takeOne 8 = .ok (.aload_n 0, 1) ∧ decode cX7_takeOne 9 = .ok (.invokevirtual 200, 3) ∧ decode cX7_takeOne 12 = .ok (.iload_n 2, 1) ∧ decode cX7_takeOne 13 = .ok (.iload_n 3, 1) ∧ decode cX7_takeOne 14 = .ok (.invokestatic 35, 3) ∧ decode cX7_takeOne 17 = .ok (.ifCond .ne 7, 3) ∧ decode cX7_takeOne 20 = .ok (.iconst 1, 1) ∧ decode cX7_takeOne 21 = .ok (.goto 4, 3) ∧ decode cX7_takeOne 24 = .ok (.iconst 0, 1) ∧ decode cX7_takeOne 25 = .ok (.putfield 196, 3) ∧ decode cX7_takeOne 28 = .ok (.aload_n 0, 1) ∧ decode cX7_takeOne 29 = .ok (.getfield 196, 3) := by decide +kernel
theorem dX7_takeOne_0 : decode cX7_takeOne 0 = .ok (.aload_n 0, 1) := bdX7_takeOne_0.1
theorem dX7_takeOne_1 : decode cX7_takeOne 1 = .ok (.aload_n 0, 1) := bdX7_takeOne_0.2.1
theorem dX7_takeOne_2 : decode cX7_takeOne 2 = .ok (.getfield 196, 3) := bdX7_takeOne_0.2.2.1
theorem dX7_takeOne_5 : decode cX7_takeOne 5 = .ok (.ifCond .ne 15, 3) := bdX7_takeOne_0.2.2.2.1
theorem dX7_takeOne_8 : decode cX7_takeOne 8 = .ok (.aload_n 0, 1) := bdX7_takeOne_0.2.2.2.2.1
theorem dX7_takeOne_9 : decode cX7_takeOne 9 = .ok (.invokevirtual 200, 3) := bdX7_takeOne_0.2.2.2.2.2.1
theorem dX7_takeOne_12 : decode cX7_takeOne 12 = .ok (.iload_n 2, 1) := bdX7_takeOne_0.2.2.2.2.2.2.1
theorem dX7_takeOne_13 : decode cX7_takeOne 13 = .ok (.iload_n 3, 1) := bdX7_takeOne_0.2.2.2.2.2.2.2.1
theorem dX7_takeOne_14 : decode cX7_takeOne 14 = .ok (.invokestatic 35, 3) := bdX7_takeOne_0.2.2.2.2.2.2.2.2.1
theorem dX7_takeOne_17 : decode cX7_takeOne 17 = .ok (.ifCond .ne 7, 3) := bdX7_takeOne_0.2.2.2.2.2.2.2.2.2.1
theorem dX7_takeOne_20 : decode cX7_takeOne 20 = .ok (.iconst 1, 1) := bdX7_takeOne_0.2.2.2.2.2.2.2.2.2.2.1
theorem dX7_takeOne_21 : decode cX7_takeOne 21 = .ok (.goto 4, 3) := bdX7_takeOne_0.2.2.2.2.2.2.2.2.2.2.2.1
theorem dX7_takeOne_24 : decode cX7_takeOne 24 = .ok (.iconst 0, 1) := bdX7_takeOne_0.2.2.2.2.2.2.2.2.2.2.2.2.1
theorem dX7_takeOne_25 : decode cX7_takeOne 25 = .ok (.putfield 196, 3) := bdX7_takeOne_0.2.2.2.2.2.2.2.2.2.2.2.2.2.1
theorem dX7_takeOne_28 : decode cX7_takeOne 28 = .ok (.aload_n 0, 1) := bdX7_takeOne_0.2.2.2.2.2.2.2.2.2.2.2.2.2.2.1
theorem dX7_takeOne_29 : decode cX7_takeOne 29 = .ok (.getfield 196, 3) := bdX7_takeOne_0.2.2.2.2.2.2.2.2.2.2.2.2.2.2.2
theorem bdX7_takeOne_32 : decode cX7_takeOne 32 = .ok (.ifCond .ne 32, 3) ∧ decode cX7_takeOne 35 = .ok (.aload_n 0, 1) ∧ decode cX7_takeOne 36 = .ok (.getfield 32, 3) ∧ decode cX7_takeOne 39 = .ok (.iconst 4, 1) ∧ decode cX7_takeOne 40 = .ok (.aload_n 0, 1) ∧ decode cX7_takeOne 41 = .ok (.getfield 203, 3) ∧ decode cX7_takeOne 44 = .ok (.imul, 1) ∧ decode cX7_takeOne 45 = .ok (.iload_n 1, 1) ∧ decode cX7_takeOne 46 = .ok (.iadd, 1) ∧ decode cX7_takeOne 47 = .ok (.aload_n 0, 1) ∧ decode cX7_takeOne 48 = .ok (.invokevirtual 200, 3) ∧ decode cX7_takeOne 51 = .ok (.iload_n 2, 1) ∧ decode cX7_takeOne 52 = .ok (.isub, 1) ∧ decode cX7_takeOne 53 = .ok (.iastore, 1) ∧ decode cX7_takeOne 54 = .ok (.aload_n 0, 1) ∧ decode cX7_takeOne 55 = .ok (.dup, 1) := by decide +kernel
theorem dX7_takeOne_32 : decode cX7_takeOne 32 = .ok (.ifCond .ne 32, 3) := bdX7_takeOne_32.1
theorem dX7_takeOne_35 : decode cX7_takeOne 35 = .ok (.aload_n 0, 1) := bdX7_takeOne_32.2.1
theorem dX7_takeOne_36 : decode cX7_takeOne 36 = .ok (.getfield 32, 3) := bdX7_takeOne_32.2.2.1
theorem dX7_takeOne_39 : decode cX7_takeOne 39 = .ok (.iconst 4, 1) := bdX7_takeOne_32.2.2.2.1
theorem dX7_takeOne_40 : decode cX7_takeOne 40 = .ok (.aload_n 0, 1) := bdX7_takeOne_32.2.2.2.2.1
theorem dX7_takeOne_41 : decode cX7_takeOne 41 = .ok (.getfield 203, 3) := bdX7_takeOne_32.2.2.2.2.2.1
theorem dX7_takeOne_44 : decode cX7_takeOne 44 = .ok (.imul, 1) := bdX7_takeOne_32.2.2.2.2.2.2.1
theorem dX7_takeOne_45 : decode cX7_takeOne 45 = .ok (.iload_n 1, 1) := bdX7_takeOne_32.2.2.2.2.2.2.2.1
theorem dX7_takeOne_46 : decode cX7_takeOne 46 = .ok (.iadd, 1) := bdX7_takeOne_32.2.2.2.2.2.2.2.2.1
theorem dX7_takeOne_47 : decode cX7_takeOne 47 = .ok (.aload_n 0, 1) := bdX7_takeOne_32.2.2.2.2.2.2.2.2.2.1
theorem dX7_takeOne_48 : decode cX7_takeOne 48 = .ok (.invokevirtual 200, 3) := bdX7_takeOne_32.2.2.2.2.2.2.2.2.2.2.1
theorem dX7_takeOne_51 : decode cX7_takeOne 51 = .ok (.iload_n 2, 1) := bdX7_takeOne_32.2.2.2.2.2.2.2.2.2.2.2.1
theorem dX7_takeOne_52 : decode cX7_takeOne 52 = .ok (.isub, 1) := bdX7_takeOne_32.2.2.2.2.2.2.2.2.2.2.2.2.1
theorem dX7_takeOne_53 : decode cX7_takeOne 53 = .ok (.iastore, 1) := bdX7_takeOne_32.2.2.2.2.2.2.2.2.2.2.2.2.2.1
theorem dX7_takeOne_54 : decode cX7_takeOne 54 = .ok (.aload_n 0, 1) := bdX7_takeOne_32.2.2.2.2.2.2.2.2.2.2.2.2.2.2.1
theorem dX7_takeOne_55 : decode cX7_takeOne 55 = .ok (.dup, 1) := bdX7_takeOne_32.2.2.2.2.2.2.2.2.2.2.2.2.2.2.2
theorem bdX7_takeOne_56 : decode cX7_takeOne 56 = .ok (.getfield 193, 3) ∧ decode cX7_takeOne 59 = .ok (.iconst 1, 1) ∧ decode cX7_takeOne 60 = .ok (.iadd, 1) ∧ decode cX7_takeOne 61 = .ok (.putfield 193, 3) ∧ decode cX7_takeOne 64 = .ok (.return_, 1) := by decide +kernel
theorem dX7_takeOne_56 : decode cX7_takeOne 56 = .ok (.getfield 193, 3) := bdX7_takeOne_56.1
theorem dX7_takeOne_59 : decode cX7_takeOne 59 = .ok (.iconst 1, 1) := bdX7_takeOne_56.2.1
theorem dX7_takeOne_60 : decode cX7_takeOne 60 = .ok (.iadd, 1) := bdX7_takeOne_56.2.2.1
theorem dX7_takeOne_61 : decode cX7_takeOne 61 = .ok (.putfield 193, 3) := bdX7_takeOne_56.2.2.2.1
theorem dX7_takeOne_64 : decode cX7_takeOne 64 = .ok (.return_, 1) := bdX7_takeOne_56.2.2.2.2
theorem bdX7_takeNumber_0 : decode cX7_takeNumber 0 = .ok (.aload_n 0, 1) ∧ decode cX7_takeNumber 1 = .ok (.iconst 0, 1) ∧ decode cX7_takeNumber 2 = .ok (.bipush 48, 2) ∧ decode cX7_takeNumber 4 = .ok (.bipush 57, 2) ∧ decode cX7_takeNumber 6 = .ok (.invokevirtual 206, 3) ∧ decode cX7_takeNumber 9 = .ok (.iconst 4, 1) ∧ decode cX7_takeNumber 10 = .ok (.aload_n 0, 1) ∧ decode cX7_takeNumber 11 = .ok (.getfield 203, 3) ∧ decode cX7_takeNumber 14 = .ok (.imul, 1) ∧ decode cX7_takeNumber 15 = .ok (.istore_n 1, 1) ∧ decode cX7_takeNumber 16 = .ok (.aload_n 0, 1) ∧ decode cX7_takeNumber 17 = .ok (.getfield 196, 3) ∧ decode cX7_takeNumber 20 = .ok (.ifCond .ne 74, 3) ∧ decode cX7_takeNumber 23 = .ok (.aload_n 0, 1) ∧ decode cX7_takeNumber 24 = .ok (.getfield 32, 3) ∧ decode cX7_takeNumber 27 = .ok (.iload_n 1, 1) := by decide +kernel
theorem dX7_takeNumber_0 : decode cX7_takeNumber 0 = .ok (.aload_n 0, 1) := bdX7_takeNumber_0.1
theorem dX7_takeNumber_1 : decode cX7_takeNumber 1 = .ok (.iconst 0, 1) := bdX7_takeNumber_0.2.1
theorem dX7_takeNumber_2 : decode cX7_takeNumber 2 = .ok (.bipush 48, 2) := bdX7_takeNumber_0.2.2.1
theorem dX7_takeNumber_4 : decode cX7_takeNumber 4 = .ok (.bipush 57, 2) := bdX7_takeNumber_0.2.2.2.1
theorem dX7_takeNumber_6 : decode cX7_takeNumber 6 = .ok (.invokevirtual 206, 3) := bdX7_takeNumber_0.2.2.2.2.1
theorem dX7_takeNumber_9 : decode cX7_takeNumber 9 = .ok (.iconst 4, 1) := bdX7_takeNumber_0.2.2.2.2.2.1
theorem dX7_takeNumber_10 : decode cX7_takeNumber 10 = .ok (.aload_n 0, 1) := bdX7_takeNumber_0.2.2.2.2.2.2.1
theorem dX7_takeNumber_11 : decode cX7_takeNumber 11 = .ok (.getfield 203, 3) := bdX7_takeNumber_0.2.2.2.2.2.2.2.1
theorem dX7_takeNumber_14 : decode cX7_takeNumber 14 = .ok (.imul, 1) := bdX7_takeNumber_0.2.2.2.2.2.2.2.2.1
theorem dX7_takeNumber_15 : decode cX7_takeNumber 15 = .ok (.istore_n 1, 1) := bdX7_takeNumber_0.2.2.2.2.2.2.2.2.2.1
theorem dX7_takeNumber_16 : decode cX7_takeNumber 16 = .ok (.aload_n 0, 1) := bdX7_takeNumber_0.2.2.2.2.2.2.2.2.2.2.1
theorem dX7_takeNumber_17 : decode cX7_takeNumber 17 = .ok (.getfield 196, 3) := bdX7_takeNumber_0.2.2.2.2.2.2.2.2.2.2.2.1
theorem dX7_takeNumber_20 : decode cX7_takeNumber 20 = .ok (.ifCond .ne 74, 3) := bdX7_takeNumber_0.2.2.2.2.2.2.2.2.2.2.2.2.1
theorem dX7_takeNumber_23 : decode cX7_takeNumber 23 = .ok (.aload_n 0, 1) := bdX7_takeNumber_0.2.2.2.2.2.2.2.2.2.2.2.2.2.1
theorem dX7_takeNumber_24 : decode cX7_takeNumber 24 = .ok (.getfield 32, 3) := bdX7_takeNumber_0.2.2.2.2.2.2.2.2.2.2.2.2.2.2.1
theorem dX7_takeNumber_27 : decode cX7_takeNumber 27 = .ok (.iload_n 1, 1) := bdX7_takeNumber_0.2.2.2.2.2.2.2.2.2.2.2.2.2.2.2
theorem bdX7_takeNumber_28 : decode cX7_takeNumber 28 = .ok (.iaload, 1) ∧ decode cX7_takeNumber 29 = .ok (.ifCond .le 65, 3) ∧ decode cX7_takeNumber 32 = .ok (.aload_n 0, 1) ∧ decode cX7_takeNumber 33 = .ok (.invokevirtual 200, 3) ∧ decode cX7_takeNumber 36 = .ok (.bipush 48, 2) ∧ decode cX7_takeNumber 38 = .ok (.bipush 57, 2) ∧ decode cX7_takeNumber 40 = .ok (.invokestatic 35, 3) ∧ decode cX7_takeNumber 43 = .ok (.ifCond .eq 51, 3) ∧ decode cX7_takeNumber 46 = .ok (.aload_n 0, 1) ∧ decode cX7_takeNumber 47 = .ok (.getfield 32, 3) ∧ decode cX7_takeNumber 50 = .ok (.iload_n 1, 1) ∧ decode cX7_takeNumber 51 = .ok (.bipush 10, 2) ∧ decode cX7_takeNumber 53 = .ok (.aload_n 0, 1) ∧ decode cX7_takeNumber 54 = .ok (.getfield 32, 3) ∧ decode cX7_takeNumber 57 = .ok (.iload_n 1, 1) ∧ decode cX7_takeNumber 58 = .ok (.iaload, 1) := by decide +kernel
theorem dX7_takeNumber_28 : decode cX7_takeNumber 28 = .ok (.iaload, 1) := bdX7_takeNumber_28.1
theorem dX7_takeNumber_29 : decode cX7_takeNumber 29 = .ok (.ifCond .le 65, 3) := bdX7_takeNumber_28.2.1
theorem dX7_takeNumber_32 : decode cX7_takeNumber 32 = .ok (.aload_n 0, 1) := bdX7_takeNumber_28.2.2.1
theorem dX7_takeNumber_33 : decode cX7_takeNumber 33 = .ok (.invokevirtual 200, 3) := bdX7_takeNumber_28.2.2.2.1
theorem dX7_takeNumber_36 : decode cX7_takeNumber 36 = .ok (.bipush 48, 2) := bdX7_takeNumber_28.2.2.2.2.1
theorem dX7_takeNumber_38 : decode cX7_takeNumber 38 = .ok (.bipush 57, 2) := bdX7_takeNumber_28.2.2.2.2.2.1
theorem dX7_takeNumber_40 : decode cX7_takeNumber 40 = .ok (.invokestatic 35, 3) := bdX7_takeNumber_28.2.2.2.2.2.2.1
theorem dX7_takeNumber_43 : decode cX7_takeNumber 43 = .ok (.ifCond .eq 51, 3) := bdX7_takeNumber_28.2.2.2.2.2.2.2.1
theorem dX7_takeNumber_46 : decode cX7_takeNumber 46 = .ok (.aload_n 0, 1) := bdX7_takeNumber_28.2.2.2.2.2.2.2.2.1
theorem dX7_takeNumber_47 : decode cX7_takeNumber 47 = .ok (.getfield 32, 3) := bdX7_takeNumber_28.2.2.2.2.2.2.2.2.2.1
theorem dX7_takeNumber_50 : decode cX7_takeNumber 50 = .ok (.iload_n 1, 1) := bdX7_takeNumber_28.2.2.2.2.2.2.2.2.2.2.1
theorem dX7_takeNumber_51 : decode cX7_takeNumber 51 = .ok (.bipush 10, 2) := bdX7_takeNumber_28.2.2.2.2.2.2.2.2.2.2.2.1
theorem dX7_takeNumber_53 : decode cX7_takeNumber 53 = .ok (.aload_n 0, 1) := bdX7_takeNumber_28.2.2.2.2.2.2.2.2.2.2.2.2.1
theorem dX7_takeNumber_54 : decode cX7_takeNumber 54 = .ok (.getfield 32, 3) := bdX7_takeNumber_28.2.2.2.2.2.2.2.2.2.2.2.2.2.1
theorem dX7_takeNumber_57 : decode cX7_takeNumber 57 = .ok (.iload_n 1, 1) := bdX7_takeNumber_28.2.2.2.2.2.2.2.2.2.2.2.2.2.2.1
theorem dX7_takeNumber_58 : decode cX7_takeNumber 58 = .ok (.iaload, 1) := bdX7_takeNumber_28.2.2.2.2.2.2.2.2.2.2.2.2.2.2.2
theorem bdX7_takeNumber_59 : decode cX7_takeNumber 59 = .ok (.imul, 1) ∧ decode cX7_takeNumber 60 = .ok (.aload_n 0, 1) ∧ decode cX7_takeNumber 61 = .ok (.invokevirtual 200, 3) ∧ decode cX7_takeNumber 64 = .ok (.iadd, 1) ∧ decode cX7_takeNumber 65 = .ok (.bipush 48, 2) ∧ decode cX7_takeNumber 67 = .ok (.isub, 1) ∧ decode cX7_takeNumber 68 = .ok (.iastore, 1) ∧ decode cX7_takeNumber 69 = .ok (.aload_n 0, 1) ∧ decode cX7_takeNumber 70 = .ok (.dup, 1) ∧ decode cX7_takeNumber 71 = .ok (.getfield 193, 3) ∧ decode cX7_takeNumber 74 = .ok (.iconst 1, 1) ∧ decode cX7_takeNumber 75 = .ok (.iadd, 1) ∧ decode cX7_takeNumber 76 = .ok (.putfield 193, 3) ∧ decode cX7_takeNumber 79 = .ok (.aload_n 0, 1) ∧ decode cX7_takeNumber 80 = .ok (.aload_n 0, 1) ∧ decode cX7_takeNumber 81 = .ok (.invokevirtual 200, 3) := by decide +kernel
theorem dX7_takeNumber_59 : decode cX7_takeNumber 59 = .ok (.imul, 1) := bdX7_takeNumber_59.1
theorem dX7_takeNumber_60 : decode cX7_takeNumber 60 = .ok (.aload_n 0, 1) := bdX7_takeNumber_59.2.1
theorem dX7_takeNumber_61 : decode cX7_takeNumber 61 = .ok (.invokevirtual 200, 3) := bdX7_takeNumber_59.2.2.1
theorem dX7_takeNumber_64 : decode cX7_takeNumber 64 = .ok (.iadd, 1) := bdX7_takeNumber_59.2.2.2.1
theorem dX7_takeNumber_65 : decode cX7_takeNumber 65 = .ok (.bipush 48, 2) := bdX7_takeNumber_59.2.2.2.2.1
theorem dX7_takeNumber_67 : decode cX7_takeNumber 67 = .ok (.isub, 1) := bdX7_takeNumber_59.2.2.2.2.2.1
theorem dX7_takeNumber_68 : decode cX7_takeNumber 68 = .ok (.iastore, 1) := bdX7_takeNumber_59.2.2.2.2.2.2.1
theorem dX7_takeNumber_69 : decode cX7_takeNumber 69 = .ok (.aload_n 0, 1) := bdX7_takeNumber_59.2.2.2.2.2.2.2.1
theorem dX7_takeNumber_70 : decode cX7_takeNumber 70 = .ok (.dup, 1) := bdX7_takeNumber_59.2.2.2.2.2.2.2.2.1
theorem dX7_takeNumber_71 : decode cX7_takeNumber 71 = .ok (.getfield 193, 3) := bdX7_takeNumber_59.2.2.2.2.2.2.2.2.2.1
theorem dX7_takeNumber_74 : decode cX7_takeNumber 74 = .ok (.iconst 1, 1) := bdX7_takeNumber_59.2.2.2.2.2.2.2.2.2.2.1
theorem dX7_takeNumber_75 : decode cX7_takeNumber 75 = .ok (.iadd, 1) := bdX7_takeNumber_59.2.2.2.2.2.2.2.2.2.2.2.1
theorem dX7_takeNumber_76 : decode cX7_takeNumber 76 = .ok (.putfield 193, 3) := bdX7_takeNumber_59.2.2.2.2.2.2.2.2.2.2.2.2.1
theorem dX7_takeNumber_79 : decode cX7_takeNumber 79 = .ok (.aload_n 0, 1) := bdX7_takeNumber_59.2.2.2.2.2.2.2.2.2.2.2.2.2.1
theorem dX7_takeNumber_80 : decode cX7_takeNumber 80 = .ok (.aload_n 0, 1) := bdX7_takeNumber_59.2.2.2.2.2.2.2.2.2.2.2.2.2.2.1
theorem dX7_takeNumber_81 : decode cX7_takeNumber 81 = .ok (.invokevirtual 200, 3) := bdX7_takeNumber_59.2.2.2.2.2.2.2.2.2.2.2.2.2.2.2
theorem bdX7_takeNumber_84 : decode cX7_takeNumber 84 = .ok (.bipush 48, 2) ∧ decode cX7_takeNumber 86 = .ok (.bipush 57, 2) ∧ decode cX7_takeNumber 88 = .ok (.invokestatic 35, 3) ∧ decode cX7_takeNumber 91 = .ok (.putfield 196, 3) ∧ decode cX7_takeNumber 94 = .ok (.return_, 1) := by decide +kernel
theorem dX7_takeNumber_84 : decode cX7_takeNumber 84 = .ok (.bipush 48, 2) := bdX7_takeNumber_84.1
theorem dX7_takeNumber_86 : decode cX7_takeNumber 86 = .ok (.bipush 57, 2) := bdX7_takeNumber_84.2.1
theorem dX7_takeNumber_88 : decode cX7_takeNumber 88 = .ok (.invokestatic 35, 3) := bdX7_takeNumber_84.2.2.1
theorem dX7_takeNumber_91 : decode cX7_takeNumber 91 = .ok (.putfield 196, 3) := bdX7_takeNumber_84.2.2.2.1
theorem dX7_takeNumber_94 : decode cX7_takeNumber 94 = .ok (.return_, 1) := bdX7_takeNumber_84.2.2.2.2
theorem bdX7_takeWishes_0 : decode cX7_takeWishes 0 = .ok (.aload_n 0, 1) ∧ decode cX7_takeWishes 1 = .ok (.iconst 0, 1) ∧ decode cX7_takeWishes 2 = .ok (.bipush 65, 2) ∧ decode cX7_takeWishes 4 = .ok (.bipush 80, 2) ∧ decode cX7_takeWishes 6 = .ok (.invokevirtual 206, 3) ∧ decode cX7_takeWishes 9 = .ok (.iconst 1, 1) ∧ decode cX7_takeWishes 10 = .ok (.istore_n 1, 1) ∧ decode cX7_takeWishes 11 = .ok (.iload_n 1, 1) ∧ decode cX7_takeWishes 12 = .ok (.iconst 3, 1) ∧ decode cX7_takeWishes 13 = .ok (.if_icmp .gt 54, 3) ∧ decode cX7_takeWishes 16 = .ok (.aload_n 0, 1) ∧ decode cX7_takeWishes 17 = .ok (.getfield 32, 3) ∧ decode cX7_takeWishes 20 = .ok (.iconst 4, 1) ∧ decode cX7_takeWishes 21 = .ok (.aload_n 0, 1) ∧ decode cX7_takeWishes 22 = .ok (.getfield 203, 3) ∧ decode cX7_takeWishes 25 = .ok (.imul, 1) := by decide +kernel
theorem dX7_takeWishes_0 : decode cX7_takeWishes 0 = .ok (.aload_n 0, 1) := bdX7_takeWishes_0.1
theorem dX7_takeWishes_1 : decode cX7_takeWishes 1 = .ok (.iconst 0, 1) := bdX7_takeWishes_0.2.1
theorem dX7_takeWishes_2 : decode cX7_takeWishes 2 = .ok (.bipush 65, 2) := bdX7_takeWishes_0.2.2.1
theorem dX7_takeWishes_4 : decode cX7_takeWishes 4 = .ok (.bipush 80, 2) := bdX7_takeWishes_0.2.2.2.1
theorem dX7_takeWishes_6 : decode cX7_takeWishes 6 = .ok (.invokevirtual 206, 3) := bdX7_takeWishes_0.2.2.2.2.1
theorem dX7_takeWishes_9 : decode cX7_takeWishes 9 = .ok (.iconst 1, 1) := bdX7_takeWishes_0.2.2.2.2.2.1
theorem dX7_takeWishes_10 : decode cX7_takeWishes 10 = .ok (.istore_n 1, 1) := bdX7_takeWishes_0.2.2.2.2.2.2.1
theorem dX7_takeWishes_11 : decode cX7_takeWishes 11 = .ok (.iload_n 1, 1) := bdX7_takeWishes_0.2.2.2.2.2.2.2.1
theorem dX7_takeWishes_12 : decode cX7_takeWishes 12 = .ok (.iconst 3, 1) := bdX7_takeWishes_0.2.2.2.2.2.2.2.2.1
theorem dX7_takeWishes_13 : decode cX7_takeWishes 13 = .ok (.if_icmp .gt 54, 3) := bdX7_takeWishes_0.2.2.2.2.2.2.2.2.2.1
theorem dX7_takeWishes_16 : decode cX7_takeWishes 16 = .ok (.aload_n 0, 1) := bdX7_takeWishes_0.2.2.2.2.2.2.2.2.2.2.1
theorem dX7_takeWishes_17 : decode cX7_takeWishes 17 = .ok (.getfield 32, 3) := bdX7_takeWishes_0.2.2.2.2.2.2.2.2.2.2.2.1
theorem dX7_takeWishes_20 : decode cX7_takeWishes 20 = .ok (.iconst 4, 1) := bdX7_takeWishes_0.2.2.2.2.2.2.2.2.2.2.2.2.1
theorem dX7_takeWishes_21 : decode cX7_takeWishes 21 = .ok (.aload_n 0, 1) := bdX7_takeWishes_0.2.2.2.2.2.2.2.2.2.2.2.2.2.1
theorem dX7_takeWishes_22 : decode cX7_takeWishes 22 = .ok (.getfield 203, 3) := bdX7_takeWishes_0.2.2.2.2.2.2.2.2.2.2.2.2.2.2.1
theorem dX7_takeWishes_25 : decode cX7_takeWishes 25 = .ok (.imul, 1) := bdX7_takeWishes_0.2.2.2.2.2.2.2.2.2.2.2.2.2.2.2
theorem bdX7_takeWishes_26 : decode cX7_takeWishes 26 = .ok (.iload_n 1, 1) ∧ decode cX7_takeWishes 27 = .ok (.iadd, 1) ∧ decode cX7_takeWishes 28 = .ok (.bipush (-6), 2) ∧ decode cX7_takeWishes 30 = .ok (.iastore, 1) ∧ decode cX7_takeWishes 31 = .ok (.aload_n 0, 1) ∧ decode cX7_takeWishes 32 = .ok (.getfield 196, 3) ∧ decode cX7_takeWishes 35 = .ok (.ifCond .ne 26, 3) ∧ decode cX7_takeWishes 38 = .ok (.aload_n 0, 1) ∧ decode cX7_takeWishes 39 = .ok (.invokevirtual 200, 3) ∧ decode cX7_takeWishes 42 = .ok (.bipush 48, 2) ∧ decode cX7_takeWishes 44 = .ok (.bipush 57, 2) ∧ decode cX7_takeWishes 46 = .ok (.invokestatic 35, 3) ∧ decode cX7_takeWishes 49 = .ok (.ifCond .eq 12, 3) ∧ decode cX7_takeWishes 52 = .ok (.aload_n 0, 1) ∧ decode cX7_takeWishes 53 = .ok (.iload_n 1, 1) ∧ decode cX7_takeWishes 54 = .ok (.bipush 48, 2) := by decide +kernel
theorem dX7_takeWishes_26 : decode cX7_takeWishes 26 = .ok (.iload_n 1, 1) := bdX7_takeWishes_26.1
theorem dX7_takeWishes_27 : decode cX7_takeWishes 27 = .ok (.iadd, 1) := bdX7_takeWishes_26.2.1
theorem dX7_takeWishes_28 : decode cX7_takeWishes 28 = .ok (.bipush (-6), 2) := bdX7_takeWishes_26.2.2.1
theorem dX7_takeWishes_30 : decode cX7_takeWishes 30 = .ok (.iastore, 1) := bdX7_takeWishes_26.2.2.2.1
theorem dX7_takeWishes_31 : decode cX7_takeWishes 31 = .ok (.aload_n 0, 1) := bdX7_takeWishes_26.2.2.2.2.1
theorem dX7_takeWishes_32 : decode cX7_takeWishes 32 = .ok (.getfield 196, 3) := bdX7_takeWishes_26.2.2.2.2.2.1
theorem dX7_takeWishes_35 : decode cX7_takeWishes 35 = .ok (.ifCond .ne 26, 3) := bdX7_takeWishes_26.2.2.2.2.2.2.1
theorem dX7_takeWishes_38 : decode cX7_takeWishes 38 = .ok (.aload_n 0, 1) := bdX7_takeWishes_26.2.2.2.2.2.2.2.1
theorem dX7_takeWishes_39 : decode cX7_takeWishes 39 = .ok (.invokevirtual 200, 3) := bdX7_takeWishes_26.2.2.2.2.2.2.2.2.1
theorem dX7_takeWishes_42 : decode cX7_takeWishes 42 = .ok (.bipush 48, 2) := bdX7_takeWishes_26.2.2.2.2.2.2.2.2.2.1
theorem dX7_takeWishes_44 : decode cX7_takeWishes 44 = .ok (.bipush 57, 2) := bdX7_takeWishes_26.2.2.2.2.2.2.2.2.2.2.1
theorem dX7_takeWishes_46 : decode cX7_takeWishes 46 = .ok (.invokestatic 35, 3) := bdX7_takeWishes_26.2.2.2.2.2.2.2.2.2.2.2.1
theorem dX7_takeWishes_49 : decode cX7_takeWishes 49 = .ok (.ifCond .eq 12, 3) := bdX7_takeWishes_26.2.2.2.2.2.2.2.2.2.2.2.2.1
theorem dX7_takeWishes_52 : decode cX7_takeWishes 52 = .ok (.aload_n 0, 1) := bdX7_takeWishes_26.2.2.2.2.2.2.2.2.2.2.2.2.2.1
theorem dX7_takeWishes_53 : decode cX7_takeWishes 53 = .ok (.iload_n 1, 1) := bdX7_takeWishes_26.2.2.2.2.2.2.2.2.2.2.2.2.2.2.1
theorem dX7_takeWishes_54 : decode cX7_takeWishes 54 = .ok (.bipush 48, 2) := bdX7_takeWishes_26.2.2.2.2.2.2.2.2.2.2.2.2.2.2.2
theorem bdX7_takeWishes_56 : decode cX7_takeWishes 56 = .ok (.bipush 57, 2) ∧ decode cX7_takeWishes 58 = .ok (.invokevirtual 206, 3) ∧ decode cX7_takeWishes 61 = .ok (.iinc 1 1, 3) ∧ decode cX7_takeWishes 64 = .ok (.goto (-53), 3) ∧ decode cX7_takeWishes 67 = .ok (.return_, 1) := by decide +kernel
theorem dX7_takeWishes_56 : decode cX7_takeWishes 56 = .ok (.bipush 57, 2) := bdX7_takeWishes_56.1
theorem dX7_takeWishes_58 : decode cX7_takeWishes 58 = .ok (.invokevirtual 206, 3) := bdX7_takeWishes_56.2.1
theorem dX7_takeWishes_61 : decode cX7_takeWishes 61 = .ok (.iinc 1 1, 3) := bdX7_takeWishes_56.2.2.1
theorem dX7_takeWishes_64 : decode cX7_takeWishes 64 = .ok (.goto (-53), 3) := bdX7_takeWishes_56.2.2.2.1
theorem dX7_takeWishes_67 : decode cX7_takeWishes 67 = .ok (.return_, 1) := bdX7_takeWishes_56.2.2.2.2
theorem bdX7_takeOrder_0 : decode cX7_takeOrder 0 = .ok (.aload_n 0, 1) ∧ decode cX7_takeOrder 1 = .ok (.invokevirtual 200, 3) ∧ decode cX7_takeOrder 4 = .ok (.istore_n 1, 1) ∧ decode cX7_takeOrder 5 = .ok (.aload_n 0, 1) ∧ decode cX7_takeOrder 6 = .ok (.dup, 1) ∧ decode cX7_takeOrder 7 = .ok (.getfield 193, 3) ∧ decode cX7_takeOrder 10 = .ok (.iconst 1, 1) ∧ decode cX7_takeOrder 11 = .ok (.iadd, 1) ∧ decode cX7_takeOrder 12 = .ok (.putfield 193, 3) ∧ decode cX7_takeOrder 15 = .ok (.iload_n 1, 1) ∧ decode cX7_takeOrder 16 = .ok (.lookupswitch 120 #[(99, 80), (100, 113), (102, 59), (115, 92), (119, 52)], 52) ∧ decode cX7_takeOrder 68 = .ok (.aload_n 0, 1) ∧ decode cX7_takeOrder 69 = .ok (.invokevirtual 209, 3) ∧ decode cX7_takeOrder 72 = .ok (.goto 79, 3) ∧ decode cX7_takeOrder 75 = .ok (.aload_n 0, 1) ∧ decode cX7_takeOrder 76 = .ok (.iconst 0, 1) := by decide +kernel
theorem dX7_takeOrder_0 : decode cX7_takeOrder 0 = .ok (.aload_n 0, 1) := bdX7_takeOrder_0.1
theorem dX7_takeOrder_1 : decode cX7_takeOrder 1 = .ok (.invokevirtual 200, 3) := bdX7_takeOrder_0.2.1
theorem dX7_takeOrder_4 : decode cX7_takeOrder 4 = .ok (.istore_n 1, 1) := bdX7_takeOrder_0.2.2.1
theorem dX7_takeOrder_5 : decode cX7_takeOrder 5 = .ok (.aload_n 0, 1) := bdX7_takeOrder_0.2.2.2.1
theorem dX7_takeOrder_6 : decode cX7_takeOrder 6 = .ok (.dup, 1) := bdX7_takeOrder_0.2.2.2.2.1
theorem dX7_takeOrder_7 : decode cX7_takeOrder 7 = .ok (.getfield 193, 3) := bdX7_takeOrder_0.2.2.2.2.2.1
theorem dX7_takeOrder_10 : decode cX7_takeOrder 10 = .ok (.iconst 1, 1) := bdX7_takeOrder_0.2.2.2.2.2.2.1
theorem dX7_takeOrder_11 : decode cX7_takeOrder 11 = .ok (.iadd, 1) := bdX7_takeOrder_0.2.2.2.2.2.2.2.1
theorem dX7_takeOrder_12 : decode cX7_takeOrder 12 = .ok (.putfield 193, 3) := bdX7_takeOrder_0.2.2.2.2.2.2.2.2.1
theorem dX7_takeOrder_15 : decode cX7_takeOrder 15 = .ok (.iload_n 1, 1) := bdX7_takeOrder_0.2.2.2.2.2.2.2.2.2.1
theorem dX7_takeOrder_16 : decode cX7_takeOrder 16 = .ok (.lookupswitch 120 #[(99, 80), (100, 113), (102, 59), (115, 92), (119, 52)], 52) := bdX7_takeOrder_0.2.2.2.2.2.2.2.2.2.2.1
theorem dX7_takeOrder_68 : decode cX7_takeOrder 68 = .ok (.aload_n 0, 1) := bdX7_takeOrder_0.2.2.2.2.2.2.2.2.2.2.2.1
theorem dX7_takeOrder_69 : decode cX7_takeOrder 69 = .ok (.invokevirtual 209, 3) := bdX7_takeOrder_0.2.2.2.2.2.2.2.2.2.2.2.2.1
theorem dX7_takeOrder_72 : decode cX7_takeOrder 72 = .ok (.goto 79, 3) := bdX7_takeOrder_0.2.2.2.2.2.2.2.2.2.2.2.2.2.1
theorem dX7_takeOrder_75 : decode cX7_takeOrder 75 = .ok (.aload_n 0, 1) := bdX7_takeOrder_0.2.2.2.2.2.2.2.2.2.2.2.2.2.2.1
theorem dX7_takeOrder_76 : decode cX7_takeOrder 76 = .ok (.iconst 0, 1) := bdX7_takeOrder_0.2.2.2.2.2.2.2.2.2.2.2.2.2.2.2
theorem bdX7_takeOrder_77 : decode cX7_takeOrder 77 = .ok (.bipush 65, 2) ∧ decode cX7_takeOrder 79 = .ok (.bipush 80, 2) ∧ decode cX7_takeOrder 81 = .ok (.invokevirtual 206, 3) ∧ decode cX7_takeOrder 84 = .ok (.aload_n 0, 1) ∧ decode cX7_takeOrder 85 = .ok (.iconst 1, 1) ∧ decode cX7_takeOrder 86 = .ok (.bipush 49, 2) ∧ decode cX7_takeOrder 88 = .ok (.bipush 57, 2) ∧ decode cX7_takeOrder 90 = .ok (.invokevirtual 206, 3) ∧ decode cX7_takeOrder 93 = .ok (.goto 58, 3) ∧ decode cX7_takeOrder 96 = .ok (.aload_n 0, 1) ∧ decode cX7_takeOrder 97 = .ok (.iconst 0, 1) ∧ decode cX7_takeOrder 98 = .ok (.bipush 65, 2) ∧ decode cX7_takeOrder 100 = .ok (.bipush 80, 2) ∧ decode cX7_takeOrder 102 = .ok (.invokevirtual 206, 3) ∧ decode cX7_takeOrder 105 = .ok (.goto 46, 3) ∧ decode cX7_takeOrder 108 = .ok (.aload_n 0, 1) := by decide +kernel
theorem dX7_takeOrder_77 : decode cX7_takeOrder 77 = .ok (.bipush 65, 2) := bdX7_takeOrder_77.1
theorem dX7_takeOrder_79 : decode cX7_takeOrder 79 = .ok (.bipush 80, 2) := bdX7_takeOrder_77.2.1
theorem dX7_takeOrder_81 : decode cX7_takeOrder 81 = .ok (.invokevirtual 206, 3) := bdX7_takeOrder_77.2.2.1
theorem dX7_takeOrder_84 : decode cX7_takeOrder 84 = .ok (.aload_n 0, 1) := bdX7_takeOrder_77.2.2.2.1
theorem dX7_takeOrder_85 : decode cX7_takeOrder 85 = .ok (.iconst 1, 1) := bdX7_takeOrder_77.2.2.2.2.1
theorem dX7_takeOrder_86 : decode cX7_takeOrder 86 = .ok (.bipush 49, 2) := bdX7_takeOrder_77.2.2.2.2.2.1
theorem dX7_takeOrder_88 : decode cX7_takeOrder 88 = .ok (.bipush 57, 2) := bdX7_takeOrder_77.2.2.2.2.2.2.1
theorem dX7_takeOrder_90 : decode cX7_takeOrder 90 = .ok (.invokevirtual 206, 3) := bdX7_takeOrder_77.2.2.2.2.2.2.2.1
theorem dX7_takeOrder_93 : decode cX7_takeOrder 93 = .ok (.goto 58, 3) := bdX7_takeOrder_77.2.2.2.2.2.2.2.2.1
theorem dX7_takeOrder_96 : decode cX7_takeOrder 96 = .ok (.aload_n 0, 1) := bdX7_takeOrder_77.2.2.2.2.2.2.2.2.2.1
theorem dX7_takeOrder_97 : decode cX7_takeOrder 97 = .ok (.iconst 0, 1) := bdX7_takeOrder_77.2.2.2.2.2.2.2.2.2.2.1
theorem dX7_takeOrder_98 : decode cX7_takeOrder 98 = .ok (.bipush 65, 2) := bdX7_takeOrder_77.2.2.2.2.2.2.2.2.2.2.2.1
theorem dX7_takeOrder_100 : decode cX7_takeOrder 100 = .ok (.bipush 80, 2) := bdX7_takeOrder_77.2.2.2.2.2.2.2.2.2.2.2.2.1
theorem dX7_takeOrder_102 : decode cX7_takeOrder 102 = .ok (.invokevirtual 206, 3) := bdX7_takeOrder_77.2.2.2.2.2.2.2.2.2.2.2.2.2.1
theorem dX7_takeOrder_105 : decode cX7_takeOrder 105 = .ok (.goto 46, 3) := bdX7_takeOrder_77.2.2.2.2.2.2.2.2.2.2.2.2.2.2.1
theorem dX7_takeOrder_108 : decode cX7_takeOrder 108 = .ok (.aload_n 0, 1) := bdX7_takeOrder_77.2.2.2.2.2.2.2.2.2.2.2.2.2.2.2
theorem bdX7_takeOrder_109 : decode cX7_takeOrder 109 = .ok (.iconst 0, 1) ∧ decode cX7_takeOrder 110 = .ok (.bipush 65, 2) ∧ decode cX7_takeOrder 112 = .ok (.bipush 80, 2) ∧ decode cX7_takeOrder 114 = .ok (.invokevirtual 206, 3) ∧ decode cX7_takeOrder 117 = .ok (.aload_n 0, 1) ∧ decode cX7_takeOrder 118 = .ok (.iconst 1, 1) ∧ decode cX7_takeOrder 119 = .ok (.bipush 65, 2) ∧ decode cX7_takeOrder 121 = .ok (.bipush 80, 2) ∧ decode cX7_takeOrder 123 = .ok (.invokevirtual 206, 3) ∧ decode cX7_takeOrder 126 = .ok (.goto 25, 3) ∧ decode cX7_takeOrder 129 = .ok (.aload_n 0, 1) ∧ decode cX7_takeOrder 130 = .ok (.invokevirtual 212, 3) ∧ decode cX7_takeOrder 133 = .ok (.goto 18, 3) ∧ decode cX7_takeOrder 136 = .ok (.aload_n 0, 1) ∧ decode cX7_takeOrder 137 = .ok (.dup, 1) ∧ decode cX7_takeOrder 138 = .ok (.getfield 193, 3) := by decide +kernel
theorem dX7_takeOrder_109 : decode cX7_takeOrder 109 = .ok (.iconst 0, 1) := bdX7_takeOrder_109.1
theorem dX7_takeOrder_110 : decode cX7_takeOrder 110 = .ok (.bipush 65, 2) := bdX7_takeOrder_109.2.1
theorem dX7_takeOrder_112 : decode cX7_takeOrder 112 = .ok (.bipush 80, 2) := bdX7_takeOrder_109.2.2.1
theorem dX7_takeOrder_114 : decode cX7_takeOrder 114 = .ok (.invokevirtual 206, 3) := bdX7_takeOrder_109.2.2.2.1
theorem dX7_takeOrder_117 : decode cX7_takeOrder 117 = .ok (.aload_n 0, 1) := bdX7_takeOrder_109.2.2.2.2.1
theorem dX7_takeOrder_118 : decode cX7_takeOrder 118 = .ok (.iconst 1, 1) := bdX7_takeOrder_109.2.2.2.2.2.1
theorem dX7_takeOrder_119 : decode cX7_takeOrder 119 = .ok (.bipush 65, 2) := bdX7_takeOrder_109.2.2.2.2.2.2.1
theorem dX7_takeOrder_121 : decode cX7_takeOrder 121 = .ok (.bipush 80, 2) := bdX7_takeOrder_109.2.2.2.2.2.2.2.1
theorem dX7_takeOrder_123 : decode cX7_takeOrder 123 = .ok (.invokevirtual 206, 3) := bdX7_takeOrder_109.2.2.2.2.2.2.2.2.1
theorem dX7_takeOrder_126 : decode cX7_takeOrder 126 = .ok (.goto 25, 3) := bdX7_takeOrder_109.2.2.2.2.2.2.2.2.2.1
theorem dX7_takeOrder_129 : decode cX7_takeOrder 129 = .ok (.aload_n 0, 1) := bdX7_takeOrder_109.2.2.2.2.2.2.2.2.2.2.1
theorem dX7_takeOrder_130 : decode cX7_takeOrder 130 = .ok (.invokevirtual 212, 3) := bdX7_takeOrder_109.2.2.2.2.2.2.2.2.2.2.2.1
theorem dX7_takeOrder_133 : decode cX7_takeOrder 133 = .ok (.goto 18, 3) := bdX7_takeOrder_109.2.2.2.2.2.2.2.2.2.2.2.2.1
theorem dX7_takeOrder_136 : decode cX7_takeOrder 136 = .ok (.aload_n 0, 1) := bdX7_takeOrder_109.2.2.2.2.2.2.2.2.2.2.2.2.2.1
theorem dX7_takeOrder_137 : decode cX7_takeOrder 137 = .ok (.dup, 1) := bdX7_takeOrder_109.2.2.2.2.2.2.2.2.2.2.2.2.2.2.1
theorem dX7_takeOrder_138 : decode cX7_takeOrder 138 = .ok (.getfield 193, 3) := bdX7_takeOrder_109.2.2.2.2.2.2.2.2.2.2.2.2.2.2.2
theorem bdX7_takeOrder_141 : decode cX7_takeOrder 141 = .ok (.iconst 1, 1) ∧ decode cX7_takeOrder 142 = .ok (.isub, 1) ∧ decode cX7_takeOrder 143 = .ok (.putfield 193, 3) ∧ decode cX7_takeOrder 146 = .ok (.aload_n 0, 1) ∧ decode cX7_takeOrder 147 = .ok (.iconst 1, 1) ∧ decode cX7_takeOrder 148 = .ok (.putfield 196, 3) ∧ decode cX7_takeOrder 151 = .ok (.aload_n 0, 1) ∧ decode cX7_takeOrder 152 = .ok (.getfield 196, 3) ∧ decode cX7_takeOrder 155 = .ok (.ifCond .ne 23, 3) ∧ decode cX7_takeOrder 158 = .ok (.aload_n 0, 1) ∧ decode cX7_takeOrder 159 = .ok (.getfield 29, 3) ∧ decode cX7_takeOrder 162 = .ok (.aload_n 0, 1) ∧ decode cX7_takeOrder 163 = .ok (.getfield 203, 3) ∧ decode cX7_takeOrder 166 = .ok (.iload_n 1, 1) ∧ decode cX7_takeOrder 167 = .ok (.iastore, 1) ∧ decode cX7_takeOrder 168 = .ok (.aload_n 0, 1) := by decide +kernel
theorem dX7_takeOrder_141 : decode cX7_takeOrder 141 = .ok (.iconst 1, 1) := bdX7_takeOrder_141.1
theorem dX7_takeOrder_142 : decode cX7_takeOrder 142 = .ok (.isub, 1) := bdX7_takeOrder_141.2.1
theorem dX7_takeOrder_143 : decode cX7_takeOrder 143 = .ok (.putfield 193, 3) := bdX7_takeOrder_141.2.2.1
theorem dX7_takeOrder_146 : decode cX7_takeOrder 146 = .ok (.aload_n 0, 1) := bdX7_takeOrder_141.2.2.2.1
theorem dX7_takeOrder_147 : decode cX7_takeOrder 147 = .ok (.iconst 1, 1) := bdX7_takeOrder_141.2.2.2.2.1
theorem dX7_takeOrder_148 : decode cX7_takeOrder 148 = .ok (.putfield 196, 3) := bdX7_takeOrder_141.2.2.2.2.2.1
theorem dX7_takeOrder_151 : decode cX7_takeOrder 151 = .ok (.aload_n 0, 1) := bdX7_takeOrder_141.2.2.2.2.2.2.1
theorem dX7_takeOrder_152 : decode cX7_takeOrder 152 = .ok (.getfield 196, 3) := bdX7_takeOrder_141.2.2.2.2.2.2.2.1
theorem dX7_takeOrder_155 : decode cX7_takeOrder 155 = .ok (.ifCond .ne 23, 3) := bdX7_takeOrder_141.2.2.2.2.2.2.2.2.1
theorem dX7_takeOrder_158 : decode cX7_takeOrder 158 = .ok (.aload_n 0, 1) := bdX7_takeOrder_141.2.2.2.2.2.2.2.2.2.1
theorem dX7_takeOrder_159 : decode cX7_takeOrder 159 = .ok (.getfield 29, 3) := bdX7_takeOrder_141.2.2.2.2.2.2.2.2.2.2.1
theorem dX7_takeOrder_162 : decode cX7_takeOrder 162 = .ok (.aload_n 0, 1) := bdX7_takeOrder_141.2.2.2.2.2.2.2.2.2.2.2.1
theorem dX7_takeOrder_163 : decode cX7_takeOrder 163 = .ok (.getfield 203, 3) := bdX7_takeOrder_141.2.2.2.2.2.2.2.2.2.2.2.2.1
theorem dX7_takeOrder_166 : decode cX7_takeOrder 166 = .ok (.iload_n 1, 1) := bdX7_takeOrder_141.2.2.2.2.2.2.2.2.2.2.2.2.2.1
theorem dX7_takeOrder_167 : decode cX7_takeOrder 167 = .ok (.iastore, 1) := bdX7_takeOrder_141.2.2.2.2.2.2.2.2.2.2.2.2.2.2.1
theorem dX7_takeOrder_168 : decode cX7_takeOrder 168 = .ok (.aload_n 0, 1) := bdX7_takeOrder_141.2.2.2.2.2.2.2.2.2.2.2.2.2.2.2
theorem bdX7_takeOrder_169 : decode cX7_takeOrder 169 = .ok (.dup, 1) ∧ decode cX7_takeOrder 170 = .ok (.getfield 203, 3) ∧ decode cX7_takeOrder 173 = .ok (.iconst 1, 1) ∧ decode cX7_takeOrder 174 = .ok (.iadd, 1) ∧ decode cX7_takeOrder 175 = .ok (.putfield 203, 3) ∧ decode cX7_takeOrder 178 = .ok (.return_, 1) := by decide +kernel
theorem dX7_takeOrder_169 : decode cX7_takeOrder 169 = .ok (.dup, 1) := bdX7_takeOrder_169.1
theorem dX7_takeOrder_170 : decode cX7_takeOrder 170 = .ok (.getfield 203, 3) := bdX7_takeOrder_169.2.1
theorem dX7_takeOrder_173 : decode cX7_takeOrder 173 = .ok (.iconst 1, 1) := bdX7_takeOrder_169.2.2.1
theorem dX7_takeOrder_174 : decode cX7_takeOrder 174 = .ok (.iadd, 1) := bdX7_takeOrder_169.2.2.2.1
theorem dX7_takeOrder_175 : decode cX7_takeOrder 175 = .ok (.putfield 203, 3) := bdX7_takeOrder_169.2.2.2.2.1
theorem dX7_takeOrder_178 : decode cX7_takeOrder 178 = .ok (.return_, 1) := bdX7_takeOrder_169.2.2.2.2.2
theorem bdX7_fault_0 : decode cX7_fault 0 = .ok (.aload_n 0, 1) ∧ decode cX7_fault 1 = .ok (.iconst 0, 1) ∧ decode cX7_fault 2 = .ok (.putfield 193, 3) ∧ decode cX7_fault 5 = .ok (.aload_n 0, 1) ∧ decode cX7_fault 6 = .ok (.iconst 0, 1) ∧ decode cX7_fault 7 = .ok (.putfield 196, 3) ∧ decode cX7_fault 10 = .ok (.aload_n 0, 1) ∧ decode cX7_fault 11 = .ok (.iconst 0, 1) ∧ decode cX7_fault 12 = .ok (.putfield 203, 3) ∧ decode cX7_fault 15 = .ok (.aload_n 0, 1) ∧ decode cX7_fault 16 = .ok (.invokevirtual 215, 3) ∧ decode cX7_fault 19 = .ok (.aload_n 0, 1) ∧ decode cX7_fault 20 = .ok (.getfield 196, 3) ∧ decode cX7_fault 23 = .ok (.ifCond .ne 56, 3) ∧ decode cX7_fault 26 = .ok (.aload_n 0, 1) ∧ decode cX7_fault 27 = .ok (.getfield 193, 3) := by decide +kernel
theorem dX7_fault_0 : decode cX7_fault 0 = .ok (.aload_n 0, 1) := bdX7_fault_0.1
theorem dX7_fault_1 : decode cX7_fault 1 = .ok (.iconst 0, 1) := bdX7_fault_0.2.1
theorem dX7_fault_2 : decode cX7_fault 2 = .ok (.putfield 193, 3) := bdX7_fault_0.2.2.1
theorem dX7_fault_5 : decode cX7_fault 5 = .ok (.aload_n 0, 1) := bdX7_fault_0.2.2.2.1
theorem dX7_fault_6 : decode cX7_fault 6 = .ok (.iconst 0, 1) := bdX7_fault_0.2.2.2.2.1
theorem dX7_fault_7 : decode cX7_fault 7 = .ok (.putfield 196, 3) := bdX7_fault_0.2.2.2.2.2.1
theorem dX7_fault_10 : decode cX7_fault 10 = .ok (.aload_n 0, 1) := bdX7_fault_0.2.2.2.2.2.2.1
theorem dX7_fault_11 : decode cX7_fault 11 = .ok (.iconst 0, 1) := bdX7_fault_0.2.2.2.2.2.2.2.1
theorem dX7_fault_12 : decode cX7_fault 12 = .ok (.putfield 203, 3) := bdX7_fault_0.2.2.2.2.2.2.2.2.1
theorem dX7_fault_15 : decode cX7_fault 15 = .ok (.aload_n 0, 1) := bdX7_fault_0.2.2.2.2.2.2.2.2.2.1
theorem dX7_fault_16 : decode cX7_fault 16 = .ok (.invokevirtual 215, 3) := bdX7_fault_0.2.2.2.2.2.2.2.2.2.2.1
theorem dX7_fault_19 : decode cX7_fault 19 = .ok (.aload_n 0, 1) := bdX7_fault_0.2.2.2.2.2.2.2.2.2.2.2.1
theorem dX7_fault_20 : decode cX7_fault 20 = .ok (.getfield 196, 3) := bdX7_fault_0.2.2.2.2.2.2.2.2.2.2.2.2.1
theorem dX7_fault_23 : decode cX7_fault 23 = .ok (.ifCond .ne 56, 3) := bdX7_fault_0.2.2.2.2.2.2.2.2.2.2.2.2.2.1
theorem dX7_fault_26 : decode cX7_fault 26 = .ok (.aload_n 0, 1) := bdX7_fault_0.2.2.2.2.2.2.2.2.2.2.2.2.2.2.1
theorem dX7_fault_27 : decode cX7_fault 27 = .ok (.getfield 193, 3) := bdX7_fault_0.2.2.2.2.2.2.2.2.2.2.2.2.2.2.2
theorem bdX7_fault_30 : decode cX7_fault 30 = .ok (.aload_n 0, 1) ∧ decode cX7_fault 31 = .ok (.getfield 179, 3) ∧ decode cX7_fault 34 = .ok (.if_icmp .ge 45, 3) ∧ decode cX7_fault 37 = .ok (.aload_n 0, 1) ∧ decode cX7_fault 38 = .ok (.aload_n 0, 1) ∧ decode cX7_fault 39 = .ok (.invokevirtual 200, 3) ∧ decode cX7_fault 42 = .ok (.bipush 59, 2) ∧ decode cX7_fault 44 = .ok (.if_icmp .eq 7, 3) ∧ decode cX7_fault 47 = .ok (.iconst 1, 1) ∧ decode cX7_fault 48 = .ok (.goto 4, 3) ∧ decode cX7_fault 51 = .ok (.iconst 0, 1) ∧ decode cX7_fault 52 = .ok (.putfield 196, 3) ∧ decode cX7_fault 55 = .ok (.aload_n 0, 1) ∧ decode cX7_fault 56 = .ok (.getfield 196, 3) ∧ decode cX7_fault 59 = .ok (.ifCond .ne (-40), 3) ∧ decode cX7_fault 62 = .ok (.aload_n 0, 1) := by decide +kernel
theorem dX7_fault_30 : decode cX7_fault 30 = .ok (.aload_n 0, 1) := bdX7_fault_30.1
theorem dX7_fault_31 : decode cX7_fault 31 = .ok (.getfield 179, 3) := bdX7_fault_30.2.1
theorem dX7_fault_34 : decode cX7_fault 34 = .ok (.if_icmp .ge 45, 3) := bdX7_fault_30.2.2.1
theorem dX7_fault_37 : decode cX7_fault 37 = .ok (.aload_n 0, 1) := bdX7_fault_30.2.2.2.1
theorem dX7_fault_38 : decode cX7_fault 38 = .ok (.aload_n 0, 1) := bdX7_fault_30.2.2.2.2.1
theorem dX7_fault_39 : decode cX7_fault 39 = .ok (.invokevirtual 200, 3) := bdX7_fault_30.2.2.2.2.2.1
theorem dX7_fault_42 : decode cX7_fault 42 = .ok (.bipush 59, 2) := bdX7_fault_30.2.2.2.2.2.2.1
theorem dX7_fault_44 : decode cX7_fault 44 = .ok (.if_icmp .eq 7, 3) := bdX7_fault_30.2.2.2.2.2.2.2.1
theorem dX7_fault_47 : decode cX7_fault 47 = .ok (.iconst 1, 1) := bdX7_fault_30.2.2.2.2.2.2.2.2.1
theorem dX7_fault_48 : decode cX7_fault 48 = .ok (.goto 4, 3) := bdX7_fault_30.2.2.2.2.2.2.2.2.2.1
theorem dX7_fault_51 : decode cX7_fault 51 = .ok (.iconst 0, 1) := bdX7_fault_30.2.2.2.2.2.2.2.2.2.2.1
theorem dX7_fault_52 : decode cX7_fault 52 = .ok (.putfield 196, 3) := bdX7_fault_30.2.2.2.2.2.2.2.2.2.2.2.1
theorem dX7_fault_55 : decode cX7_fault 55 = .ok (.aload_n 0, 1) := bdX7_fault_30.2.2.2.2.2.2.2.2.2.2.2.2.1
theorem dX7_fault_56 : decode cX7_fault 56 = .ok (.getfield 196, 3) := bdX7_fault_30.2.2.2.2.2.2.2.2.2.2.2.2.2.1
theorem dX7_fault_59 : decode cX7_fault 59 = .ok (.ifCond .ne (-40), 3) := bdX7_fault_30.2.2.2.2.2.2.2.2.2.2.2.2.2.2.1
theorem dX7_fault_62 : decode cX7_fault 62 = .ok (.aload_n 0, 1) := bdX7_fault_30.2.2.2.2.2.2.2.2.2.2.2.2.2.2.2
theorem bdX7_fault_63 : decode cX7_fault 63 = .ok (.dup, 1) ∧ decode cX7_fault 64 = .ok (.getfield 193, 3) ∧ decode cX7_fault 67 = .ok (.iconst 1, 1) ∧ decode cX7_fault 68 = .ok (.iadd, 1) ∧ decode cX7_fault 69 = .ok (.putfield 193, 3) ∧ decode cX7_fault 72 = .ok (.aload_n 0, 1) ∧ decode cX7_fault 73 = .ok (.invokevirtual 215, 3) ∧ decode cX7_fault 76 = .ok (.goto (-57), 3) ∧ decode cX7_fault 79 = .ok (.aload_n 0, 1) ∧ decode cX7_fault 80 = .ok (.getfield 196, 3) ∧ decode cX7_fault 83 = .ok (.ifCond .eq 10, 3) ∧ decode cX7_fault 86 = .ok (.aload_n 0, 1) ∧ decode cX7_fault 87 = .ok (.getfield 193, 3) ∧ decode cX7_fault 90 = .ok (.goto 5, 3) ∧ decode cX7_fault 93 = .ok (.bipush (-6), 2) ∧ decode cX7_fault 95 = .ok (.ireturn, 1) := by decide +kernel
theorem dX7_fault_63 : decode cX7_fault 63 = .ok (.dup, 1) := bdX7_fault_63.1
theorem dX7_fault_64 : decode cX7_fault 64 = .ok (.getfield 193, 3) := bdX7_fault_63.2.1
theorem dX7_fault_67 : decode cX7_fault 67 = .ok (.iconst 1, 1) := bdX7_fault_63.2.2.1
theorem dX7_fault_68 : decode cX7_fault 68 = .ok (.iadd, 1) := bdX7_fault_63.2.2.2.1
theorem dX7_fault_69 : decode cX7_fault 69 = .ok (.putfield 193, 3) := bdX7_fault_63.2.2.2.2.1
theorem dX7_fault_72 : decode cX7_fault 72 = .ok (.aload_n 0, 1) := bdX7_fault_63.2.2.2.2.2.1
theorem dX7_fault_73 : decode cX7_fault 73 = .ok (.invokevirtual 215, 3) := bdX7_fault_63.2.2.2.2.2.2.1
theorem dX7_fault_76 : decode cX7_fault 76 = .ok (.goto (-57), 3) := bdX7_fault_63.2.2.2.2.2.2.2.1
theorem dX7_fault_79 : decode cX7_fault 79 = .ok (.aload_n 0, 1) := bdX7_fault_63.2.2.2.2.2.2.2.2.1
theorem dX7_fault_80 : decode cX7_fault 80 = .ok (.getfield 196, 3) := bdX7_fault_63.2.2.2.2.2.2.2.2.2.1
theorem dX7_fault_83 : decode cX7_fault 83 = .ok (.ifCond .eq 10, 3) := bdX7_fault_63.2.2.2.2.2.2.2.2.2.2.1
theorem dX7_fault_86 : decode cX7_fault 86 = .ok (.aload_n 0, 1) := bdX7_fault_63.2.2.2.2.2.2.2.2.2.2.2.1
theorem dX7_fault_87 : decode cX7_fault 87 = .ok (.getfield 193, 3) := bdX7_fault_63.2.2.2.2.2.2.2.2.2.2.2.2.1
theorem dX7_fault_90 : decode cX7_fault 90 = .ok (.goto 5, 3) := bdX7_fault_63.2.2.2.2.2.2.2.2.2.2.2.2.2.1
theorem dX7_fault_93 : decode cX7_fault 93 = .ok (.bipush (-6), 2) := bdX7_fault_63.2.2.2.2.2.2.2.2.2.2.2.2.2.2.1
theorem dX7_fault_95 : decode cX7_fault 95 = .ok (.ireturn, 1) := bdX7_fault_63.2.2.2.2.2.2.2.2.2.2.2.2.2.2.2
theorem bdX7_carry_0 : decode cX7_carry 0 = .ok (.iconst 4, 1) ∧ decode cX7_carry 1 = .ok (.iload_n 1, 1) ∧ decode cX7_carry 2 = .ok (.imul, 1) ∧ decode cX7_carry 3 = .ok (.istore_n 2, 1) ∧ decode cX7_carry 4 = .ok (.aload_n 0, 1) ∧ decode cX7_carry 5 = .ok (.getfield 29, 3) ∧ decode cX7_carry 8 = .ok (.iload_n 1, 1) ∧ decode cX7_carry 9 = .ok (.iaload, 1) ∧ decode cX7_carry 10 = .ok (.lookupswitch 132 #[(99, 100), (102, 78), (115, 112), (119, 42)], 42) ∧ decode cX7_carry 52 = .ok (.aload_n 0, 1) ∧ decode cX7_carry 53 = .ok (.aload_n 0, 1) ∧ decode cX7_carry 54 = .ok (.getfield 32, 3) ∧ decode cX7_carry 57 = .ok (.iload_n 2, 1) ∧ decode cX7_carry 58 = .ok (.iaload, 1) ∧ decode cX7_carry 59 = .ok (.aload_n 0, 1) ∧ decode cX7_carry 60 = .ok (.getfield 32, 3) := by decide +kernel
theorem dX7_carry_0 : decode cX7_carry 0 = .ok (.iconst 4, 1) := bdX7_carry_0.1
theorem dX7_carry_1 : decode cX7_carry 1 = .ok (.iload_n 1, 1) := bdX7_carry_0.2.1
theorem dX7_carry_2 : decode cX7_carry 2 = .ok (.imul, 1) := bdX7_carry_0.2.2.1
theorem dX7_carry_3 : decode cX7_carry 3 = .ok (.istore_n 2, 1) := bdX7_carry_0.2.2.2.1
theorem dX7_carry_4 : decode cX7_carry 4 = .ok (.aload_n 0, 1) := bdX7_carry_0.2.2.2.2.1
theorem dX7_carry_5 : decode cX7_carry 5 = .ok (.getfield 29, 3) := bdX7_carry_0.2.2.2.2.2.1
theorem dX7_carry_8 : decode cX7_carry 8 = .ok (.iload_n 1, 1) := bdX7_carry_0.2.2.2.2.2.2.1
theorem dX7_carry_9 : decode cX7_carry 9 = .ok (.iaload, 1) := bdX7_carry_0.2.2.2.2.2.2.2.1
theorem dX7_carry_10 : decode cX7_carry 10 = .ok (.lookupswitch 132 #[(99, 100), (102, 78), (115, 112), (119, 42)], 42) := bdX7_carry_0.2.2.2.2.2.2.2.2.1
theorem dX7_carry_52 : decode cX7_carry 52 = .ok (.aload_n 0, 1) := bdX7_carry_0.2.2.2.2.2.2.2.2.2.1
theorem dX7_carry_53 : decode cX7_carry 53 = .ok (.aload_n 0, 1) := bdX7_carry_0.2.2.2.2.2.2.2.2.2.2.1
theorem dX7_carry_54 : decode cX7_carry 54 = .ok (.getfield 32, 3) := bdX7_carry_0.2.2.2.2.2.2.2.2.2.2.2.1
theorem dX7_carry_57 : decode cX7_carry 57 = .ok (.iload_n 2, 1) := bdX7_carry_0.2.2.2.2.2.2.2.2.2.2.2.2.1
theorem dX7_carry_58 : decode cX7_carry 58 = .ok (.iaload, 1) := bdX7_carry_0.2.2.2.2.2.2.2.2.2.2.2.2.2.1
theorem dX7_carry_59 : decode cX7_carry 59 = .ok (.aload_n 0, 1) := bdX7_carry_0.2.2.2.2.2.2.2.2.2.2.2.2.2.2.1
theorem dX7_carry_60 : decode cX7_carry 60 = .ok (.getfield 32, 3) := bdX7_carry_0.2.2.2.2.2.2.2.2.2.2.2.2.2.2.2
theorem bdX7_carry_63 : decode cX7_carry 63 = .ok (.iload_n 2, 1) ∧ decode cX7_carry 64 = .ok (.iconst 1, 1) ∧ decode cX7_carry 65 = .ok (.iadd, 1) ∧ decode cX7_carry 66 = .ok (.iaload, 1) ∧ decode cX7_carry 67 = .ok (.aload_n 0, 1) ∧ decode cX7_carry 68 = .ok (.getfield 32, 3) ∧ decode cX7_carry 71 = .ok (.iload_n 2, 1) ∧ decode cX7_carry 72 = .ok (.iconst 2, 1) ∧ decode cX7_carry 73 = .ok (.iadd, 1) ∧ decode cX7_carry 74 = .ok (.iaload, 1) ∧ decode cX7_carry 75 = .ok (.aload_n 0, 1) ∧ decode cX7_carry 76 = .ok (.getfield 32, 3) ∧ decode cX7_carry 79 = .ok (.iload_n 2, 1) ∧ decode cX7_carry 80 = .ok (.iconst 3, 1) ∧ decode cX7_carry 81 = .ok (.iadd, 1) ∧ decode cX7_carry 82 = .ok (.iaload, 1) := by decide +kernel
theorem dX7_carry_63 : decode cX7_carry 63 = .ok (.iload_n 2, 1) := bdX7_carry_63.1
theorem dX7_carry_64 : decode cX7_carry 64 = .ok (.iconst 1, 1) := bdX7_carry_63.2.1
theorem dX7_carry_65 : decode cX7_carry 65 = .ok (.iadd, 1) := bdX7_carry_63.2.2.1
theorem dX7_carry_66 : decode cX7_carry 66 = .ok (.iaload, 1) := bdX7_carry_63.2.2.2.1
theorem dX7_carry_67 : decode cX7_carry 67 = .ok (.aload_n 0, 1) := bdX7_carry_63.2.2.2.2.1
theorem dX7_carry_68 : decode cX7_carry 68 = .ok (.getfield 32, 3) := bdX7_carry_63.2.2.2.2.2.1
theorem dX7_carry_71 : decode cX7_carry 71 = .ok (.iload_n 2, 1) := bdX7_carry_63.2.2.2.2.2.2.1
theorem dX7_carry_72 : decode cX7_carry 72 = .ok (.iconst 2, 1) := bdX7_carry_63.2.2.2.2.2.2.2.1
theorem dX7_carry_73 : decode cX7_carry 73 = .ok (.iadd, 1) := bdX7_carry_63.2.2.2.2.2.2.2.2.1
theorem dX7_carry_74 : decode cX7_carry 74 = .ok (.iaload, 1) := bdX7_carry_63.2.2.2.2.2.2.2.2.2.1
theorem dX7_carry_75 : decode cX7_carry 75 = .ok (.aload_n 0, 1) := bdX7_carry_63.2.2.2.2.2.2.2.2.2.2.1
theorem dX7_carry_76 : decode cX7_carry 76 = .ok (.getfield 32, 3) := bdX7_carry_63.2.2.2.2.2.2.2.2.2.2.2.1
theorem dX7_carry_79 : decode cX7_carry 79 = .ok (.iload_n 2, 1) := bdX7_carry_63.2.2.2.2.2.2.2.2.2.2.2.2.1
theorem dX7_carry_80 : decode cX7_carry 80 = .ok (.iconst 3, 1) := bdX7_carry_63.2.2.2.2.2.2.2.2.2.2.2.2.2.1
theorem dX7_carry_81 : decode cX7_carry 81 = .ok (.iadd, 1) := bdX7_carry_63.2.2.2.2.2.2.2.2.2.2.2.2.2.2.1
theorem dX7_carry_82 : decode cX7_carry 82 = .ok (.iaload, 1) := bdX7_carry_63.2.2.2.2.2.2.2.2.2.2.2.2.2.2.2
theorem bdX7_carry_83 : decode cX7_carry 83 = .ok (.iconst 0, 1) ∧ decode cX7_carry 84 = .ok (.invokevirtual 82, 3) ∧ decode cX7_carry 87 = .ok (.ireturn, 1) ∧ decode cX7_carry 88 = .ok (.aload_n 0, 1) ∧ decode cX7_carry 89 = .ok (.aload_n 0, 1) ∧ decode cX7_carry 90 = .ok (.getfield 32, 3) ∧ decode cX7_carry 93 = .ok (.iload_n 2, 1) ∧ decode cX7_carry 94 = .ok (.iaload, 1) ∧ decode cX7_carry 95 = .ok (.iconst 1, 1) ∧ decode cX7_carry 96 = .ok (.aload_n 0, 1) ∧ decode cX7_carry 97 = .ok (.getfield 32, 3) ∧ decode cX7_carry 100 = .ok (.iload_n 2, 1) ∧ decode cX7_carry 101 = .ok (.iconst 1, 1) ∧ decode cX7_carry 102 = .ok (.iadd, 1) ∧ decode cX7_carry 103 = .ok (.iaload, 1) ∧ decode cX7_carry 104 = .ok (.iadd, 1) := by decide +kernel
theorem dX7_carry_83 : decode cX7_carry 83 = .ok (.iconst 0, 1) := bdX7_carry_83.1
theorem dX7_carry_84 : decode cX7_carry 84 = .ok (.invokevirtual 82, 3) := bdX7_carry_83.2.1
theorem dX7_carry_87 : decode cX7_carry 87 = .ok (.ireturn, 1) := bdX7_carry_83.2.2.1
theorem dX7_carry_88 : decode cX7_carry 88 = .ok (.aload_n 0, 1) := bdX7_carry_83.2.2.2.1
theorem dX7_carry_89 : decode cX7_carry 89 = .ok (.aload_n 0, 1) := bdX7_carry_83.2.2.2.2.1
theorem dX7_carry_90 : decode cX7_carry 90 = .ok (.getfield 32, 3) := bdX7_carry_83.2.2.2.2.2.1
theorem dX7_carry_93 : decode cX7_carry 93 = .ok (.iload_n 2, 1) := bdX7_carry_83.2.2.2.2.2.2.1
theorem dX7_carry_94 : decode cX7_carry 94 = .ok (.iaload, 1) := bdX7_carry_83.2.2.2.2.2.2.2.1
theorem dX7_carry_95 : decode cX7_carry 95 = .ok (.iconst 1, 1) := bdX7_carry_83.2.2.2.2.2.2.2.2.1
theorem dX7_carry_96 : decode cX7_carry 96 = .ok (.aload_n 0, 1) := bdX7_carry_83.2.2.2.2.2.2.2.2.2.1
theorem dX7_carry_97 : decode cX7_carry 97 = .ok (.getfield 32, 3) := bdX7_carry_83.2.2.2.2.2.2.2.2.2.2.1
theorem dX7_carry_100 : decode cX7_carry 100 = .ok (.iload_n 2, 1) := bdX7_carry_83.2.2.2.2.2.2.2.2.2.2.2.1
theorem dX7_carry_101 : decode cX7_carry 101 = .ok (.iconst 1, 1) := bdX7_carry_83.2.2.2.2.2.2.2.2.2.2.2.2.1
theorem dX7_carry_102 : decode cX7_carry 102 = .ok (.iadd, 1) := bdX7_carry_83.2.2.2.2.2.2.2.2.2.2.2.2.2.1
theorem dX7_carry_103 : decode cX7_carry 103 = .ok (.iaload, 1) := bdX7_carry_83.2.2.2.2.2.2.2.2.2.2.2.2.2.2.1
theorem dX7_carry_104 : decode cX7_carry 104 = .ok (.iadd, 1) := bdX7_carry_83.2.2.2.2.2.2.2.2.2.2.2.2.2.2.2
theorem bdX7_carry_105 : decode cX7_carry 105 = .ok (.iconst 0, 1) ∧ decode cX7_carry 106 = .ok (.invokevirtual 90, 3) ∧ decode cX7_carry 109 = .ok (.ireturn, 1) ∧ decode cX7_carry 110 = .ok (.aload_n 0, 1) ∧ decode cX7_carry 111 = .ok (.aload_n 0, 1) ∧ decode cX7_carry 112 = .ok (.getfield 32, 3) ∧ decode cX7_carry 115 = .ok (.iload_n 2, 1) ∧ decode cX7_carry 116 = .ok (.iaload, 1) ∧ decode cX7_carry 117 = .ok (.iconst 0, 1) ∧ decode cX7_carry 118 = .ok (.invokevirtual 98, 3) ∧ decode cX7_carry 121 = .ok (.ireturn, 1) ∧ decode cX7_carry 122 = .ok (.aload_n 0, 1) ∧ decode cX7_carry 123 = .ok (.aload_n 0, 1) ∧ decode cX7_carry 124 = .ok (.getfield 32, 3) ∧ decode cX7_carry 127 = .ok (.iload_n 2, 1) ∧ decode cX7_carry 128 = .ok (.iaload, 1) := by decide +kernel
theorem dX7_carry_105 : decode cX7_carry 105 = .ok (.iconst 0, 1) := bdX7_carry_105.1
theorem dX7_carry_106 : decode cX7_carry 106 = .ok (.invokevirtual 90, 3) := bdX7_carry_105.2.1
theorem dX7_carry_109 : decode cX7_carry 109 = .ok (.ireturn, 1) := bdX7_carry_105.2.2.1
theorem dX7_carry_110 : decode cX7_carry 110 = .ok (.aload_n 0, 1) := bdX7_carry_105.2.2.2.1
theorem dX7_carry_111 : decode cX7_carry 111 = .ok (.aload_n 0, 1) := bdX7_carry_105.2.2.2.2.1
theorem dX7_carry_112 : decode cX7_carry 112 = .ok (.getfield 32, 3) := bdX7_carry_105.2.2.2.2.2.1
theorem dX7_carry_115 : decode cX7_carry 115 = .ok (.iload_n 2, 1) := bdX7_carry_105.2.2.2.2.2.2.1
theorem dX7_carry_116 : decode cX7_carry 116 = .ok (.iaload, 1) := bdX7_carry_105.2.2.2.2.2.2.2.1
theorem dX7_carry_117 : decode cX7_carry 117 = .ok (.iconst 0, 1) := bdX7_carry_105.2.2.2.2.2.2.2.2.1
theorem dX7_carry_118 : decode cX7_carry 118 = .ok (.invokevirtual 98, 3) := bdX7_carry_105.2.2.2.2.2.2.2.2.2.1
theorem dX7_carry_121 : decode cX7_carry 121 = .ok (.ireturn, 1) := bdX7_carry_105.2.2.2.2.2.2.2.2.2.2.1
theorem dX7_carry_122 : decode cX7_carry 122 = .ok (.aload_n 0, 1) := bdX7_carry_105.2.2.2.2.2.2.2.2.2.2.2.1
theorem dX7_carry_123 : decode cX7_carry 123 = .ok (.aload_n 0, 1) := bdX7_carry_105.2.2.2.2.2.2.2.2.2.2.2.2.1
theorem dX7_carry_124 : decode cX7_carry 124 = .ok (.getfield 32, 3) := bdX7_carry_105.2.2.2.2.2.2.2.2.2.2.2.2.2.1
theorem dX7_carry_127 : decode cX7_carry 127 = .ok (.iload_n 2, 1) := bdX7_carry_105.2.2.2.2.2.2.2.2.2.2.2.2.2.2.1
theorem dX7_carry_128 : decode cX7_carry 128 = .ok (.iaload, 1) := bdX7_carry_105.2.2.2.2.2.2.2.2.2.2.2.2.2.2.2
theorem bdX7_carry_129 : decode cX7_carry 129 = .ok (.aload_n 0, 1) ∧ decode cX7_carry 130 = .ok (.getfield 32, 3) ∧ decode cX7_carry 133 = .ok (.iload_n 2, 1) ∧ decode cX7_carry 134 = .ok (.iconst 1, 1) ∧ decode cX7_carry 135 = .ok (.iadd, 1) ∧ decode cX7_carry 136 = .ok (.iaload, 1) ∧ decode cX7_carry 137 = .ok (.iconst 0, 1) ∧ decode cX7_carry 138 = .ok (.invokevirtual 102, 3) ∧ decode cX7_carry 141 = .ok (.ireturn, 1) ∧ decode cX7_carry 142 = .ok (.aload_n 0, 1) ∧ decode cX7_carry 143 = .ok (.aload_n 0, 1) ∧ decode cX7_carry 144 = .ok (.getfield 32, 3) ∧ decode cX7_carry 147 = .ok (.iload_n 2, 1) ∧ decode cX7_carry 148 = .ok (.iaload, 1) ∧ decode cX7_carry 149 = .ok (.iconst 0, 1) ∧ decode cX7_carry 150 = .ok (.invokevirtual 172, 3) := by decide +kernel
theorem dX7_carry_129 : decode cX7_carry 129 = .ok (.aload_n 0, 1) := bdX7_carry_129.1
theorem dX7_carry_130 : decode cX7_carry 130 = .ok (.getfield 32, 3) := bdX7_carry_129.2.1
theorem dX7_carry_133 : decode cX7_carry 133 = .ok (.iload_n 2, 1) := bdX7_carry_129.2.2.1
theorem dX7_carry_134 : decode cX7_carry 134 = .ok (.iconst 1, 1) := bdX7_carry_129.2.2.2.1
theorem dX7_carry_135 : decode cX7_carry 135 = .ok (.iadd, 1) := bdX7_carry_129.2.2.2.2.1
theorem dX7_carry_136 : decode cX7_carry 136 = .ok (.iaload, 1) := bdX7_carry_129.2.2.2.2.2.1
theorem dX7_carry_137 : decode cX7_carry 137 = .ok (.iconst 0, 1) := bdX7_carry_129.2.2.2.2.2.2.1
theorem dX7_carry_138 : decode cX7_carry 138 = .ok (.invokevirtual 102, 3) := bdX7_carry_129.2.2.2.2.2.2.2.1
theorem dX7_carry_141 : decode cX7_carry 141 = .ok (.ireturn, 1) := bdX7_carry_129.2.2.2.2.2.2.2.2.1
theorem dX7_carry_142 : decode cX7_carry 142 = .ok (.aload_n 0, 1) := bdX7_carry_129.2.2.2.2.2.2.2.2.2.1
theorem dX7_carry_143 : decode cX7_carry 143 = .ok (.aload_n 0, 1) := bdX7_carry_129.2.2.2.2.2.2.2.2.2.2.1
theorem dX7_carry_144 : decode cX7_carry 144 = .ok (.getfield 32, 3) := bdX7_carry_129.2.2.2.2.2.2.2.2.2.2.2.1
theorem dX7_carry_147 : decode cX7_carry 147 = .ok (.iload_n 2, 1) := bdX7_carry_129.2.2.2.2.2.2.2.2.2.2.2.2.1
theorem dX7_carry_148 : decode cX7_carry 148 = .ok (.iaload, 1) := bdX7_carry_129.2.2.2.2.2.2.2.2.2.2.2.2.2.1
theorem dX7_carry_149 : decode cX7_carry 149 = .ok (.iconst 0, 1) := bdX7_carry_129.2.2.2.2.2.2.2.2.2.2.2.2.2.2.1
theorem dX7_carry_150 : decode cX7_carry 150 = .ok (.invokevirtual 172, 3) := bdX7_carry_129.2.2.2.2.2.2.2.2.2.2.2.2.2.2.2
theorem dX7_carry_153 : decode cX7_carry 153 = .ok (.ireturn, 1) := by decide +kernel
theorem bdX7_carryOut_0 : decode cX7_carryOut 0 = .ok (.aload_n 0, 1) ∧ decode cX7_carryOut 1 = .ok (.invokevirtual 218, 3) ∧ decode cX7_carryOut 4 = .ok (.ifCond .lt 6, 3) ∧ decode cX7_carryOut 7 = .ok (.bipush (-3), 2) ∧ decode cX7_carryOut 9 = .ok (.ireturn, 1) ∧ decode cX7_carryOut 10 = .ok (.aload_n 0, 1) ∧ decode cX7_carryOut 11 = .ok (.invokevirtual 43, 3) ∧ decode cX7_carryOut 14 = .ok (.iconst 0, 1) ∧ decode cX7_carryOut 15 = .ok (.istore_n 1, 1) ∧ decode cX7_carryOut 16 = .ok (.iload_n 1, 1) ∧ decode cX7_carryOut 17 = .ok (.aload_n 0, 1) ∧ decode cX7_carryOut 18 = .ok (.getfield 203, 3) ∧ decode cX7_carryOut 21 = .ok (.if_icmp .ge 17, 3) ∧ decode cX7_carryOut 24 = .ok (.aload_n 0, 1) ∧ decode cX7_carryOut 25 = .ok (.iload_n 1, 1) ∧ decode cX7_carryOut 26 = .ok (.invokevirtual 221, 3) := by decide +kernel
theorem dX7_carryOut_0 : decode cX7_carryOut 0 = .ok (.aload_n 0, 1) := bdX7_carryOut_0.1
theorem dX7_carryOut_1 : decode cX7_carryOut 1 = .ok (.invokevirtual 218, 3) := bdX7_carryOut_0.2.1
theorem dX7_carryOut_4 : decode cX7_carryOut 4 = .ok (.ifCond .lt 6, 3) := bdX7_carryOut_0.2.2.1
theorem dX7_carryOut_7 : decode cX7_carryOut 7 = .ok (.bipush (-3), 2) := bdX7_carryOut_0.2.2.2.1
theorem dX7_carryOut_9 : decode cX7_carryOut 9 = .ok (.ireturn, 1) := bdX7_carryOut_0.2.2.2.2.1
theorem dX7_carryOut_10 : decode cX7_carryOut 10 = .ok (.aload_n 0, 1) := bdX7_carryOut_0.2.2.2.2.2.1
theorem dX7_carryOut_11 : decode cX7_carryOut 11 = .ok (.invokevirtual 43, 3) := bdX7_carryOut_0.2.2.2.2.2.2.1
theorem dX7_carryOut_14 : decode cX7_carryOut 14 = .ok (.iconst 0, 1) := bdX7_carryOut_0.2.2.2.2.2.2.2.1
theorem dX7_carryOut_15 : decode cX7_carryOut 15 = .ok (.istore_n 1, 1) := bdX7_carryOut_0.2.2.2.2.2.2.2.2.1
theorem dX7_carryOut_16 : decode cX7_carryOut 16 = .ok (.iload_n 1, 1) := bdX7_carryOut_0.2.2.2.2.2.2.2.2.2.1
theorem dX7_carryOut_17 : decode cX7_carryOut 17 = .ok (.aload_n 0, 1) := bdX7_carryOut_0.2.2.2.2.2.2.2.2.2.2.1
theorem dX7_carryOut_18 : decode cX7_carryOut 18 = .ok (.getfield 203, 3) := bdX7_carryOut_0.2.2.2.2.2.2.2.2.2.2.2.1
theorem dX7_carryOut_21 : decode cX7_carryOut 21 = .ok (.if_icmp .ge 17, 3) := bdX7_carryOut_0.2.2.2.2.2.2.2.2.2.2.2.2.1
theorem dX7_carryOut_24 : decode cX7_carryOut 24 = .ok (.aload_n 0, 1) := bdX7_carryOut_0.2.2.2.2.2.2.2.2.2.2.2.2.2.1
theorem dX7_carryOut_25 : decode cX7_carryOut 25 = .ok (.iload_n 1, 1) := bdX7_carryOut_0.2.2.2.2.2.2.2.2.2.2.2.2.2.2.1
theorem dX7_carryOut_26 : decode cX7_carryOut 26 = .ok (.invokevirtual 221, 3) := bdX7_carryOut_0.2.2.2.2.2.2.2.2.2.2.2.2.2.2.2
theorem bdX7_carryOut_29 : decode cX7_carryOut 29 = .ok (.ifCond .lt 9, 3) ∧ decode cX7_carryOut 32 = .ok (.iinc 1 1, 3) ∧ decode cX7_carryOut 35 = .ok (.goto (-19), 3) ∧ decode cX7_carryOut 38 = .ok (.aload_n 0, 1) ∧ decode cX7_carryOut 39 = .ok (.iconst 0, 1) ∧ decode cX7_carryOut 40 = .ok (.putfield 179, 3) ∧ decode cX7_carryOut 43 = .ok (.iload_n 1, 1) ∧ decode cX7_carryOut 44 = .ok (.ireturn, 1) := by decide +kernel
theorem dX7_carryOut_29 : decode cX7_carryOut 29 = .ok (.ifCond .lt 9, 3) := bdX7_carryOut_29.1
theorem dX7_carryOut_32 : decode cX7_carryOut 32 = .ok (.iinc 1 1, 3) := bdX7_carryOut_29.2.1
theorem dX7_carryOut_35 : decode cX7_carryOut 35 = .ok (.goto (-19), 3) := bdX7_carryOut_29.2.2.1
theorem dX7_carryOut_38 : decode cX7_carryOut 38 = .ok (.aload_n 0, 1) := bdX7_carryOut_29.2.2.2.1
theorem dX7_carryOut_39 : decode cX7_carryOut 39 = .ok (.iconst 0, 1) := bdX7_carryOut_29.2.2.2.2.1
theorem dX7_carryOut_40 : decode cX7_carryOut 40 = .ok (.putfield 179, 3) := bdX7_carryOut_29.2.2.2.2.2.1
theorem dX7_carryOut_43 : decode cX7_carryOut 43 = .ok (.iload_n 1, 1) := bdX7_carryOut_29.2.2.2.2.2.2.1
theorem dX7_carryOut_44 : decode cX7_carryOut 44 = .ok (.ireturn, 1) := bdX7_carryOut_29.2.2.2.2.2.2.2
theorem bdX7_undo_0 : decode cX7_undo 0 = .ok (.aload_n 0, 1) ∧ decode cX7_undo 1 = .ok (.getfield 39, 3) ∧ decode cX7_undo 4 = .ok (.ifCond .ne 6, 3) ∧ decode cX7_undo 7 = .ok (.bipush (-5), 2) ∧ decode cX7_undo 9 = .ok (.ireturn, 1) ∧ decode cX7_undo 10 = .ok (.aload_n 0, 1) ∧ decode cX7_undo 11 = .ok (.dup, 1) ∧ decode cX7_undo 12 = .ok (.getfield 39, 3) ∧ decode cX7_undo 15 = .ok (.iconst 1, 1) ∧ decode cX7_undo 16 = .ok (.isub, 1) ∧ decode cX7_undo 17 = .ok (.putfield 39, 3) ∧ decode cX7_undo 20 = .ok (.iconst 0, 1) ∧ decode cX7_undo 21 = .ok (.istore_n 1, 1) ∧ decode cX7_undo 22 = .ok (.iload_n 1, 1) ∧ decode cX7_undo 23 = .ok (.sipush 3592, 3) ∧ decode cX7_undo 26 = .ok (.if_icmp .ge 30, 3) := by decide +kernel
theorem dX7_undo_0 : decode cX7_undo 0 = .ok (.aload_n 0, 1) := bdX7_undo_0.1
theorem dX7_undo_1 : decode cX7_undo 1 = .ok (.getfield 39, 3) := bdX7_undo_0.2.1
theorem dX7_undo_4 : decode cX7_undo 4 = .ok (.ifCond .ne 6, 3) := bdX7_undo_0.2.2.1
theorem dX7_undo_7 : decode cX7_undo 7 = .ok (.bipush (-5), 2) := bdX7_undo_0.2.2.2.1
theorem dX7_undo_9 : decode cX7_undo 9 = .ok (.ireturn, 1) := bdX7_undo_0.2.2.2.2.1
theorem dX7_undo_10 : decode cX7_undo 10 = .ok (.aload_n 0, 1) := bdX7_undo_0.2.2.2.2.2.1
theorem dX7_undo_11 : decode cX7_undo 11 = .ok (.dup, 1) := bdX7_undo_0.2.2.2.2.2.2.1
theorem dX7_undo_12 : decode cX7_undo 12 = .ok (.getfield 39, 3) := bdX7_undo_0.2.2.2.2.2.2.2.1
theorem dX7_undo_15 : decode cX7_undo 15 = .ok (.iconst 1, 1) := bdX7_undo_0.2.2.2.2.2.2.2.2.1
theorem dX7_undo_16 : decode cX7_undo 16 = .ok (.isub, 1) := bdX7_undo_0.2.2.2.2.2.2.2.2.2.1
theorem dX7_undo_17 : decode cX7_undo 17 = .ok (.putfield 39, 3) := bdX7_undo_0.2.2.2.2.2.2.2.2.2.2.1
theorem dX7_undo_20 : decode cX7_undo 20 = .ok (.iconst 0, 1) := bdX7_undo_0.2.2.2.2.2.2.2.2.2.2.2.1
theorem dX7_undo_21 : decode cX7_undo 21 = .ok (.istore_n 1, 1) := bdX7_undo_0.2.2.2.2.2.2.2.2.2.2.2.2.1
theorem dX7_undo_22 : decode cX7_undo 22 = .ok (.iload_n 1, 1) := bdX7_undo_0.2.2.2.2.2.2.2.2.2.2.2.2.2.1
theorem dX7_undo_23 : decode cX7_undo 23 = .ok (.sipush 3592, 3) := bdX7_undo_0.2.2.2.2.2.2.2.2.2.2.2.2.2.2.1
theorem dX7_undo_26 : decode cX7_undo 26 = .ok (.if_icmp .ge 30, 3) := bdX7_undo_0.2.2.2.2.2.2.2.2.2.2.2.2.2.2.2
theorem bdX7_undo_29 : decode cX7_undo 29 = .ok (.aload_n 0, 1) ∧ decode cX7_undo 30 = .ok (.getfield 7, 3) ∧ decode cX7_undo 33 = .ok (.iload_n 1, 1) ∧ decode cX7_undo 34 = .ok (.aload_n 0, 1) ∧ decode cX7_undo 35 = .ok (.getfield 13, 3) ∧ decode cX7_undo 38 = .ok (.sipush 3592, 3) ∧ decode cX7_undo 41 = .ok (.aload_n 0, 1) ∧ decode cX7_undo 42 = .ok (.getfield 39, 3) ∧ decode cX7_undo 45 = .ok (.imul, 1) ∧ decode cX7_undo 46 = .ok (.iload_n 1, 1) ∧ decode cX7_undo 47 = .ok (.iadd, 1) ∧ decode cX7_undo 48 = .ok (.iaload, 1) ∧ decode cX7_undo 49 = .ok (.iastore, 1) ∧ decode cX7_undo 50 = .ok (.iinc 1 1, 3) ∧ decode cX7_undo 53 = .ok (.goto (-31), 3) ∧ decode cX7_undo 56 = .ok (.aload_n 0, 1) := by decide +kernel
theorem dX7_undo_29 : decode cX7_undo 29 = .ok (.aload_n 0, 1) := bdX7_undo_29.1
theorem dX7_undo_30 : decode cX7_undo 30 = .ok (.getfield 7, 3) := bdX7_undo_29.2.1
theorem dX7_undo_33 : decode cX7_undo 33 = .ok (.iload_n 1, 1) := bdX7_undo_29.2.2.1
theorem dX7_undo_34 : decode cX7_undo 34 = .ok (.aload_n 0, 1) := bdX7_undo_29.2.2.2.1
theorem dX7_undo_35 : decode cX7_undo 35 = .ok (.getfield 13, 3) := bdX7_undo_29.2.2.2.2.1
theorem dX7_undo_38 : decode cX7_undo 38 = .ok (.sipush 3592, 3) := bdX7_undo_29.2.2.2.2.2.1
theorem dX7_undo_41 : decode cX7_undo 41 = .ok (.aload_n 0, 1) := bdX7_undo_29.2.2.2.2.2.2.1
theorem dX7_undo_42 : decode cX7_undo 42 = .ok (.getfield 39, 3) := bdX7_undo_29.2.2.2.2.2.2.2.1
theorem dX7_undo_45 : decode cX7_undo 45 = .ok (.imul, 1) := bdX7_undo_29.2.2.2.2.2.2.2.2.1
theorem dX7_undo_46 : decode cX7_undo 46 = .ok (.iload_n 1, 1) := bdX7_undo_29.2.2.2.2.2.2.2.2.2.1
theorem dX7_undo_47 : decode cX7_undo 47 = .ok (.iadd, 1) := bdX7_undo_29.2.2.2.2.2.2.2.2.2.2.1
theorem dX7_undo_48 : decode cX7_undo 48 = .ok (.iaload, 1) := bdX7_undo_29.2.2.2.2.2.2.2.2.2.2.2.1
theorem dX7_undo_49 : decode cX7_undo 49 = .ok (.iastore, 1) := bdX7_undo_29.2.2.2.2.2.2.2.2.2.2.2.2.1
theorem dX7_undo_50 : decode cX7_undo 50 = .ok (.iinc 1 1, 3) := bdX7_undo_29.2.2.2.2.2.2.2.2.2.2.2.2.2.1
theorem dX7_undo_53 : decode cX7_undo 53 = .ok (.goto (-31), 3) := bdX7_undo_29.2.2.2.2.2.2.2.2.2.2.2.2.2.2.1
theorem dX7_undo_56 : decode cX7_undo 56 = .ok (.aload_n 0, 1) := bdX7_undo_29.2.2.2.2.2.2.2.2.2.2.2.2.2.2.2
theorem bdX7_undo_57 : decode cX7_undo 57 = .ok (.getfield 39, 3) ∧ decode cX7_undo 60 = .ok (.ireturn, 1) := by decide +kernel
theorem dX7_undo_57 : decode cX7_undo 57 = .ok (.getfield 39, 3) := bdX7_undo_57.1
theorem dX7_undo_60 : decode cX7_undo 60 = .ok (.ireturn, 1) := bdX7_undo_57.2
theorem bdX7_save_0 : decode cX7_save 0 = .ok (.iload_n 1, 1) ∧ decode cX7_save 1 = .ok (.iconst 0, 1) ∧ decode cX7_save 2 = .ok (.iconst 1, 1) ∧ decode cX7_save 3 = .ok (.invokestatic 35, 3) ∧ decode cX7_save 6 = .ok (.ifCond .ne 6, 3) ∧ decode cX7_save 9 = .ok (.bipush (-2), 2) ∧ decode cX7_save 11 = .ok (.ireturn, 1) ∧ decode cX7_save 12 = .ok (.iconst 0, 1) ∧ decode cX7_save 13 = .ok (.istore_n 2, 1) ∧ decode cX7_save 14 = .ok (.iload_n 2, 1) ∧ decode cX7_save 15 = .ok (.sipush 3592, 3) ∧ decode cX7_save 18 = .ok (.if_icmp .ge 27, 3) ∧ decode cX7_save 21 = .ok (.aload_n 0, 1) ∧ decode cX7_save 22 = .ok (.getfield 16, 3) ∧ decode cX7_save 25 = .ok (.sipush 3592, 3) ∧ decode cX7_save 28 = .ok (.iload_n 1, 1) := by decide +kernel
theorem dX7_save_0 : decode cX7_save 0 = .ok (.iload_n 1, 1) := bdX7_save_0.1
theorem dX7_save_1 : decode cX7_save 1 = .ok (.iconst 0, 1) := bdX7_save_0.2.1
theorem dX7_save_2 : decode cX7_save 2 = .ok (.iconst 1, 1) := bdX7_save_0.2.2.1
theorem dX7_save_3 : decode cX7_save 3 = .ok (.invokestatic 35, 3) := bdX7_save_0.2.2.2.1
theorem dX7_save_6 : decode cX7_save 6 = .ok (.ifCond .ne 6, 3) := bdX7_save_0.2.2.2.2.1
theorem dX7_save_9 : decode cX7_save 9 = .ok (.bipush (-2), 2) := bdX7_save_0.2.2.2.2.2.1
theorem dX7_save_11 : decode cX7_save 11 = .ok (.ireturn, 1) := bdX7_save_0.2.2.2.2.2.2.1
theorem dX7_save_12 : decode cX7_save 12 = .ok (.iconst 0, 1) := bdX7_save_0.2.2.2.2.2.2.2.1
theorem dX7_save_13 : decode cX7_save 13 = .ok (.istore_n 2, 1) := bdX7_save_0.2.2.2.2.2.2.2.2.1
theorem dX7_save_14 : decode cX7_save 14 = .ok (.iload_n 2, 1) := bdX7_save_0.2.2.2.2.2.2.2.2.2.1
theorem dX7_save_15 : decode cX7_save 15 = .ok (.sipush 3592, 3) := bdX7_save_0.2.2.2.2.2.2.2.2.2.2.1
theorem dX7_save_18 : decode cX7_save 18 = .ok (.if_icmp .ge 27, 3) := bdX7_save_0.2.2.2.2.2.2.2.2.2.2.2.1
theorem dX7_save_21 : decode cX7_save 21 = .ok (.aload_n 0, 1) := bdX7_save_0.2.2.2.2.2.2.2.2.2.2.2.2.1
theorem dX7_save_22 : decode cX7_save 22 = .ok (.getfield 16, 3) := bdX7_save_0.2.2.2.2.2.2.2.2.2.2.2.2.2.1
theorem dX7_save_25 : decode cX7_save 25 = .ok (.sipush 3592, 3) := bdX7_save_0.2.2.2.2.2.2.2.2.2.2.2.2.2.2.1
theorem dX7_save_28 : decode cX7_save 28 = .ok (.iload_n 1, 1) := bdX7_save_0.2.2.2.2.2.2.2.2.2.2.2.2.2.2.2
theorem bdX7_save_29 : decode cX7_save 29 = .ok (.imul, 1) ∧ decode cX7_save 30 = .ok (.iload_n 2, 1) ∧ decode cX7_save 31 = .ok (.iadd, 1) ∧ decode cX7_save 32 = .ok (.aload_n 0, 1) ∧ decode cX7_save 33 = .ok (.getfield 7, 3) ∧ decode cX7_save 36 = .ok (.iload_n 2, 1) ∧ decode cX7_save 37 = .ok (.iaload, 1) ∧ decode cX7_save 38 = .ok (.iastore, 1) ∧ decode cX7_save 39 = .ok (.iinc 2 1, 3) ∧ decode cX7_save 42 = .ok (.goto (-28), 3) ∧ decode cX7_save 45 = .ok (.aload_n 0, 1) ∧ decode cX7_save 46 = .ok (.getfield 19, 3) ∧ decode cX7_save 49 = .ok (.iload_n 1, 1) ∧ decode cX7_save 50 = .ok (.iconst 1, 1) ∧ decode cX7_save 51 = .ok (.bastore, 1) ∧ decode cX7_save 52 = .ok (.aload_n 0, 1) := by decide +kernel
theorem dX7_save_29 : decode cX7_save 29 = .ok (.imul, 1) := bdX7_save_29.1
theorem dX7_save_30 : decode cX7_save 30 = .ok (.iload_n 2, 1) := bdX7_save_29.2.1
theorem dX7_save_31 : decode cX7_save 31 = .ok (.iadd, 1) := bdX7_save_29.2.2.1
theorem dX7_save_32 : decode cX7_save 32 = .ok (.aload_n 0, 1) := bdX7_save_29.2.2.2.1
theorem dX7_save_33 : decode cX7_save 33 = .ok (.getfield 7, 3) := bdX7_save_29.2.2.2.2.1
theorem dX7_save_36 : decode cX7_save 36 = .ok (.iload_n 2, 1) := bdX7_save_29.2.2.2.2.2.1
theorem dX7_save_37 : decode cX7_save 37 = .ok (.iaload, 1) := bdX7_save_29.2.2.2.2.2.2.1
theorem dX7_save_38 : decode cX7_save 38 = .ok (.iastore, 1) := bdX7_save_29.2.2.2.2.2.2.2.1
theorem dX7_save_39 : decode cX7_save 39 = .ok (.iinc 2 1, 3) := bdX7_save_29.2.2.2.2.2.2.2.2.1
theorem dX7_save_42 : decode cX7_save 42 = .ok (.goto (-28), 3) := bdX7_save_29.2.2.2.2.2.2.2.2.2.1
theorem dX7_save_45 : decode cX7_save 45 = .ok (.aload_n 0, 1) := bdX7_save_29.2.2.2.2.2.2.2.2.2.2.1
theorem dX7_save_46 : decode cX7_save 46 = .ok (.getfield 19, 3) := bdX7_save_29.2.2.2.2.2.2.2.2.2.2.2.1
theorem dX7_save_49 : decode cX7_save 49 = .ok (.iload_n 1, 1) := bdX7_save_29.2.2.2.2.2.2.2.2.2.2.2.2.1
theorem dX7_save_50 : decode cX7_save 50 = .ok (.iconst 1, 1) := bdX7_save_29.2.2.2.2.2.2.2.2.2.2.2.2.2.1
theorem dX7_save_51 : decode cX7_save 51 = .ok (.bastore, 1) := bdX7_save_29.2.2.2.2.2.2.2.2.2.2.2.2.2.2.1
theorem dX7_save_52 : decode cX7_save 52 = .ok (.aload_n 0, 1) := bdX7_save_29.2.2.2.2.2.2.2.2.2.2.2.2.2.2.2
theorem bdX7_save_53 : decode cX7_save 53 = .ok (.getfield 7, 3) ∧ decode cX7_save 56 = .ok (.bipush 10, 2) ∧ decode cX7_save 58 = .ok (.iaload, 1) ∧ decode cX7_save 59 = .ok (.ireturn, 1) := by decide +kernel
theorem dX7_save_53 : decode cX7_save 53 = .ok (.getfield 7, 3) := bdX7_save_53.1
theorem dX7_save_56 : decode cX7_save 56 = .ok (.bipush 10, 2) := bdX7_save_53.2.1
theorem dX7_save_58 : decode cX7_save 58 = .ok (.iaload, 1) := bdX7_save_53.2.2.1
theorem dX7_save_59 : decode cX7_save 59 = .ok (.ireturn, 1) := bdX7_save_53.2.2.2
theorem bdX7_restore_0 : decode cX7_restore 0 = .ok (.iload_n 1, 1) ∧ decode cX7_restore 1 = .ok (.iconst 0, 1) ∧ decode cX7_restore 2 = .ok (.iconst 1, 1) ∧ decode cX7_restore 3 = .ok (.invokestatic 35, 3) ∧ decode cX7_restore 6 = .ok (.ifCond .ne 6, 3) ∧ decode cX7_restore 9 = .ok (.bipush (-2), 2) ∧ decode cX7_restore 11 = .ok (.ireturn, 1) ∧ decode cX7_restore 12 = .ok (.aload_n 0, 1) ∧ decode cX7_restore 13 = .ok (.getfield 19, 3) ∧ decode cX7_restore 16 = .ok (.iload_n 1, 1) ∧ decode cX7_restore 17 = .ok (.baload, 1) ∧ decode cX7_restore 18 = .ok (.ifCond .ne 6, 3) ∧ decode cX7_restore 21 = .ok (.bipush (-5), 2) ∧ decode cX7_restore 23 = .ok (.ireturn, 1) ∧ decode cX7_restore 24 = .ok (.aload_n 0, 1) ∧ decode cX7_restore 25 = .ok (.invokevirtual 43, 3) := by decide +kernel
theorem dX7_restore_0 : decode cX7_restore 0 = .ok (.iload_n 1, 1) := bdX7_restore_0.1
theorem dX7_restore_1 : decode cX7_restore 1 = .ok (.iconst 0, 1) := bdX7_restore_0.2.1
theorem dX7_restore_2 : decode cX7_restore 2 = .ok (.iconst 1, 1) := bdX7_restore_0.2.2.1
theorem dX7_restore_3 : decode cX7_restore 3 = .ok (.invokestatic 35, 3) := bdX7_restore_0.2.2.2.1
theorem dX7_restore_6 : decode cX7_restore 6 = .ok (.ifCond .ne 6, 3) := bdX7_restore_0.2.2.2.2.1
theorem dX7_restore_9 : decode cX7_restore 9 = .ok (.bipush (-2), 2) := bdX7_restore_0.2.2.2.2.2.1
theorem dX7_restore_11 : decode cX7_restore 11 = .ok (.ireturn, 1) := bdX7_restore_0.2.2.2.2.2.2.1
theorem dX7_restore_12 : decode cX7_restore 12 = .ok (.aload_n 0, 1) := bdX7_restore_0.2.2.2.2.2.2.2.1
theorem dX7_restore_13 : decode cX7_restore 13 = .ok (.getfield 19, 3) := bdX7_restore_0.2.2.2.2.2.2.2.2.1
theorem dX7_restore_16 : decode cX7_restore 16 = .ok (.iload_n 1, 1) := bdX7_restore_0.2.2.2.2.2.2.2.2.2.1
theorem dX7_restore_17 : decode cX7_restore 17 = .ok (.baload, 1) := bdX7_restore_0.2.2.2.2.2.2.2.2.2.2.1
theorem dX7_restore_18 : decode cX7_restore 18 = .ok (.ifCond .ne 6, 3) := bdX7_restore_0.2.2.2.2.2.2.2.2.2.2.2.1
theorem dX7_restore_21 : decode cX7_restore 21 = .ok (.bipush (-5), 2) := bdX7_restore_0.2.2.2.2.2.2.2.2.2.2.2.2.1
theorem dX7_restore_23 : decode cX7_restore 23 = .ok (.ireturn, 1) := bdX7_restore_0.2.2.2.2.2.2.2.2.2.2.2.2.2.1
theorem dX7_restore_24 : decode cX7_restore 24 = .ok (.aload_n 0, 1) := bdX7_restore_0.2.2.2.2.2.2.2.2.2.2.2.2.2.2.1
theorem dX7_restore_25 : decode cX7_restore 25 = .ok (.invokevirtual 43, 3) := bdX7_restore_0.2.2.2.2.2.2.2.2.2.2.2.2.2.2.2
theorem bdX7_restore_28 : decode cX7_restore 28 = .ok (.iconst 0, 1) ∧ decode cX7_restore 29 = .ok (.istore_n 2, 1) ∧ decode cX7_restore 30 = .ok (.iload_n 2, 1) ∧ decode cX7_restore 31 = .ok (.sipush 3592, 3) ∧ decode cX7_restore 34 = .ok (.if_icmp .ge 27, 3) ∧ decode cX7_restore 37 = .ok (.aload_n 0, 1) ∧ decode cX7_restore 38 = .ok (.getfield 7, 3) ∧ decode cX7_restore 41 = .ok (.iload_n 2, 1) ∧ decode cX7_restore 42 = .ok (.aload_n 0, 1) ∧ decode cX7_restore 43 = .ok (.getfield 16, 3) ∧ decode cX7_restore 46 = .ok (.sipush 3592, 3) ∧ decode cX7_restore 49 = .ok (.iload_n 1, 1) ∧ decode cX7_restore 50 = .ok (.imul, 1) ∧ decode cX7_restore 51 = .ok (.iload_n 2, 1) ∧ decode cX7_restore 52 = .ok (.iadd, 1) ∧ decode cX7_restore 53 = .ok (.iaload, 1) := by decide +kernel
theorem dX7_restore_28 : decode cX7_restore 28 = .ok (.iconst 0, 1) := bdX7_restore_28.1
theorem dX7_restore_29 : decode cX7_restore 29 = .ok (.istore_n 2, 1) := bdX7_restore_28.2.1
theorem dX7_restore_30 : decode cX7_restore 30 = .ok (.iload_n 2, 1) := bdX7_restore_28.2.2.1
theorem dX7_restore_31 : decode cX7_restore 31 = .ok (.sipush 3592, 3) := bdX7_restore_28.2.2.2.1
theorem dX7_restore_34 : decode cX7_restore 34 = .ok (.if_icmp .ge 27, 3) := bdX7_restore_28.2.2.2.2.1
theorem dX7_restore_37 : decode cX7_restore 37 = .ok (.aload_n 0, 1) := bdX7_restore_28.2.2.2.2.2.1
theorem dX7_restore_38 : decode cX7_restore 38 = .ok (.getfield 7, 3) := bdX7_restore_28.2.2.2.2.2.2.1
theorem dX7_restore_41 : decode cX7_restore 41 = .ok (.iload_n 2, 1) := bdX7_restore_28.2.2.2.2.2.2.2.1
theorem dX7_restore_42 : decode cX7_restore 42 = .ok (.aload_n 0, 1) := bdX7_restore_28.2.2.2.2.2.2.2.2.1
theorem dX7_restore_43 : decode cX7_restore 43 = .ok (.getfield 16, 3) := bdX7_restore_28.2.2.2.2.2.2.2.2.2.1
theorem dX7_restore_46 : decode cX7_restore 46 = .ok (.sipush 3592, 3) := bdX7_restore_28.2.2.2.2.2.2.2.2.2.2.1
theorem dX7_restore_49 : decode cX7_restore 49 = .ok (.iload_n 1, 1) := bdX7_restore_28.2.2.2.2.2.2.2.2.2.2.2.1
theorem dX7_restore_50 : decode cX7_restore 50 = .ok (.imul, 1) := bdX7_restore_28.2.2.2.2.2.2.2.2.2.2.2.2.1
theorem dX7_restore_51 : decode cX7_restore 51 = .ok (.iload_n 2, 1) := bdX7_restore_28.2.2.2.2.2.2.2.2.2.2.2.2.2.1
theorem dX7_restore_52 : decode cX7_restore 52 = .ok (.iadd, 1) := bdX7_restore_28.2.2.2.2.2.2.2.2.2.2.2.2.2.2.1
theorem dX7_restore_53 : decode cX7_restore 53 = .ok (.iaload, 1) := bdX7_restore_28.2.2.2.2.2.2.2.2.2.2.2.2.2.2.2
theorem bdX7_restore_54 : decode cX7_restore 54 = .ok (.iastore, 1) ∧ decode cX7_restore 55 = .ok (.iinc 2 1, 3) ∧ decode cX7_restore 58 = .ok (.goto (-28), 3) ∧ decode cX7_restore 61 = .ok (.aload_n 0, 1) ∧ decode cX7_restore 62 = .ok (.getfield 7, 3) ∧ decode cX7_restore 65 = .ok (.bipush 10, 2) ∧ decode cX7_restore 67 = .ok (.iaload, 1) ∧ decode cX7_restore 68 = .ok (.ireturn, 1) := by decide +kernel
theorem dX7_restore_54 : decode cX7_restore 54 = .ok (.iastore, 1) := bdX7_restore_54.1
theorem dX7_restore_55 : decode cX7_restore 55 = .ok (.iinc 2 1, 3) := bdX7_restore_54.2.1
theorem dX7_restore_58 : decode cX7_restore 58 = .ok (.goto (-28), 3) := bdX7_restore_54.2.2.1
theorem dX7_restore_61 : decode cX7_restore 61 = .ok (.aload_n 0, 1) := bdX7_restore_54.2.2.2.1
theorem dX7_restore_62 : decode cX7_restore 62 = .ok (.getfield 7, 3) := bdX7_restore_54.2.2.2.2.1
theorem dX7_restore_65 : decode cX7_restore 65 = .ok (.bipush 10, 2) := bdX7_restore_54.2.2.2.2.2.1
theorem dX7_restore_67 : decode cX7_restore 67 = .ok (.iaload, 1) := bdX7_restore_54.2.2.2.2.2.2.1
theorem dX7_restore_68 : decode cX7_restore 68 = .ok (.ireturn, 1) := bdX7_restore_54.2.2.2.2.2.2.2
